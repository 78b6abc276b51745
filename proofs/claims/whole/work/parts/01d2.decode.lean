theorem dX10_isRefusedChain_177 : decode cX10_isRefusedChain 177 = .ok (.dup, 1) := by decide +kernel
theorem dX10_isRefusedChain_178 : decode cX10_isRefusedChain 178 = .ok (.getfield 64, 3) := by decide +kernel
theorem dX10_isRefusedChain_181 : decode cX10_isRefusedChain 181 = .ok (.iconst 1, 1) := by decide +kernel
theorem dX10_isRefusedChain_182 : decode cX10_isRefusedChain 182 = .ok (.iadd, 1) := by decide +kernel
theorem dX10_isRefusedChain_183 : decode cX10_isRefusedChain 183 = .ok (.putfield 64, 3) := by decide +kernel
theorem dX10_isRefusedChain_186 : decode cX10_isRefusedChain 186 = .ok (.iinc 4 1, 3) := by decide +kernel
theorem dX10_isRefusedChain_189 : decode cX10_isRefusedChain 189 = .ok (.goto (-107), 3) := by decide +kernel
theorem dX10_isRefusedChain_192 : decode cX10_isRefusedChain 192 = .ok (.iconst 0, 1) := by decide +kernel
theorem dX10_isRefusedChain_193 : decode cX10_isRefusedChain 193 = .ok (.ireturn, 1) := by decide +kernel
theorem dX10_size_0 : decode cX10_size 0 = .ok (.iload_n 0, 1) := by decide +kernel
theorem dX10_size_1 : decode cX10_size 1 = .ok (.ifCond .ge 8, 3) := by decide +kernel
theorem dX10_size_4 : decode cX10_size 4 = .ok (.iload_n 0, 1) := by decide +kernel
theorem dX10_size_5 : decode cX10_size 5 = .ok (.ineg, 1) := by decide +kernel
theorem dX10_size_6 : decode cX10_size 6 = .ok (.goto 4, 3) := by decide +kernel
theorem dX10_size_9 : decode cX10_size 9 = .ok (.iload_n 0, 1) := by decide +kernel
theorem dX10_size_10 : decode cX10_size 10 = .ok (.ireturn, 1) := by decide +kernel
theorem dX10_lays_0 : decode cX10_lays 0 = .ok (.aload_n 0, 1) := by decide +kernel
theorem dX10_lays_1 : decode cX10_lays 1 = .ok (.iload_n 1, 1) := by decide +kernel
theorem dX10_lays_2 : decode cX10_lays 2 = .ok (.iconst 4, 1) := by decide +kernel
theorem dX10_lays_3 : decode cX10_lays 3 = .ok (.invokevirtual 111, 3) := by decide +kernel
theorem dX10_lays_6 : decode cX10_lays 6 = .ok (.istore 4, 2) := by decide +kernel
theorem dX10_lays_8 : decode cX10_lays 8 = .ok (.aload_n 0, 1) := by decide +kernel
theorem dX10_lays_9 : decode cX10_lays 9 = .ok (.iload_n 1, 1) := by decide +kernel
theorem dX10_lays_10 : decode cX10_lays 10 = .ok (.iconst 5, 1) := by decide +kernel
theorem dX10_lays_11 : decode cX10_lays 11 = .ok (.iconst 2, 1) := by decide +kernel
theorem dX10_lays_12 : decode cX10_lays 12 = .ok (.iload 4, 2) := by decide +kernel
theorem dX10_lays_14 : decode cX10_lays 14 = .ok (.imul, 1) := by decide +kernel
theorem dX10_lays_15 : decode cX10_lays 15 = .ok (.iadd, 1) := by decide +kernel
theorem dX10_lays_16 : decode cX10_lays 16 = .ok (.iload_n 2, 1) := by decide +kernel
theorem dX10_lays_17 : decode cX10_lays 17 = .ok (.invokevirtual 123, 3) := by decide +kernel
theorem dX10_lays_20 : decode cX10_lays 20 = .ok (.aload_n 0, 1) := by decide +kernel
theorem dX10_lays_21 : decode cX10_lays 21 = .ok (.iload_n 1, 1) := by decide +kernel
theorem dX10_lays_22 : decode cX10_lays 22 = .ok (.iconst 5, 1) := by decide +kernel
theorem dX10_lays_23 : decode cX10_lays 23 = .ok (.iconst 2, 1) := by decide +kernel
theorem dX10_lays_24 : decode cX10_lays 24 = .ok (.iload 4, 2) := by decide +kernel
theorem dX10_lays_26 : decode cX10_lays 26 = .ok (.imul, 1) := by decide +kernel
theorem dX10_lays_27 : decode cX10_lays 27 = .ok (.iadd, 1) := by decide +kernel
theorem dX10_lays_28 : decode cX10_lays 28 = .ok (.iconst 1, 1) := by decide +kernel
theorem dX10_lays_29 : decode cX10_lays 29 = .ok (.iadd, 1) := by decide +kernel
theorem dX10_lays_30 : decode cX10_lays 30 = .ok (.iload_n 3, 1) := by decide +kernel
theorem dX10_lays_31 : decode cX10_lays 31 = .ok (.invokevirtual 123, 3) := by decide +kernel
theorem dX10_lays_34 : decode cX10_lays 34 = .ok (.aload_n 0, 1) := by decide +kernel
theorem dX10_lays_35 : decode cX10_lays 35 = .ok (.iload_n 1, 1) := by decide +kernel
theorem dX10_lays_36 : decode cX10_lays 36 = .ok (.iconst 4, 1) := by decide +kernel
theorem dX10_lays_37 : decode cX10_lays 37 = .ok (.iload 4, 2) := by decide +kernel
theorem dX10_lays_39 : decode cX10_lays 39 = .ok (.iconst 1, 1) := by decide +kernel
theorem dX10_lays_40 : decode cX10_lays 40 = .ok (.iadd, 1) := by decide +kernel
theorem dX10_lays_41 : decode cX10_lays 41 = .ok (.invokevirtual 123, 3) := by decide +kernel
theorem dX10_lays_44 : decode cX10_lays 44 = .ok (.aload_n 0, 1) := by decide +kernel
theorem dX10_lays_45 : decode cX10_lays 45 = .ok (.iload_n 1, 1) := by decide +kernel
theorem dX10_lays_46 : decode cX10_lays 46 = .ok (.iload 4, 2) := by decide +kernel
theorem dX10_lays_48 : decode cX10_lays 48 = .ok (.iconst 1, 1) := by decide +kernel
theorem dX10_lays_49 : decode cX10_lays 49 = .ok (.iadd, 1) := by decide +kernel
theorem dX10_lays_50 : decode cX10_lays 50 = .ok (.invokevirtual 187, 3) := by decide +kernel
theorem dX10_lays_53 : decode cX10_lays 53 = .ok (.aload_n 0, 1) := by decide +kernel
theorem dX10_lays_54 : decode cX10_lays 54 = .ok (.getfield 54, 3) := by decide +kernel
theorem dX10_lays_57 : decode cX10_lays 57 = .ok (.aload_n 0, 1) := by decide +kernel
theorem dX10_lays_58 : decode cX10_lays 58 = .ok (.iload_n 1, 1) := by decide +kernel
theorem dX10_lays_59 : decode cX10_lays 59 = .ok (.iconst 2, 1) := by decide +kernel
theorem dX10_lays_60 : decode cX10_lays 60 = .ok (.invokevirtual 111, 3) := by decide +kernel
theorem dX10_lays_63 : decode cX10_lays 63 = .ok (.isub, 1) := by decide +kernel
theorem dX10_lays_64 : decode cX10_lays 64 = .ok (.invokestatic 201, 3) := by decide +kernel
theorem dX10_lays_67 : decode cX10_lays 67 = .ok (.aload_n 0, 1) := by decide +kernel
theorem dX10_lays_68 : decode cX10_lays 68 = .ok (.getfield 57, 3) := by decide +kernel
theorem dX10_lays_71 : decode cX10_lays 71 = .ok (.aload_n 0, 1) := by decide +kernel
theorem dX10_lays_72 : decode cX10_lays 72 = .ok (.iload_n 1, 1) := by decide +kernel
theorem dX10_lays_73 : decode cX10_lays 73 = .ok (.iconst 3, 1) := by decide +kernel
theorem dX10_lays_74 : decode cX10_lays 74 = .ok (.invokevirtual 111, 3) := by decide +kernel
theorem dX10_lays_77 : decode cX10_lays 77 = .ok (.isub, 1) := by decide +kernel
theorem dX10_lays_78 : decode cX10_lays 78 = .ok (.invokestatic 201, 3) := by decide +kernel
theorem dX10_lays_81 : decode cX10_lays 81 = .ok (.iadd, 1) := by decide +kernel
theorem dX10_lays_82 : decode cX10_lays 82 = .ok (.istore 5, 2) := by decide +kernel
theorem dX10_lays_84 : decode cX10_lays 84 = .ok (.iload 5, 2) := by decide +kernel
theorem dX10_lays_86 : decode cX10_lays 86 = .ok (.ifCond .ne 10, 3) := by decide +kernel
theorem dX10_lays_89 : decode cX10_lays 89 = .ok (.aload_n 0, 1) := by decide +kernel
theorem dX10_lays_90 : decode cX10_lays 90 = .ok (.iload_n 1, 1) := by decide +kernel
theorem dX10_lays_91 : decode cX10_lays 91 = .ok (.iconst 1, 1) := by decide +kernel
theorem dX10_lays_92 : decode cX10_lays 92 = .ok (.iconst 2, 1) := by decide +kernel
theorem dX10_lays_93 : decode cX10_lays 93 = .ok (.invokevirtual 123, 3) := by decide +kernel
theorem dX10_lays_96 : decode cX10_lays 96 = .ok (.iload 5, 2) := by decide +kernel
theorem dX10_lays_98 : decode cX10_lays 98 = .ok (.ireturn, 1) := by decide +kernel
theorem dX10_directionOf_0 : decode cX10_directionOf 0 = .ok (.iload_n 0, 1) := by decide +kernel
theorem dX10_directionOf_1 : decode cX10_directionOf 1 = .ok (.bipush 110, 2) := by decide +kernel
theorem dX10_directionOf_3 : decode cX10_directionOf 3 = .ok (.if_icmp .ne 7, 3) := by decide +kernel
theorem dX10_directionOf_6 : decode cX10_directionOf 6 = .ok (.iconst 0, 1) := by decide +kernel
theorem dX10_directionOf_7 : decode cX10_directionOf 7 = .ok (.goto 34, 3) := by decide +kernel
theorem dX10_directionOf_10 : decode cX10_directionOf 10 = .ok (.iload_n 0, 1) := by decide +kernel
theorem dX10_directionOf_11 : decode cX10_directionOf 11 = .ok (.bipush 101, 2) := by decide +kernel
theorem dX10_directionOf_13 : decode cX10_directionOf 13 = .ok (.if_icmp .ne 7, 3) := by decide +kernel
theorem dX10_directionOf_16 : decode cX10_directionOf 16 = .ok (.iconst 1, 1) := by decide +kernel
theorem dX10_directionOf_17 : decode cX10_directionOf 17 = .ok (.goto 24, 3) := by decide +kernel
theorem dX10_directionOf_20 : decode cX10_directionOf 20 = .ok (.iload_n 0, 1) := by decide +kernel
theorem dX10_directionOf_21 : decode cX10_directionOf 21 = .ok (.bipush 115, 2) := by decide +kernel
theorem dX10_directionOf_23 : decode cX10_directionOf 23 = .ok (.if_icmp .ne 7, 3) := by decide +kernel
theorem dX10_directionOf_26 : decode cX10_directionOf 26 = .ok (.iconst 2, 1) := by decide +kernel
theorem dX10_directionOf_27 : decode cX10_directionOf 27 = .ok (.goto 14, 3) := by decide +kernel
theorem dX10_directionOf_30 : decode cX10_directionOf 30 = .ok (.iload_n 0, 1) := by decide +kernel
theorem dX10_directionOf_31 : decode cX10_directionOf 31 = .ok (.bipush 119, 2) := by decide +kernel
theorem dX10_directionOf_33 : decode cX10_directionOf 33 = .ok (.if_icmp .ne 7, 3) := by decide +kernel
theorem dX10_directionOf_36 : decode cX10_directionOf 36 = .ok (.iconst 3, 1) := by decide +kernel
theorem dX10_directionOf_37 : decode cX10_directionOf 37 = .ok (.goto 4, 3) := by decide +kernel
theorem dX10_directionOf_40 : decode cX10_directionOf 40 = .ok (.iconst (-1), 1) := by decide +kernel
theorem dX10_directionOf_41 : decode cX10_directionOf 41 = .ok (.ireturn, 1) := by decide +kernel
theorem dX10_isLength_0 : decode cX10_isLength 0 = .ok (.iload_n 0, 1) := by decide +kernel
theorem dX10_isLength_1 : decode cX10_isLength 1 = .ok (.iconst 1, 1) := by decide +kernel
theorem dX10_isLength_2 : decode cX10_isLength 2 = .ok (.bipush 9, 2) := by decide +kernel
theorem dX10_isLength_4 : decode cX10_isLength 4 = .ok (.invokestatic 115, 3) := by decide +kernel
theorem dX10_isLength_7 : decode cX10_isLength 7 = .ok (.ireturn, 1) := by decide +kernel
theorem dX10_chain_0 : decode cX10_chain 0 = .ok (.aload_n 0, 1) := by decide +kernel
theorem dX10_chain_1 : decode cX10_chain 1 = .ok (.invokevirtual 127, 3) := by decide +kernel
theorem dX10_chain_4 : decode cX10_chain 4 = .ok (.aload_n 0, 1) := by decide +kernel
theorem dX10_chain_5 : decode cX10_chain 5 = .ok (.iload_n 1, 1) := by decide +kernel
theorem dX10_chain_6 : decode cX10_chain 6 = .ok (.invokevirtual 166, 3) := by decide +kernel
theorem dX10_chain_9 : decode cX10_chain 9 = .ok (.ifCond .ne 9, 3) := by decide +kernel
theorem dX10_chain_12 : decode cX10_chain 12 = .ok (.aload_n 0, 1) := by decide +kernel
theorem dX10_chain_13 : decode cX10_chain 13 = .ok (.iconst 1, 1) := by decide +kernel
theorem dX10_chain_14 : decode cX10_chain 14 = .ok (.invokevirtual 103, 3) := by decide +kernel
theorem dX10_chain_17 : decode cX10_chain 17 = .ok (.ireturn, 1) := by decide +kernel
theorem dX10_chain_18 : decode cX10_chain 18 = .ok (.iload_n 2, 1) := by decide +kernel
theorem dX10_chain_19 : decode cX10_chain 19 = .ok (.invokestatic 204, 3) := by decide +kernel
theorem dX10_chain_22 : decode cX10_chain 22 = .ok (.ifCond .lt 10, 3) := by decide +kernel
theorem dX10_chain_25 : decode cX10_chain 25 = .ok (.iload_n 3, 1) := by decide +kernel
theorem dX10_chain_26 : decode cX10_chain 26 = .ok (.invokestatic 207, 3) := by decide +kernel
theorem dX10_chain_29 : decode cX10_chain 29 = .ok (.ifCond .ne 9, 3) := by decide +kernel
theorem dX10_chain_32 : decode cX10_chain 32 = .ok (.aload_n 0, 1) := by decide +kernel
theorem dX10_chain_33 : decode cX10_chain 33 = .ok (.iconst 2, 1) := by decide +kernel
theorem dX10_chain_34 : decode cX10_chain 34 = .ok (.invokevirtual 103, 3) := by decide +kernel
theorem dX10_chain_37 : decode cX10_chain 37 = .ok (.ireturn, 1) := by decide +kernel
theorem dX10_chain_38 : decode cX10_chain 38 = .ok (.aload_n 0, 1) := by decide +kernel
theorem dX10_chain_39 : decode cX10_chain 39 = .ok (.iload_n 1, 1) := by decide +kernel
theorem dX10_chain_40 : decode cX10_chain 40 = .ok (.iload_n 2, 1) := by decide +kernel
theorem dX10_chain_41 : decode cX10_chain 41 = .ok (.invokestatic 204, 3) := by decide +kernel
theorem dX10_chain_44 : decode cX10_chain 44 = .ok (.iload_n 3, 1) := by decide +kernel
theorem dX10_chain_45 : decode cX10_chain 45 = .ok (.invokevirtual 210, 3) := by decide +kernel
theorem dX10_chain_48 : decode cX10_chain 48 = .ok (.ifCond .eq 11, 3) := by decide +kernel
theorem dX10_chain_51 : decode cX10_chain 51 = .ok (.aload_n 0, 1) := by decide +kernel
theorem dX10_chain_52 : decode cX10_chain 52 = .ok (.iconst 3, 1) := by decide +kernel
theorem dX10_chain_53 : decode cX10_chain 53 = .ok (.invokevirtual 134, 3) := by decide +kernel
theorem dX10_chain_56 : decode cX10_chain 56 = .ok (.goto 17, 3) := by decide +kernel
theorem dX10_chain_59 : decode cX10_chain 59 = .ok (.aload_n 0, 1) := by decide +kernel
theorem dX10_chain_60 : decode cX10_chain 60 = .ok (.aload_n 0, 1) := by decide +kernel
theorem dX10_chain_61 : decode cX10_chain 61 = .ok (.iload_n 1, 1) := by decide +kernel
theorem dX10_chain_62 : decode cX10_chain 62 = .ok (.iload_n 2, 1) := by decide +kernel
theorem dX10_chain_63 : decode cX10_chain 63 = .ok (.invokestatic 204, 3) := by decide +kernel
theorem dX10_chain_66 : decode cX10_chain 66 = .ok (.iload_n 3, 1) := by decide +kernel
theorem dX10_chain_67 : decode cX10_chain 67 = .ok (.invokevirtual 213, 3) := by decide +kernel
theorem dX10_chain_70 : decode cX10_chain 70 = .ok (.invokevirtual 140, 3) := by decide +kernel
theorem dX10_chain_73 : decode cX10_chain 73 = .ok (.ireturn, 1) := by decide +kernel
theorem dX10_hasChain_0 : decode cX10_hasChain 0 = .ok (.aload_n 0, 1) := by decide +kernel
theorem dX10_hasChain_1 : decode cX10_hasChain 1 = .ok (.iload_n 1, 1) := by decide +kernel
theorem dX10_hasChain_2 : decode cX10_hasChain 2 = .ok (.invokevirtual 166, 3) := by decide +kernel
theorem dX10_hasChain_5 : decode cX10_hasChain 5 = .ok (.ifCond .eq 23, 3) := by decide +kernel
theorem dX10_hasChain_8 : decode cX10_hasChain 8 = .ok (.iload_n 2, 1) := by decide +kernel
theorem dX10_hasChain_9 : decode cX10_hasChain 9 = .ok (.iconst 0, 1) := by decide +kernel
theorem dX10_hasChain_10 : decode cX10_hasChain 10 = .ok (.aload_n 0, 1) := by decide +kernel
theorem dX10_hasChain_11 : decode cX10_hasChain 11 = .ok (.iload_n 1, 1) := by decide +kernel
theorem dX10_hasChain_12 : decode cX10_hasChain 12 = .ok (.iconst 4, 1) := by decide +kernel
theorem dX10_hasChain_13 : decode cX10_hasChain 13 = .ok (.invokevirtual 111, 3) := by decide +kernel
theorem dX10_hasChain_16 : decode cX10_hasChain 16 = .ok (.iconst 1, 1) := by decide +kernel
theorem dX10_hasChain_17 : decode cX10_hasChain 17 = .ok (.isub, 1) := by decide +kernel
theorem dX10_hasChain_18 : decode cX10_hasChain 18 = .ok (.invokestatic 115, 3) := by decide +kernel
theorem dX10_hasChain_21 : decode cX10_hasChain 21 = .ok (.ifCond .eq 7, 3) := by decide +kernel
theorem dX10_hasChain_24 : decode cX10_hasChain 24 = .ok (.iconst 1, 1) := by decide +kernel
theorem dX10_hasChain_25 : decode cX10_hasChain 25 = .ok (.goto 4, 3) := by decide +kernel
theorem dX10_hasChain_28 : decode cX10_hasChain 28 = .ok (.iconst 0, 1) := by decide +kernel
theorem dX10_hasChain_29 : decode cX10_hasChain 29 = .ok (.ireturn, 1) := by decide +kernel
theorem dX10_isBend_0 : decode cX10_isBend 0 = .ok (.iload_n 0, 1) := by decide +kernel
theorem dX10_isBend_1 : decode cX10_isBend 1 = .ok (.bipush (-9), 2) := by decide +kernel
theorem dX10_isBend_3 : decode cX10_isBend 3 = .ok (.bipush 9, 2) := by decide +kernel
theorem dX10_isBend_5 : decode cX10_isBend 5 = .ok (.invokestatic 115, 3) := by decide +kernel
theorem dX10_isBend_8 : decode cX10_isBend 8 = .ok (.ifCond .eq 11, 3) := by decide +kernel
theorem dX10_isBend_11 : decode cX10_isBend 11 = .ok (.iload_n 0, 1) := by decide +kernel
theorem dX10_isBend_12 : decode cX10_isBend 12 = .ok (.ifCond .eq 7, 3) := by decide +kernel
theorem dX10_isBend_15 : decode cX10_isBend 15 = .ok (.iconst 1, 1) := by decide +kernel
theorem dX10_isBend_16 : decode cX10_isBend 16 = .ok (.goto 4, 3) := by decide +kernel
theorem dX10_isBend_19 : decode cX10_isBend 19 = .ok (.iconst 0, 1) := by decide +kernel
theorem dX10_isBend_20 : decode cX10_isBend 20 = .ok (.ireturn, 1) := by decide +kernel
theorem dX10_sideOf_0 : decode cX10_sideOf 0 = .ok (.iload_n 1, 1) := by decide +kernel
theorem dX10_sideOf_1 : decode cX10_sideOf 1 = .ok (.ifCond .le 11, 3) := by decide +kernel
theorem dX10_sideOf_4 : decode cX10_sideOf 4 = .ok (.iload_n 0, 1) := by decide +kernel
theorem dX10_sideOf_5 : decode cX10_sideOf 5 = .ok (.iconst 3, 1) := by decide +kernel
theorem dX10_sideOf_6 : decode cX10_sideOf 6 = .ok (.iadd, 1) := by decide +kernel
theorem dX10_sideOf_7 : decode cX10_sideOf 7 = .ok (.iconst 4, 1) := by decide +kernel
theorem dX10_sideOf_8 : decode cX10_sideOf 8 = .ok (.irem, 1) := by decide +kernel
theorem dX10_sideOf_9 : decode cX10_sideOf 9 = .ok (.goto 8, 3) := by decide +kernel
theorem dX10_sideOf_12 : decode cX10_sideOf 12 = .ok (.iload_n 0, 1) := by decide +kernel
theorem dX10_sideOf_13 : decode cX10_sideOf 13 = .ok (.iconst 1, 1) := by decide +kernel
theorem dX10_sideOf_14 : decode cX10_sideOf 14 = .ok (.iadd, 1) := by decide +kernel
theorem dX10_sideOf_15 : decode cX10_sideOf 15 = .ok (.iconst 4, 1) := by decide +kernel
theorem dX10_sideOf_16 : decode cX10_sideOf 16 = .ok (.irem, 1) := by decide +kernel
theorem dX10_sideOf_17 : decode cX10_sideOf 17 = .ok (.ireturn, 1) := by decide +kernel
theorem dX10_isRefusedBend_0 : decode cX10_isRefusedBend 0 = .ok (.aload_n 0, 1) := by decide +kernel
theorem dX10_isRefusedBend_1 : decode cX10_isRefusedBend 1 = .ok (.iload_n 1, 1) := by decide +kernel
theorem dX10_isRefusedBend_2 : decode cX10_isRefusedBend 2 = .ok (.iconst 1, 1) := by decide +kernel
theorem dX10_isRefusedBend_3 : decode cX10_isRefusedBend 3 = .ok (.invokevirtual 111, 3) := by decide +kernel
theorem dX10_isRefusedBend_6 : decode cX10_isRefusedBend 6 = .ok (.iconst 2, 1) := by decide +kernel
theorem dX10_isRefusedBend_7 : decode cX10_isRefusedBend 7 = .ok (.if_icmp .eq 16, 3) := by decide +kernel
theorem dX10_isRefusedBend_10 : decode cX10_isRefusedBend 10 = .ok (.aload_n 0, 1) := by decide +kernel
theorem dX10_isRefusedBend_11 : decode cX10_isRefusedBend 11 = .ok (.bipush 6, 2) := by decide +kernel
theorem dX10_isRefusedBend_13 : decode cX10_isRefusedBend 13 = .ok (.aload_n 0, 1) := by decide +kernel
theorem dX10_isRefusedBend_14 : decode cX10_isRefusedBend 14 = .ok (.iload_n 1, 1) := by decide +kernel
theorem dX10_isRefusedBend_15 : decode cX10_isRefusedBend 15 = .ok (.iconst 4, 1) := by decide +kernel
theorem dX10_isRefusedBend_16 : decode cX10_isRefusedBend 16 = .ok (.invokevirtual 111, 3) := by decide +kernel
theorem dX10_isRefusedBend_19 : decode cX10_isRefusedBend 19 = .ok (.invokevirtual 119, 3) := by decide +kernel
theorem dX10_isRefusedBend_22 : decode cX10_isRefusedBend 22 = .ok (.ireturn, 1) := by decide +kernel
theorem dX10_isRefusedBend_23 : decode cX10_isRefusedBend 23 = .ok (.aload_n 0, 1) := by decide +kernel
theorem dX10_isRefusedBend_24 : decode cX10_isRefusedBend 24 = .ok (.iload_n 1, 1) := by decide +kernel
theorem dX10_isRefusedBend_25 : decode cX10_isRefusedBend 25 = .ok (.iconst 4, 1) := by decide +kernel
theorem dX10_isRefusedBend_26 : decode cX10_isRefusedBend 26 = .ok (.invokevirtual 111, 3) := by decide +kernel
theorem dX10_isRefusedBend_29 : decode cX10_isRefusedBend 29 = .ok (.iconst 2, 1) := by decide +kernel
theorem dX10_isRefusedBend_30 : decode cX10_isRefusedBend 30 = .ok (.iadd, 1) := by decide +kernel
theorem dX10_isRefusedBend_31 : decode cX10_isRefusedBend 31 = .ok (.bipush 16, 2) := by decide +kernel
theorem dX10_isRefusedBend_33 : decode cX10_isRefusedBend 33 = .ok (.if_icmp .le 11, 3) := by decide +kernel
theorem dX10_isRefusedBend_36 : decode cX10_isRefusedBend 36 = .ok (.aload_n 0, 1) := by decide +kernel
theorem dX10_isRefusedBend_37 : decode cX10_isRefusedBend 37 = .ok (.iconst 1, 1) := by decide +kernel
theorem dX10_isRefusedBend_38 : decode cX10_isRefusedBend 38 = .ok (.bipush 16, 2) := by decide +kernel
theorem dX10_isRefusedBend_40 : decode cX10_isRefusedBend 40 = .ok (.invokevirtual 119, 3) := by decide +kernel
theorem dX10_isRefusedBend_43 : decode cX10_isRefusedBend 43 = .ok (.ireturn, 1) := by decide +kernel
theorem dX10_isRefusedBend_44 : decode cX10_isRefusedBend 44 = .ok (.aload_n 0, 1) := by decide +kernel
theorem dX10_isRefusedBend_45 : decode cX10_isRefusedBend 45 = .ok (.iload_n 1, 1) := by decide +kernel
theorem dX10_isRefusedBend_46 : decode cX10_isRefusedBend 46 = .ok (.iload_n 2, 1) := by decide +kernel
theorem dX10_isRefusedBend_47 : decode cX10_isRefusedBend 47 = .ok (.invokevirtual 194, 3) := by decide +kernel
theorem dX10_isRefusedBend_50 : decode cX10_isRefusedBend 50 = .ok (.aload_n 0, 1) := by decide +kernel
theorem dX10_isRefusedBend_51 : decode cX10_isRefusedBend 51 = .ok (.iload_n 1, 1) := by decide +kernel
theorem dX10_isRefusedBend_52 : decode cX10_isRefusedBend 52 = .ok (.iload_n 2, 1) := by decide +kernel
theorem dX10_isRefusedBend_53 : decode cX10_isRefusedBend 53 = .ok (.invokevirtual 187, 3) := by decide +kernel
theorem dX10_isRefusedBend_56 : decode cX10_isRefusedBend 56 = .ok (.aload_n 0, 1) := by decide +kernel
theorem dX10_isRefusedBend_57 : decode cX10_isRefusedBend 57 = .ok (.iconst 0, 1) := by decide +kernel
theorem dX10_isRefusedBend_58 : decode cX10_isRefusedBend 58 = .ok (.putfield 64, 3) := by decide +kernel
theorem dX10_isRefusedBend_61 : decode cX10_isRefusedBend 61 = .ok (.aload_n 0, 1) := by decide +kernel
theorem dX10_isRefusedBend_62 : decode cX10_isRefusedBend 62 = .ok (.iload_n 1, 1) := by decide +kernel
theorem dX10_isRefusedBend_63 : decode cX10_isRefusedBend 63 = .ok (.iload_n 2, 1) := by decide +kernel
theorem dX10_isRefusedBend_64 : decode cX10_isRefusedBend 64 = .ok (.invokevirtual 178, 3) := by decide +kernel
theorem dX10_isRefusedBend_67 : decode cX10_isRefusedBend 67 = .ok (.istore 4, 2) := by decide +kernel
theorem dX10_isRefusedBend_69 : decode cX10_isRefusedBend 69 = .ok (.iload 4, 2) := by decide +kernel
theorem dX10_isRefusedBend_71 : decode cX10_isRefusedBend 71 = .ok (.iload_n 3, 1) := by decide +kernel
theorem dX10_isRefusedBend_72 : decode cX10_isRefusedBend 72 = .ok (.invokestatic 216, 3) := by decide +kernel
theorem dX10_isRefusedBend_75 : decode cX10_isRefusedBend 75 = .ok (.istore 5, 2) := by decide +kernel
theorem dX10_isRefusedBend_77 : decode cX10_isRefusedBend 77 = .ok (.iconst 2, 1) := by decide +kernel
theorem dX10_isRefusedBend_78 : decode cX10_isRefusedBend 78 = .ok (.iload_n 3, 1) := by decide +kernel
theorem dX10_isRefusedBend_79 : decode cX10_isRefusedBend 79 = .ok (.invokestatic 201, 3) := by decide +kernel
theorem dX10_isRefusedBend_82 : decode cX10_isRefusedBend 82 = .ok (.imul, 1) := by decide +kernel
theorem dX10_isRefusedBend_83 : decode cX10_isRefusedBend 83 = .ok (.aload_n 0, 1) := by decide +kernel
theorem dX10_isRefusedBend_84 : decode cX10_isRefusedBend 84 = .ok (.iload_n 1, 1) := by decide +kernel
theorem dX10_isRefusedBend_85 : decode cX10_isRefusedBend 85 = .ok (.iload_n 2, 1) := by decide +kernel
theorem dX10_isRefusedBend_86 : decode cX10_isRefusedBend 86 = .ok (.invokevirtual 175, 3) := by decide +kernel
theorem dX10_isRefusedBend_89 : decode cX10_isRefusedBend 89 = .ok (.iadd, 1) := by decide +kernel
theorem dX10_isRefusedBend_90 : decode cX10_isRefusedBend 90 = .ok (.istore 6, 2) := by decide +kernel
theorem dX10_isRefusedBend_92 : decode cX10_isRefusedBend 92 = .ok (.aload_n 0, 1) := by decide +kernel
theorem dX10_isRefusedBend_93 : decode cX10_isRefusedBend 93 = .ok (.getfield 54, 3) := by decide +kernel
theorem dX10_isRefusedBend_96 : decode cX10_isRefusedBend 96 = .ok (.istore 7, 2) := by decide +kernel
theorem dX10_isRefusedBend_98 : decode cX10_isRefusedBend 98 = .ok (.aload_n 0, 1) := by decide +kernel
theorem dX10_isRefusedBend_99 : decode cX10_isRefusedBend 99 = .ok (.getfield 57, 3) := by decide +kernel
theorem dX10_isRefusedBend_102 : decode cX10_isRefusedBend 102 = .ok (.istore 8, 2) := by decide +kernel
theorem dX10_isRefusedBend_104 : decode cX10_isRefusedBend 104 = .ok (.iconst 1, 1) := by decide +kernel
theorem dX10_isRefusedBend_105 : decode cX10_isRefusedBend 105 = .ok (.istore 9, 2) := by decide +kernel
theorem dX10_isRefusedBend_107 : decode cX10_isRefusedBend 107 = .ok (.iload 9, 2) := by decide +kernel
theorem dX10_isRefusedBend_109 : decode cX10_isRefusedBend 109 = .ok (.iload 6, 2) := by decide +kernel
theorem dX10_isRefusedBend_111 : decode cX10_isRefusedBend 111 = .ok (.if_icmp .ge 96, 3) := by decide +kernel
theorem dX10_isRefusedBend_114 : decode cX10_isRefusedBend 114 = .ok (.iload 9, 2) := by decide +kernel
theorem dX10_isRefusedBend_116 : decode cX10_isRefusedBend 116 = .ok (.iload_n 3, 1) := by decide +kernel
theorem dX10_isRefusedBend_117 : decode cX10_isRefusedBend 117 = .ok (.invokestatic 201, 3) := by decide +kernel
theorem dX10_isRefusedBend_120 : decode cX10_isRefusedBend 120 = .ok (.if_icmp .gt 8, 3) := by decide +kernel
theorem dX10_isRefusedBend_123 : decode cX10_isRefusedBend 123 = .ok (.iload 5, 2) := by decide +kernel
theorem dX10_isRefusedBend_125 : decode cX10_isRefusedBend 125 = .ok (.goto 30, 3) := by decide +kernel
theorem dX10_isRefusedBend_128 : decode cX10_isRefusedBend 128 = .ok (.iload 9, 2) := by decide +kernel
theorem dX10_isRefusedBend_130 : decode cX10_isRefusedBend 130 = .ok (.iload_n 3, 1) := by decide +kernel
theorem dX10_isRefusedBend_131 : decode cX10_isRefusedBend 131 = .ok (.invokestatic 201, 3) := by decide +kernel
theorem dX10_isRefusedBend_134 : decode cX10_isRefusedBend 134 = .ok (.aload_n 0, 1) := by decide +kernel
theorem dX10_isRefusedBend_135 : decode cX10_isRefusedBend 135 = .ok (.iload_n 1, 1) := by decide +kernel
theorem dX10_isRefusedBend_136 : decode cX10_isRefusedBend 136 = .ok (.iload_n 2, 1) := by decide +kernel
theorem dX10_isRefusedBend_137 : decode cX10_isRefusedBend 137 = .ok (.invokevirtual 175, 3) := by decide +kernel
theorem dX10_isRefusedBend_140 : decode cX10_isRefusedBend 140 = .ok (.iadd, 1) := by decide +kernel
theorem dX10_isRefusedBend_141 : decode cX10_isRefusedBend 141 = .ok (.if_icmp .gt 8, 3) := by decide +kernel
theorem dX10_isRefusedBend_144 : decode cX10_isRefusedBend 144 = .ok (.iload 4, 2) := by decide +kernel
theorem dX10_isRefusedBend_146 : decode cX10_isRefusedBend 146 = .ok (.goto 9, 3) := by decide +kernel
theorem dX10_isRefusedBend_149 : decode cX10_isRefusedBend 149 = .ok (.iload 5, 2) := by decide +kernel
theorem dX10_isRefusedBend_151 : decode cX10_isRefusedBend 151 = .ok (.iconst 2, 1) := by decide +kernel
theorem dX10_isRefusedBend_152 : decode cX10_isRefusedBend 152 = .ok (.iadd, 1) := by decide +kernel
theorem dX10_isRefusedBend_153 : decode cX10_isRefusedBend 153 = .ok (.iconst 4, 1) := by decide +kernel
theorem dX10_isRefusedBend_154 : decode cX10_isRefusedBend 154 = .ok (.irem, 1) := by decide +kernel
theorem dX10_isRefusedBend_155 : decode cX10_isRefusedBend 155 = .ok (.istore 10, 2) := by decide +kernel
theorem dX10_isRefusedBend_157 : decode cX10_isRefusedBend 157 = .ok (.iload 7, 2) := by decide +kernel
theorem dX10_isRefusedBend_159 : decode cX10_isRefusedBend 159 = .ok (.iload 10, 2) := by decide +kernel
theorem dX10_isRefusedBend_161 : decode cX10_isRefusedBend 161 = .ok (.invokestatic 181, 3) := by decide +kernel
theorem dX10_isRefusedBend_164 : decode cX10_isRefusedBend 164 = .ok (.iadd, 1) := by decide +kernel
theorem dX10_isRefusedBend_165 : decode cX10_isRefusedBend 165 = .ok (.istore 7, 2) := by decide +kernel
theorem dX10_isRefusedBend_167 : decode cX10_isRefusedBend 167 = .ok (.iload 8, 2) := by decide +kernel
theorem dX10_isRefusedBend_169 : decode cX10_isRefusedBend 169 = .ok (.iload 10, 2) := by decide +kernel
theorem dX10_isRefusedBend_171 : decode cX10_isRefusedBend 171 = .ok (.invokestatic 184, 3) := by decide +kernel
theorem dX10_isRefusedBend_174 : decode cX10_isRefusedBend 174 = .ok (.iadd, 1) := by decide +kernel
theorem dX10_isRefusedBend_175 : decode cX10_isRefusedBend 175 = .ok (.istore 8, 2) := by decide +kernel
theorem dX10_isRefusedBend_177 : decode cX10_isRefusedBend 177 = .ok (.aload_n 0, 1) := by decide +kernel
theorem dX10_isRefusedBend_178 : decode cX10_isRefusedBend 178 = .ok (.iload 7, 2) := by decide +kernel
theorem dX10_isRefusedBend_180 : decode cX10_isRefusedBend 180 = .ok (.iload 8, 2) := by decide +kernel
theorem dX10_isRefusedBend_182 : decode cX10_isRefusedBend 182 = .ok (.iconst 0, 1) := by decide +kernel
theorem dX10_isRefusedBend_183 : decode cX10_isRefusedBend 183 = .ok (.invokevirtual 197, 3) := by decide +kernel
theorem dX10_isRefusedBend_186 : decode cX10_isRefusedBend 186 = .ok (.ifCond .eq 5, 3) := by decide +kernel
theorem dX10_isRefusedBend_189 : decode cX10_isRefusedBend 189 = .ok (.iconst 1, 1) := by decide +kernel
theorem dX10_isRefusedBend_190 : decode cX10_isRefusedBend 190 = .ok (.ireturn, 1) := by decide +kernel
theorem dX10_isRefusedBend_191 : decode cX10_isRefusedBend 191 = .ok (.aload_n 0, 1) := by decide +kernel
theorem dX10_isRefusedBend_192 : decode cX10_isRefusedBend 192 = .ok (.dup, 1) := by decide +kernel
theorem dX10_isRefusedBend_193 : decode cX10_isRefusedBend 193 = .ok (.getfield 64, 3) := by decide +kernel
theorem dX10_isRefusedBend_196 : decode cX10_isRefusedBend 196 = .ok (.iconst 1, 1) := by decide +kernel
theorem dX10_isRefusedBend_197 : decode cX10_isRefusedBend 197 = .ok (.iadd, 1) := by decide +kernel
theorem dX10_isRefusedBend_198 : decode cX10_isRefusedBend 198 = .ok (.putfield 64, 3) := by decide +kernel
theorem dX10_isRefusedBend_201 : decode cX10_isRefusedBend 201 = .ok (.iinc 9 1, 3) := by decide +kernel
theorem dX10_isRefusedBend_204 : decode cX10_isRefusedBend 204 = .ok (.goto (-97), 3) := by decide +kernel
theorem dX10_isRefusedBend_207 : decode cX10_isRefusedBend 207 = .ok (.iconst 0, 1) := by decide +kernel
theorem dX10_isRefusedBend_208 : decode cX10_isRefusedBend 208 = .ok (.ireturn, 1) := by decide +kernel
theorem dX10_bends_0 : decode cX10_bends 0 = .ok (.aload_n 0, 1) := by decide +kernel
theorem dX10_bends_1 : decode cX10_bends 1 = .ok (.iload_n 1, 1) := by decide +kernel
theorem dX10_bends_2 : decode cX10_bends 2 = .ok (.iload_n 2, 1) := by decide +kernel
theorem dX10_bends_3 : decode cX10_bends 3 = .ok (.invokevirtual 178, 3) := by decide +kernel
theorem dX10_bends_6 : decode cX10_bends 6 = .ok (.istore 4, 2) := by decide +kernel
theorem dX10_bends_8 : decode cX10_bends 8 = .ok (.aload_n 0, 1) := by decide +kernel
theorem dX10_bends_9 : decode cX10_bends 9 = .ok (.iload_n 1, 1) := by decide +kernel
theorem dX10_bends_10 : decode cX10_bends 10 = .ok (.iload_n 2, 1) := by decide +kernel
theorem dX10_bends_11 : decode cX10_bends 11 = .ok (.invokevirtual 175, 3) := by decide +kernel
theorem dX10_bends_14 : decode cX10_bends 14 = .ok (.istore 5, 2) := by decide +kernel
theorem dX10_bends_16 : decode cX10_bends 16 = .ok (.iload 4, 2) := by decide +kernel
theorem dX10_bends_18 : decode cX10_bends 18 = .ok (.iload_n 3, 1) := by decide +kernel
theorem dX10_bends_19 : decode cX10_bends 19 = .ok (.invokestatic 216, 3) := by decide +kernel
theorem dX10_bends_22 : decode cX10_bends 22 = .ok (.istore 6, 2) := by decide +kernel
theorem dX10_bends_24 : decode cX10_bends 24 = .ok (.aload_n 0, 1) := by decide +kernel
theorem dX10_bends_25 : decode cX10_bends 25 = .ok (.iload_n 1, 1) := by decide +kernel
theorem dX10_bends_26 : decode cX10_bends 26 = .ok (.iconst 4, 1) := by decide +kernel
theorem dX10_bends_27 : decode cX10_bends 27 = .ok (.invokevirtual 111, 3) := by decide +kernel
theorem dX10_bends_30 : decode cX10_bends 30 = .ok (.istore 7, 2) := by decide +kernel
theorem dX10_bends_32 : decode cX10_bends 32 = .ok (.iload 7, 2) := by decide +kernel
theorem dX10_bends_34 : decode cX10_bends 34 = .ok (.iconst 1, 1) := by decide +kernel
theorem dX10_bends_35 : decode cX10_bends 35 = .ok (.isub, 1) := by decide +kernel
theorem dX10_bends_36 : decode cX10_bends 36 = .ok (.istore 8, 2) := by decide +kernel
theorem dX10_bends_38 : decode cX10_bends 38 = .ok (.iload 8, 2) := by decide +kernel
theorem dX10_bends_40 : decode cX10_bends 40 = .ok (.iload_n 2, 1) := by decide +kernel
theorem dX10_bends_41 : decode cX10_bends 41 = .ok (.if_icmp .le 49, 3) := by decide +kernel
theorem dX10_bends_44 : decode cX10_bends 44 = .ok (.aload_n 0, 1) := by decide +kernel
theorem dX10_bends_45 : decode cX10_bends 45 = .ok (.iload_n 1, 1) := by decide +kernel
theorem dX10_bends_46 : decode cX10_bends 46 = .ok (.iconst 5, 1) := by decide +kernel
theorem dX10_bends_47 : decode cX10_bends 47 = .ok (.iconst 2, 1) := by decide +kernel
theorem dX10_bends_48 : decode cX10_bends 48 = .ok (.iload 8, 2) := by decide +kernel
theorem dX10_bends_50 : decode cX10_bends 50 = .ok (.imul, 1) := by decide +kernel
theorem dX10_bends_51 : decode cX10_bends 51 = .ok (.iadd, 1) := by decide +kernel
theorem dX10_bends_52 : decode cX10_bends 52 = .ok (.iconst 4, 1) := by decide +kernel
theorem dX10_bends_53 : decode cX10_bends 53 = .ok (.iadd, 1) := by decide +kernel
theorem dX10_bends_54 : decode cX10_bends 54 = .ok (.aload_n 0, 1) := by decide +kernel
theorem dX10_bends_55 : decode cX10_bends 55 = .ok (.iload_n 1, 1) := by decide +kernel
theorem dX10_bends_56 : decode cX10_bends 56 = .ok (.iload 8, 2) := by decide +kernel
theorem dX10_bends_58 : decode cX10_bends 58 = .ok (.invokevirtual 178, 3) := by decide +kernel
theorem dX10_bends_61 : decode cX10_bends 61 = .ok (.invokevirtual 123, 3) := by decide +kernel
theorem dX10_bends_64 : decode cX10_bends 64 = .ok (.aload_n 0, 1) := by decide +kernel
theorem dX10_bends_65 : decode cX10_bends 65 = .ok (.iload_n 1, 1) := by decide +kernel
theorem dX10_bends_66 : decode cX10_bends 66 = .ok (.iconst 5, 1) := by decide +kernel
theorem dX10_bends_67 : decode cX10_bends 67 = .ok (.iconst 2, 1) := by decide +kernel
theorem dX10_bends_68 : decode cX10_bends 68 = .ok (.iload 8, 2) := by decide +kernel
theorem dX10_bends_70 : decode cX10_bends 70 = .ok (.imul, 1) := by decide +kernel
theorem dX10_bends_71 : decode cX10_bends 71 = .ok (.iadd, 1) := by decide +kernel
theorem dX10_bends_72 : decode cX10_bends 72 = .ok (.iconst 5, 1) := by decide +kernel
theorem dX10_bends_73 : decode cX10_bends 73 = .ok (.iadd, 1) := by decide +kernel
theorem dX10_bends_74 : decode cX10_bends 74 = .ok (.aload_n 0, 1) := by decide +kernel
theorem dX10_bends_75 : decode cX10_bends 75 = .ok (.iload_n 1, 1) := by decide +kernel
theorem dX10_bends_76 : decode cX10_bends 76 = .ok (.iload 8, 2) := by decide +kernel
theorem dX10_bends_78 : decode cX10_bends 78 = .ok (.invokevirtual 175, 3) := by decide +kernel
theorem dX10_bends_81 : decode cX10_bends 81 = .ok (.invokevirtual 123, 3) := by decide +kernel
theorem dX10_bends_84 : decode cX10_bends 84 = .ok (.iinc 8 (-1), 3) := by decide +kernel
theorem dX10_bends_87 : decode cX10_bends 87 = .ok (.goto (-49), 3) := by decide +kernel
theorem dX10_bends_90 : decode cX10_bends 90 = .ok (.aload_n 0, 1) := by decide +kernel
theorem dX10_bends_91 : decode cX10_bends 91 = .ok (.iload_n 1, 1) := by decide +kernel
theorem dX10_bends_92 : decode cX10_bends 92 = .ok (.iconst 5, 1) := by decide +kernel
theorem dX10_bends_93 : decode cX10_bends 93 = .ok (.iconst 2, 1) := by decide +kernel
theorem dX10_bends_94 : decode cX10_bends 94 = .ok (.iload_n 2, 1) := by decide +kernel
theorem dX10_bends_95 : decode cX10_bends 95 = .ok (.imul, 1) := by decide +kernel
theorem dX10_bends_96 : decode cX10_bends 96 = .ok (.iadd, 1) := by decide +kernel
theorem dX10_bends_97 : decode cX10_bends 97 = .ok (.iload 6, 2) := by decide +kernel
theorem dX10_bends_99 : decode cX10_bends 99 = .ok (.invokevirtual 123, 3) := by decide +kernel
theorem dX10_bends_102 : decode cX10_bends 102 = .ok (.aload_n 0, 1) := by decide +kernel
theorem dX10_bends_103 : decode cX10_bends 103 = .ok (.iload_n 1, 1) := by decide +kernel
theorem dX10_bends_104 : decode cX10_bends 104 = .ok (.iconst 5, 1) := by decide +kernel
theorem dX10_bends_105 : decode cX10_bends 105 = .ok (.iconst 2, 1) := by decide +kernel
theorem dX10_bends_106 : decode cX10_bends 106 = .ok (.iload_n 2, 1) := by decide +kernel
theorem dX10_bends_107 : decode cX10_bends 107 = .ok (.imul, 1) := by decide +kernel
theorem dX10_bends_108 : decode cX10_bends 108 = .ok (.iadd, 1) := by decide +kernel
theorem dX10_bends_109 : decode cX10_bends 109 = .ok (.iconst 1, 1) := by decide +kernel
theorem dX10_bends_110 : decode cX10_bends 110 = .ok (.iadd, 1) := by decide +kernel
theorem dX10_bends_111 : decode cX10_bends 111 = .ok (.iload_n 3, 1) := by decide +kernel
theorem dX10_bends_112 : decode cX10_bends 112 = .ok (.invokestatic 201, 3) := by decide +kernel
theorem dX10_bends_115 : decode cX10_bends 115 = .ok (.invokevirtual 123, 3) := by decide +kernel
theorem dX10_bends_118 : decode cX10_bends 118 = .ok (.aload_n 0, 1) := by decide +kernel
theorem dX10_bends_119 : decode cX10_bends 119 = .ok (.iload_n 1, 1) := by decide +kernel
theorem dX10_bends_120 : decode cX10_bends 120 = .ok (.iconst 5, 1) := by decide +kernel
theorem dX10_bends_121 : decode cX10_bends 121 = .ok (.iconst 2, 1) := by decide +kernel
theorem dX10_bends_122 : decode cX10_bends 122 = .ok (.iload_n 2, 1) := by decide +kernel
theorem dX10_bends_123 : decode cX10_bends 123 = .ok (.imul, 1) := by decide +kernel
theorem dX10_bends_124 : decode cX10_bends 124 = .ok (.iadd, 1) := by decide +kernel
theorem dX10_bends_125 : decode cX10_bends 125 = .ok (.iconst 2, 1) := by decide +kernel
theorem dX10_bends_126 : decode cX10_bends 126 = .ok (.iadd, 1) := by decide +kernel
theorem dX10_bends_127 : decode cX10_bends 127 = .ok (.iload 4, 2) := by decide +kernel
theorem dX10_bends_129 : decode cX10_bends 129 = .ok (.invokevirtual 123, 3) := by decide +kernel
theorem dX10_bends_132 : decode cX10_bends 132 = .ok (.aload_n 0, 1) := by decide +kernel
theorem dX10_bends_133 : decode cX10_bends 133 = .ok (.iload_n 1, 1) := by decide +kernel
theorem dX10_bends_134 : decode cX10_bends 134 = .ok (.iconst 5, 1) := by decide +kernel
theorem dX10_bends_135 : decode cX10_bends 135 = .ok (.iconst 2, 1) := by decide +kernel
theorem dX10_bends_136 : decode cX10_bends 136 = .ok (.iload_n 2, 1) := by decide +kernel
theorem dX10_bends_137 : decode cX10_bends 137 = .ok (.imul, 1) := by decide +kernel
theorem dX10_bends_138 : decode cX10_bends 138 = .ok (.iadd, 1) := by decide +kernel
theorem dX10_bends_139 : decode cX10_bends 139 = .ok (.iconst 3, 1) := by decide +kernel
theorem dX10_bends_140 : decode cX10_bends 140 = .ok (.iadd, 1) := by decide +kernel
theorem dX10_bends_141 : decode cX10_bends 141 = .ok (.iload 5, 2) := by decide +kernel
theorem dX10_bends_143 : decode cX10_bends 143 = .ok (.invokevirtual 123, 3) := by decide +kernel
theorem dX10_bends_146 : decode cX10_bends 146 = .ok (.aload_n 0, 1) := by decide +kernel
theorem dX10_bends_147 : decode cX10_bends 147 = .ok (.iload_n 1, 1) := by decide +kernel
theorem dX10_bends_148 : decode cX10_bends 148 = .ok (.iconst 5, 1) := by decide +kernel
theorem dX10_bends_149 : decode cX10_bends 149 = .ok (.iconst 2, 1) := by decide +kernel
theorem dX10_bends_150 : decode cX10_bends 150 = .ok (.iload_n 2, 1) := by decide +kernel
theorem dX10_bends_151 : decode cX10_bends 151 = .ok (.imul, 1) := by decide +kernel
theorem dX10_bends_152 : decode cX10_bends 152 = .ok (.iadd, 1) := by decide +kernel
theorem dX10_bends_153 : decode cX10_bends 153 = .ok (.iconst 4, 1) := by decide +kernel
theorem dX10_bends_154 : decode cX10_bends 154 = .ok (.iadd, 1) := by decide +kernel
theorem dX10_bends_155 : decode cX10_bends 155 = .ok (.iload 6, 2) := by decide +kernel
theorem dX10_bends_157 : decode cX10_bends 157 = .ok (.iconst 2, 1) := by decide +kernel
theorem dX10_bends_158 : decode cX10_bends 158 = .ok (.iadd, 1) := by decide +kernel
theorem dX10_bends_159 : decode cX10_bends 159 = .ok (.iconst 4, 1) := by decide +kernel
theorem dX10_bends_160 : decode cX10_bends 160 = .ok (.irem, 1) := by decide +kernel
theorem dX10_bends_161 : decode cX10_bends 161 = .ok (.invokevirtual 123, 3) := by decide +kernel
theorem dX10_bends_164 : decode cX10_bends 164 = .ok (.aload_n 0, 1) := by decide +kernel
theorem dX10_bends_165 : decode cX10_bends 165 = .ok (.iload_n 1, 1) := by decide +kernel
theorem dX10_bends_166 : decode cX10_bends 166 = .ok (.iconst 5, 1) := by decide +kernel
theorem dX10_bends_167 : decode cX10_bends 167 = .ok (.iconst 2, 1) := by decide +kernel
theorem dX10_bends_168 : decode cX10_bends 168 = .ok (.iload_n 2, 1) := by decide +kernel
theorem dX10_bends_169 : decode cX10_bends 169 = .ok (.imul, 1) := by decide +kernel
theorem dX10_bends_170 : decode cX10_bends 170 = .ok (.iadd, 1) := by decide +kernel
theorem dX10_bends_171 : decode cX10_bends 171 = .ok (.iconst 5, 1) := by decide +kernel
theorem dX10_bends_172 : decode cX10_bends 172 = .ok (.iadd, 1) := by decide +kernel
theorem dX10_bends_173 : decode cX10_bends 173 = .ok (.iload_n 3, 1) := by decide +kernel
theorem dX10_bends_174 : decode cX10_bends 174 = .ok (.invokestatic 201, 3) := by decide +kernel
theorem dX10_bends_177 : decode cX10_bends 177 = .ok (.invokevirtual 123, 3) := by decide +kernel
theorem dX10_bends_180 : decode cX10_bends 180 = .ok (.aload_n 0, 1) := by decide +kernel
theorem dX10_bends_181 : decode cX10_bends 181 = .ok (.iload_n 1, 1) := by decide +kernel
theorem dX10_bends_182 : decode cX10_bends 182 = .ok (.iconst 4, 1) := by decide +kernel
theorem dX10_bends_183 : decode cX10_bends 183 = .ok (.iload 7, 2) := by decide +kernel
theorem dX10_bends_185 : decode cX10_bends 185 = .ok (.iconst 2, 1) := by decide +kernel
theorem dX10_bends_186 : decode cX10_bends 186 = .ok (.iadd, 1) := by decide +kernel
theorem dX10_bends_187 : decode cX10_bends 187 = .ok (.invokevirtual 123, 3) := by decide +kernel
theorem dX10_bends_190 : decode cX10_bends 190 = .ok (.aload_n 0, 1) := by decide +kernel
theorem dX10_bends_191 : decode cX10_bends 191 = .ok (.getfield 7, 3) := by decide +kernel
theorem dX10_bends_194 : decode cX10_bends 194 = .ok (.iconst 3, 1) := by decide +kernel
theorem dX10_bends_195 : decode cX10_bends 195 = .ok (.dup2, 1) := by decide +kernel
theorem dX10_bends_196 : decode cX10_bends 196 = .ok (.iaload, 1) := by decide +kernel
theorem dX10_bends_197 : decode cX10_bends 197 = .ok (.iconst 1, 1) := by decide +kernel
theorem dX10_bends_198 : decode cX10_bends 198 = .ok (.iadd, 1) := by decide +kernel
theorem dX10_bends_199 : decode cX10_bends 199 = .ok (.iastore, 1) := by decide +kernel
theorem dX10_bends_200 : decode cX10_bends 200 = .ok (.aload_n 0, 1) := by decide +kernel
theorem dX10_bends_201 : decode cX10_bends 201 = .ok (.iload_n 1, 1) := by decide +kernel
theorem dX10_bends_202 : decode cX10_bends 202 = .ok (.invokevirtual 219, 3) := by decide +kernel
theorem dX10_bends_205 : decode cX10_bends 205 = .ok (.ireturn, 1) := by decide +kernel
theorem dX10_bend_0 : decode cX10_bend 0 = .ok (.aload_n 0, 1) := by decide +kernel
theorem dX10_bend_1 : decode cX10_bend 1 = .ok (.invokevirtual 127, 3) := by decide +kernel
theorem dX10_bend_4 : decode cX10_bend 4 = .ok (.aload_n 0, 1) := by decide +kernel
theorem dX10_bend_5 : decode cX10_bend 5 = .ok (.iload_n 1, 1) := by decide +kernel
theorem dX10_bend_6 : decode cX10_bend 6 = .ok (.iload_n 2, 1) := by decide +kernel
theorem dX10_bend_7 : decode cX10_bend 7 = .ok (.invokevirtual 222, 3) := by decide +kernel
theorem dX10_bend_10 : decode cX10_bend 10 = .ok (.ifCond .ne 9, 3) := by decide +kernel
theorem dX10_bend_13 : decode cX10_bend 13 = .ok (.aload_n 0, 1) := by decide +kernel
theorem dX10_bend_14 : decode cX10_bend 14 = .ok (.iconst 1, 1) := by decide +kernel
theorem dX10_bend_15 : decode cX10_bend 15 = .ok (.invokevirtual 103, 3) := by decide +kernel
theorem dX10_bend_18 : decode cX10_bend 18 = .ok (.ireturn, 1) := by decide +kernel
theorem dX10_bend_19 : decode cX10_bend 19 = .ok (.iload_n 3, 1) := by decide +kernel
theorem dX10_bend_20 : decode cX10_bend 20 = .ok (.invokestatic 225, 3) := by decide +kernel
theorem dX10_bend_23 : decode cX10_bend 23 = .ok (.ifCond .ne 9, 3) := by decide +kernel
theorem dX10_bend_26 : decode cX10_bend 26 = .ok (.aload_n 0, 1) := by decide +kernel
theorem dX10_bend_27 : decode cX10_bend 27 = .ok (.iconst 2, 1) := by decide +kernel
theorem dX10_bend_28 : decode cX10_bend 28 = .ok (.invokevirtual 103, 3) := by decide +kernel
theorem dX10_bend_31 : decode cX10_bend 31 = .ok (.ireturn, 1) := by decide +kernel
theorem dX10_bend_32 : decode cX10_bend 32 = .ok (.aload_n 0, 1) := by decide +kernel
theorem dX10_bend_33 : decode cX10_bend 33 = .ok (.iload_n 1, 1) := by decide +kernel
theorem dX10_bend_34 : decode cX10_bend 34 = .ok (.iload_n 2, 1) := by decide +kernel
theorem dX10_bend_35 : decode cX10_bend 35 = .ok (.iload_n 3, 1) := by decide +kernel
theorem dX10_bend_36 : decode cX10_bend 36 = .ok (.invokevirtual 228, 3) := by decide +kernel
theorem dX10_bend_39 : decode cX10_bend 39 = .ok (.ifCond .eq 11, 3) := by decide +kernel
theorem dX10_bend_42 : decode cX10_bend 42 = .ok (.aload_n 0, 1) := by decide +kernel
theorem dX10_bend_43 : decode cX10_bend 43 = .ok (.iconst 3, 1) := by decide +kernel
theorem dX10_bend_44 : decode cX10_bend 44 = .ok (.invokevirtual 134, 3) := by decide +kernel
theorem dX10_bend_47 : decode cX10_bend 47 = .ok (.goto 14, 3) := by decide +kernel
theorem dX10_bend_50 : decode cX10_bend 50 = .ok (.aload_n 0, 1) := by decide +kernel
theorem dX10_bend_51 : decode cX10_bend 51 = .ok (.aload_n 0, 1) := by decide +kernel
theorem dX10_bend_52 : decode cX10_bend 52 = .ok (.iload_n 1, 1) := by decide +kernel
theorem dX10_bend_53 : decode cX10_bend 53 = .ok (.iload_n 2, 1) := by decide +kernel
theorem dX10_bend_54 : decode cX10_bend 54 = .ok (.iload_n 3, 1) := by decide +kernel
theorem dX10_bend_55 : decode cX10_bend 55 = .ok (.invokevirtual 231, 3) := by decide +kernel
theorem dX10_bend_58 : decode cX10_bend 58 = .ok (.invokevirtual 140, 3) := by decide +kernel
theorem dX10_bend_61 : decode cX10_bend 61 = .ok (.ireturn, 1) := by decide +kernel
theorem dX10_isRefusedDrop_0 : decode cX10_isRefusedDrop 0 = .ok (.aload_n 0, 1) := by decide +kernel
theorem dX10_isRefusedDrop_1 : decode cX10_isRefusedDrop 1 = .ok (.iload_n 1, 1) := by decide +kernel
theorem dX10_isRefusedDrop_2 : decode cX10_isRefusedDrop 2 = .ok (.iconst 1, 1) := by decide +kernel
theorem dX10_isRefusedDrop_3 : decode cX10_isRefusedDrop 3 = .ok (.invokevirtual 111, 3) := by decide +kernel
theorem dX10_isRefusedDrop_6 : decode cX10_isRefusedDrop 6 = .ok (.ifCond .ne 16, 3) := by decide +kernel
theorem dX10_isRefusedDrop_9 : decode cX10_isRefusedDrop 9 = .ok (.aload_n 0, 1) := by decide +kernel
theorem dX10_isRefusedDrop_10 : decode cX10_isRefusedDrop 10 = .ok (.iconst 4, 1) := by decide +kernel
theorem dX10_isRefusedDrop_11 : decode cX10_isRefusedDrop 11 = .ok (.iload_n 1, 1) := by decide +kernel
theorem dX10_isRefusedDrop_12 : decode cX10_isRefusedDrop 12 = .ok (.invokevirtual 119, 3) := by decide +kernel
theorem dX10_isRefusedDrop_15 : decode cX10_isRefusedDrop 15 = .ok (.ifCond .eq 7, 3) := by decide +kernel
theorem dX10_isRefusedDrop_18 : decode cX10_isRefusedDrop 18 = .ok (.iconst 1, 1) := by decide +kernel
theorem dX10_isRefusedDrop_19 : decode cX10_isRefusedDrop 19 = .ok (.goto 4, 3) := by decide +kernel
theorem dX10_isRefusedDrop_22 : decode cX10_isRefusedDrop 22 = .ok (.iconst 0, 1) := by decide +kernel
theorem dX10_isRefusedDrop_23 : decode cX10_isRefusedDrop 23 = .ok (.ireturn, 1) := by decide +kernel
theorem dX10_drops_0 : decode cX10_drops 0 = .ok (.aload_n 0, 1) := by decide +kernel
theorem dX10_drops_1 : decode cX10_drops 1 = .ok (.iload_n 1, 1) := by decide +kernel
theorem dX10_drops_2 : decode cX10_drops 2 = .ok (.iconst 4, 1) := by decide +kernel
theorem dX10_drops_3 : decode cX10_drops 3 = .ok (.invokevirtual 111, 3) := by decide +kernel
theorem dX10_drops_6 : decode cX10_drops 6 = .ok (.istore_n 2, 1) := by decide +kernel
theorem dX10_drops_7 : decode cX10_drops 7 = .ok (.iconst 1, 1) := by decide +kernel
theorem dX10_drops_8 : decode cX10_drops 8 = .ok (.istore_n 3, 1) := by decide +kernel
theorem dX10_drops_9 : decode cX10_drops 9 = .ok (.iload_n 3, 1) := by decide +kernel
theorem dX10_drops_10 : decode cX10_drops 10 = .ok (.bipush 37, 2) := by decide +kernel
theorem dX10_drops_12 : decode cX10_drops 12 = .ok (.if_icmp .ge 16, 3) := by decide +kernel
theorem dX10_drops_15 : decode cX10_drops 15 = .ok (.aload_n 0, 1) := by decide +kernel
theorem dX10_drops_16 : decode cX10_drops 16 = .ok (.iload_n 1, 1) := by decide +kernel
theorem dX10_drops_17 : decode cX10_drops 17 = .ok (.iload_n 3, 1) := by decide +kernel
theorem dX10_drops_18 : decode cX10_drops 18 = .ok (.iconst 0, 1) := by decide +kernel
theorem dX10_drops_19 : decode cX10_drops 19 = .ok (.invokevirtual 123, 3) := by decide +kernel
theorem dX10_drops_22 : decode cX10_drops 22 = .ok (.iinc 3 1, 3) := by decide +kernel
theorem dX10_drops_25 : decode cX10_drops 25 = .ok (.goto (-16), 3) := by decide +kernel
theorem dX10_drops_28 : decode cX10_drops 28 = .ok (.iload_n 2, 1) := by decide +kernel
theorem dX10_drops_29 : decode cX10_drops 29 = .ok (.ireturn, 1) := by decide +kernel
theorem dX10_drop_0 : decode cX10_drop 0 = .ok (.aload_n 0, 1) := by decide +kernel
theorem dX10_drop_1 : decode cX10_drop 1 = .ok (.invokevirtual 127, 3) := by decide +kernel
theorem dX10_drop_4 : decode cX10_drop 4 = .ok (.aload_n 0, 1) := by decide +kernel
theorem dX10_drop_5 : decode cX10_drop 5 = .ok (.iload_n 1, 1) := by decide +kernel
theorem dX10_drop_6 : decode cX10_drop 6 = .ok (.invokevirtual 166, 3) := by decide +kernel
theorem dX10_drop_9 : decode cX10_drop 9 = .ok (.ifCond .ne 9, 3) := by decide +kernel
theorem dX10_drop_12 : decode cX10_drop 12 = .ok (.aload_n 0, 1) := by decide +kernel
theorem dX10_drop_13 : decode cX10_drop 13 = .ok (.iconst 1, 1) := by decide +kernel
theorem dX10_drop_14 : decode cX10_drop 14 = .ok (.invokevirtual 103, 3) := by decide +kernel
theorem dX10_drop_17 : decode cX10_drop 17 = .ok (.ireturn, 1) := by decide +kernel
theorem dX10_drop_18 : decode cX10_drop 18 = .ok (.aload_n 0, 1) := by decide +kernel
theorem dX10_drop_19 : decode cX10_drop 19 = .ok (.iload_n 1, 1) := by decide +kernel
theorem dX10_drop_20 : decode cX10_drop 20 = .ok (.invokevirtual 234, 3) := by decide +kernel
theorem dX10_drop_23 : decode cX10_drop 23 = .ok (.ifCond .eq 11, 3) := by decide +kernel
theorem dX10_drop_26 : decode cX10_drop 26 = .ok (.aload_n 0, 1) := by decide +kernel
theorem dX10_drop_27 : decode cX10_drop 27 = .ok (.iconst 2, 1) := by decide +kernel
theorem dX10_drop_28 : decode cX10_drop 28 = .ok (.invokevirtual 134, 3) := by decide +kernel
theorem dX10_drop_31 : decode cX10_drop 31 = .ok (.goto 12, 3) := by decide +kernel
theorem dX10_drop_34 : decode cX10_drop 34 = .ok (.aload_n 0, 1) := by decide +kernel
theorem dX10_drop_35 : decode cX10_drop 35 = .ok (.aload_n 0, 1) := by decide +kernel
theorem dX10_drop_36 : decode cX10_drop 36 = .ok (.iload_n 1, 1) := by decide +kernel
theorem dX10_drop_37 : decode cX10_drop 37 = .ok (.invokevirtual 237, 3) := by decide +kernel
theorem dX10_drop_40 : decode cX10_drop 40 = .ok (.invokevirtual 140, 3) := by decide +kernel
theorem dX10_drop_43 : decode cX10_drop 43 = .ok (.ireturn, 1) := by decide +kernel
theorem dX10_isDepth_0 : decode cX10_isDepth 0 = .ok (.iload_n 0, 1) := by decide +kernel
theorem dX10_isDepth_1 : decode cX10_isDepth 1 = .ok (.iconst 0, 1) := by decide +kernel
theorem dX10_isDepth_2 : decode cX10_isDepth 2 = .ok (.bipush 9, 2) := by decide +kernel
theorem dX10_isDepth_4 : decode cX10_isDepth 4 = .ok (.invokestatic 115, 3) := by decide +kernel
theorem dX10_isDepth_7 : decode cX10_isDepth 7 = .ok (.ireturn, 1) := by decide +kernel
theorem dX10_isRefusedDeep_0 : decode cX10_isRefusedDeep 0 = .ok (.aload_n 0, 1) := by decide +kernel
theorem dX10_isRefusedDeep_1 : decode cX10_isRefusedDeep 1 = .ok (.iload_n 1, 1) := by decide +kernel
theorem dX10_isRefusedDeep_2 : decode cX10_isRefusedDeep 2 = .ok (.iconst 0, 1) := by decide +kernel
theorem dX10_isRefusedDeep_3 : decode cX10_isRefusedDeep 3 = .ok (.invokevirtual 111, 3) := by decide +kernel
theorem dX10_isRefusedDeep_6 : decode cX10_isRefusedDeep 6 = .ok (.iload_n 2, 1) := by decide +kernel
theorem dX10_isRefusedDeep_7 : decode cX10_isRefusedDeep 7 = .ok (.if_icmp .ne 17, 3) := by decide +kernel
theorem dX10_isRefusedDeep_10 : decode cX10_isRefusedDeep 10 = .ok (.aload_n 0, 1) := by decide +kernel
theorem dX10_isRefusedDeep_11 : decode cX10_isRefusedDeep 11 = .ok (.bipush 10, 2) := by decide +kernel
theorem dX10_isRefusedDeep_13 : decode cX10_isRefusedDeep 13 = .ok (.iload_n 2, 1) := by decide +kernel
theorem dX10_isRefusedDeep_14 : decode cX10_isRefusedDeep 14 = .ok (.invokevirtual 119, 3) := by decide +kernel
theorem dX10_isRefusedDeep_17 : decode cX10_isRefusedDeep 17 = .ok (.ifCond .eq 7, 3) := by decide +kernel
theorem dX10_isRefusedDeep_20 : decode cX10_isRefusedDeep 20 = .ok (.iconst 1, 1) := by decide +kernel
theorem dX10_isRefusedDeep_21 : decode cX10_isRefusedDeep 21 = .ok (.goto 4, 3) := by decide +kernel
theorem dX10_isRefusedDeep_24 : decode cX10_isRefusedDeep 24 = .ok (.iconst 0, 1) := by decide +kernel
theorem dX10_isRefusedDeep_25 : decode cX10_isRefusedDeep 25 = .ok (.ireturn, 1) := by decide +kernel
theorem dX10_deepens_0 : decode cX10_deepens 0 = .ok (.aload_n 0, 1) := by decide +kernel
theorem dX10_deepens_1 : decode cX10_deepens 1 = .ok (.iload_n 1, 1) := by decide +kernel
theorem dX10_deepens_2 : decode cX10_deepens 2 = .ok (.iconst 0, 1) := by decide +kernel
theorem dX10_deepens_3 : decode cX10_deepens 3 = .ok (.invokevirtual 111, 3) := by decide +kernel
theorem dX10_deepens_6 : decode cX10_deepens 6 = .ok (.istore_n 3, 1) := by decide +kernel
theorem dX10_deepens_7 : decode cX10_deepens 7 = .ok (.aload_n 0, 1) := by decide +kernel
theorem dX10_deepens_8 : decode cX10_deepens 8 = .ok (.iload_n 1, 1) := by decide +kernel
theorem dX10_deepens_9 : decode cX10_deepens 9 = .ok (.iconst 0, 1) := by decide +kernel
theorem dX10_deepens_10 : decode cX10_deepens 10 = .ok (.iload_n 2, 1) := by decide +kernel
theorem dX10_deepens_11 : decode cX10_deepens 11 = .ok (.invokevirtual 123, 3) := by decide +kernel
theorem dX10_deepens_14 : decode cX10_deepens 14 = .ok (.iload_n 3, 1) := by decide +kernel
theorem dX10_deepens_15 : decode cX10_deepens 15 = .ok (.ireturn, 1) := by decide +kernel
theorem dX10_deep_0 : decode cX10_deep 0 = .ok (.aload_n 0, 1) := by decide +kernel
theorem dX10_deep_1 : decode cX10_deep 1 = .ok (.invokevirtual 127, 3) := by decide +kernel
theorem dX10_deep_4 : decode cX10_deep 4 = .ok (.aload_n 0, 1) := by decide +kernel
theorem dX10_deep_5 : decode cX10_deep 5 = .ok (.iload_n 1, 1) := by decide +kernel
theorem dX10_deep_6 : decode cX10_deep 6 = .ok (.invokevirtual 166, 3) := by decide +kernel
theorem dX10_deep_9 : decode cX10_deep 9 = .ok (.ifCond .ne 9, 3) := by decide +kernel
theorem dX10_deep_12 : decode cX10_deep 12 = .ok (.aload_n 0, 1) := by decide +kernel
theorem dX10_deep_13 : decode cX10_deep 13 = .ok (.iconst 1, 1) := by decide +kernel
theorem dX10_deep_14 : decode cX10_deep 14 = .ok (.invokevirtual 103, 3) := by decide +kernel
theorem dX10_deep_17 : decode cX10_deep 17 = .ok (.ireturn, 1) := by decide +kernel
theorem dX10_deep_18 : decode cX10_deep 18 = .ok (.iload_n 2, 1) := by decide +kernel
theorem dX10_deep_19 : decode cX10_deep 19 = .ok (.invokestatic 240, 3) := by decide +kernel
theorem dX10_deep_22 : decode cX10_deep 22 = .ok (.ifCond .ne 9, 3) := by decide +kernel
theorem dX10_deep_25 : decode cX10_deep 25 = .ok (.aload_n 0, 1) := by decide +kernel
theorem dX10_deep_26 : decode cX10_deep 26 = .ok (.iconst 2, 1) := by decide +kernel
theorem dX10_deep_27 : decode cX10_deep 27 = .ok (.invokevirtual 103, 3) := by decide +kernel
theorem dX10_deep_30 : decode cX10_deep 30 = .ok (.ireturn, 1) := by decide +kernel
theorem dX10_deep_31 : decode cX10_deep 31 = .ok (.aload_n 0, 1) := by decide +kernel
theorem dX10_deep_32 : decode cX10_deep 32 = .ok (.iload_n 1, 1) := by decide +kernel
theorem dX10_deep_33 : decode cX10_deep 33 = .ok (.iload_n 2, 1) := by decide +kernel
theorem dX10_deep_34 : decode cX10_deep 34 = .ok (.invokevirtual 243, 3) := by decide +kernel
theorem dX10_deep_37 : decode cX10_deep 37 = .ok (.ifCond .eq 11, 3) := by decide +kernel
theorem dX10_deep_40 : decode cX10_deep 40 = .ok (.aload_n 0, 1) := by decide +kernel
theorem dX10_deep_41 : decode cX10_deep 41 = .ok (.iconst 3, 1) := by decide +kernel
theorem dX10_deep_42 : decode cX10_deep 42 = .ok (.invokevirtual 134, 3) := by decide +kernel
theorem dX10_deep_45 : decode cX10_deep 45 = .ok (.goto 13, 3) := by decide +kernel
theorem dX10_deep_48 : decode cX10_deep 48 = .ok (.aload_n 0, 1) := by decide +kernel
theorem dX10_deep_49 : decode cX10_deep 49 = .ok (.aload_n 0, 1) := by decide +kernel
theorem dX10_deep_50 : decode cX10_deep 50 = .ok (.iload_n 1, 1) := by decide +kernel
theorem dX10_deep_51 : decode cX10_deep 51 = .ok (.iload_n 2, 1) := by decide +kernel
theorem dX10_deep_52 : decode cX10_deep 52 = .ok (.invokevirtual 246, 3) := by decide +kernel
theorem dX10_deep_55 : decode cX10_deep 55 = .ok (.invokevirtual 140, 3) := by decide +kernel
theorem dX10_deep_58 : decode cX10_deep 58 = .ok (.ireturn, 1) := by decide +kernel
theorem dX10_areHours_0 : decode cX10_areHours 0 = .ok (.iload_n 0, 1) := by decide +kernel
theorem dX10_areHours_1 : decode cX10_areHours 1 = .ok (.iconst 1, 1) := by decide +kernel
theorem dX10_areHours_2 : decode cX10_areHours 2 = .ok (.bipush 20, 2) := by decide +kernel
theorem dX10_areHours_4 : decode cX10_areHours 4 = .ok (.invokestatic 115, 3) := by decide +kernel
theorem dX10_areHours_7 : decode cX10_areHours 7 = .ok (.ireturn, 1) := by decide +kernel
theorem dX10_depthIn_0 : decode cX10_depthIn 0 = .ok (.aload_n 0, 1) := by decide +kernel
theorem dX10_depthIn_1 : decode cX10_depthIn 1 = .ok (.iload_n 1, 1) := by decide +kernel
theorem dX10_depthIn_2 : decode cX10_depthIn 2 = .ok (.iconst 0, 1) := by decide +kernel
theorem dX10_depthIn_3 : decode cX10_depthIn 3 = .ok (.invokevirtual 111, 3) := by decide +kernel
theorem dX10_depthIn_6 : decode cX10_depthIn 6 = .ok (.iload_n 2, 1) := by decide +kernel
theorem dX10_depthIn_7 : decode cX10_depthIn 7 = .ok (.if_icmp .le 14, 3) := by decide +kernel
theorem dX10_depthIn_10 : decode cX10_depthIn 10 = .ok (.aload_n 0, 1) := by decide +kernel
theorem dX10_depthIn_11 : decode cX10_depthIn 11 = .ok (.iload_n 1, 1) := by decide +kernel
theorem dX10_depthIn_12 : decode cX10_depthIn 12 = .ok (.iconst 0, 1) := by decide +kernel
theorem dX10_depthIn_13 : decode cX10_depthIn 13 = .ok (.invokevirtual 111, 3) := by decide +kernel
theorem dX10_depthIn_16 : decode cX10_depthIn 16 = .ok (.iload_n 2, 1) := by decide +kernel
theorem dX10_depthIn_17 : decode cX10_depthIn 17 = .ok (.isub, 1) := by decide +kernel
theorem dX10_depthIn_18 : decode cX10_depthIn 18 = .ok (.goto 4, 3) := by decide +kernel
theorem dX10_depthIn_21 : decode cX10_depthIn 21 = .ok (.iconst 0, 1) := by decide +kernel
theorem dX10_depthIn_22 : decode cX10_depthIn 22 = .ok (.ireturn, 1) := by decide +kernel
theorem dX10_goesBy_0 : decode cX10_goesBy 0 = .ok (.iconst 0, 1) := by decide +kernel
theorem dX10_goesBy_1 : decode cX10_goesBy 1 = .ok (.istore_n 2, 1) := by decide +kernel
theorem dX10_goesBy_2 : decode cX10_goesBy 2 = .ok (.iconst 0, 1) := by decide +kernel
theorem dX10_goesBy_3 : decode cX10_goesBy 3 = .ok (.istore_n 3, 1) := by decide +kernel
theorem dX10_goesBy_4 : decode cX10_goesBy 4 = .ok (.iload_n 3, 1) := by decide +kernel
theorem dX10_goesBy_5 : decode cX10_goesBy 5 = .ok (.aload_n 0, 1) := by decide +kernel
theorem dX10_goesBy_6 : decode cX10_goesBy 6 = .ok (.getfield 7, 3) := by decide +kernel
theorem dX10_goesBy_9 : decode cX10_goesBy 9 = .ok (.iconst 0, 1) := by decide +kernel
theorem dX10_goesBy_10 : decode cX10_goesBy 10 = .ok (.iaload, 1) := by decide +kernel
theorem dX10_goesBy_11 : decode cX10_goesBy 11 = .ok (.if_icmp .ge 47, 3) := by decide +kernel
theorem dX10_goesBy_14 : decode cX10_goesBy 14 = .ok (.iload_n 2, 1) := by decide +kernel
theorem dX10_goesBy_15 : decode cX10_goesBy 15 = .ok (.aload_n 0, 1) := by decide +kernel
theorem dX10_goesBy_16 : decode cX10_goesBy 16 = .ok (.iload_n 3, 1) := by decide +kernel
theorem dX10_goesBy_17 : decode cX10_goesBy 17 = .ok (.iconst 0, 1) := by decide +kernel
theorem dX10_goesBy_18 : decode cX10_goesBy 18 = .ok (.invokevirtual 111, 3) := by decide +kernel
theorem dX10_goesBy_21 : decode cX10_goesBy 21 = .ok (.ifCond .le 16, 3) := by decide +kernel
theorem dX10_goesBy_24 : decode cX10_goesBy 24 = .ok (.aload_n 0, 1) := by decide +kernel
theorem dX10_goesBy_25 : decode cX10_goesBy 25 = .ok (.iload_n 3, 1) := by decide +kernel
theorem dX10_goesBy_26 : decode cX10_goesBy 26 = .ok (.iload_n 1, 1) := by decide +kernel
theorem dX10_goesBy_27 : decode cX10_goesBy 27 = .ok (.invokevirtual 249, 3) := by decide +kernel
theorem dX10_goesBy_30 : decode cX10_goesBy 30 = .ok (.ifCond .ne 7, 3) := by decide +kernel
theorem dX10_goesBy_33 : decode cX10_goesBy 33 = .ok (.iconst 1, 1) := by decide +kernel
theorem dX10_goesBy_34 : decode cX10_goesBy 34 = .ok (.goto 4, 3) := by decide +kernel
theorem dX10_goesBy_37 : decode cX10_goesBy 37 = .ok (.iconst 0, 1) := by decide +kernel
theorem dX10_goesBy_38 : decode cX10_goesBy 38 = .ok (.iadd, 1) := by decide +kernel
theorem dX10_goesBy_39 : decode cX10_goesBy 39 = .ok (.istore_n 2, 1) := by decide +kernel
theorem dX10_goesBy_40 : decode cX10_goesBy 40 = .ok (.aload_n 0, 1) := by decide +kernel
theorem dX10_goesBy_41 : decode cX10_goesBy 41 = .ok (.iload_n 3, 1) := by decide +kernel
theorem dX10_goesBy_42 : decode cX10_goesBy 42 = .ok (.iconst 0, 1) := by decide +kernel
theorem dX10_goesBy_43 : decode cX10_goesBy 43 = .ok (.aload_n 0, 1) := by decide +kernel
theorem dX10_goesBy_44 : decode cX10_goesBy 44 = .ok (.iload_n 3, 1) := by decide +kernel
theorem dX10_goesBy_45 : decode cX10_goesBy 45 = .ok (.iload_n 1, 1) := by decide +kernel
theorem dX10_goesBy_46 : decode cX10_goesBy 46 = .ok (.invokevirtual 249, 3) := by decide +kernel
theorem dX10_goesBy_49 : decode cX10_goesBy 49 = .ok (.invokevirtual 123, 3) := by decide +kernel
theorem dX10_goesBy_52 : decode cX10_goesBy 52 = .ok (.iinc 3 1, 3) := by decide +kernel
theorem dX10_goesBy_55 : decode cX10_goesBy 55 = .ok (.goto (-51), 3) := by decide +kernel
theorem dX10_goesBy_58 : decode cX10_goesBy 58 = .ok (.aload_n 0, 1) := by decide +kernel
theorem dX10_goesBy_59 : decode cX10_goesBy 59 = .ok (.getfield 7, 3) := by decide +kernel
theorem dX10_goesBy_62 : decode cX10_goesBy 62 = .ok (.iconst 2, 1) := by decide +kernel
theorem dX10_goesBy_63 : decode cX10_goesBy 63 = .ok (.dup2, 1) := by decide +kernel
theorem dX10_goesBy_64 : decode cX10_goesBy 64 = .ok (.iaload, 1) := by decide +kernel
theorem dX10_goesBy_65 : decode cX10_goesBy 65 = .ok (.iload_n 1, 1) := by decide +kernel
theorem dX10_goesBy_66 : decode cX10_goesBy 66 = .ok (.iadd, 1) := by decide +kernel
theorem dX10_goesBy_67 : decode cX10_goesBy 67 = .ok (.iastore, 1) := by decide +kernel
theorem dX10_goesBy_68 : decode cX10_goesBy 68 = .ok (.iload_n 2, 1) := by decide +kernel
theorem dX10_goesBy_69 : decode cX10_goesBy 69 = .ok (.ireturn, 1) := by decide +kernel
theorem dX10_dusk_0 : decode cX10_dusk 0 = .ok (.aload_n 0, 1) := by decide +kernel
theorem dX10_dusk_1 : decode cX10_dusk 1 = .ok (.invokevirtual 127, 3) := by decide +kernel
theorem dX10_dusk_4 : decode cX10_dusk 4 = .ok (.iload_n 1, 1) := by decide +kernel
theorem dX10_dusk_5 : decode cX10_dusk 5 = .ok (.invokestatic 252, 3) := by decide +kernel
theorem dX10_dusk_8 : decode cX10_dusk 8 = .ok (.ifCond .eq 15, 3) := by decide +kernel
theorem dX10_dusk_11 : decode cX10_dusk 11 = .ok (.aload_n 0, 1) := by decide +kernel
theorem dX10_dusk_12 : decode cX10_dusk 12 = .ok (.aload_n 0, 1) := by decide +kernel
theorem dX10_dusk_13 : decode cX10_dusk 13 = .ok (.iload_n 1, 1) := by decide +kernel
theorem dX10_dusk_14 : decode cX10_dusk 14 = .ok (.invokevirtual 255, 3) := by decide +kernel
theorem dX10_dusk_17 : decode cX10_dusk 17 = .ok (.invokevirtual 140, 3) := by decide +kernel
theorem dX10_dusk_20 : decode cX10_dusk 20 = .ok (.goto 8, 3) := by decide +kernel
theorem dX10_dusk_23 : decode cX10_dusk 23 = .ok (.aload_n 0, 1) := by decide +kernel
theorem dX10_dusk_24 : decode cX10_dusk 24 = .ok (.iconst 1, 1) := by decide +kernel
theorem dX10_dusk_25 : decode cX10_dusk 25 = .ok (.invokevirtual 103, 3) := by decide +kernel
theorem dX10_dusk_28 : decode cX10_dusk 28 = .ok (.ireturn, 1) := by decide +kernel
theorem dX10_isIn_0 : decode cX10_isIn 0 = .ok (.aload_n 0, 1) := by decide +kernel
theorem dX10_isIn_1 : decode cX10_isIn 1 = .ok (.iload_n 1, 1) := by decide +kernel
theorem dX10_isIn_2 : decode cX10_isIn 2 = .ok (.iconst 1, 1) := by decide +kernel
theorem dX10_isIn_3 : decode cX10_isIn 3 = .ok (.invokevirtual 111, 3) := by decide +kernel
theorem dX10_isIn_6 : decode cX10_isIn 6 = .ok (.iconst 2, 1) := by decide +kernel
theorem dX10_isIn_7 : decode cX10_isIn 7 = .ok (.if_icmp .eq 5, 3) := by decide +kernel
theorem dX10_isIn_10 : decode cX10_isIn 10 = .ok (.iconst 0, 1) := by decide +kernel
theorem dX10_isIn_11 : decode cX10_isIn 11 = .ok (.ireturn, 1) := by decide +kernel
theorem dX10_isIn_12 : decode cX10_isIn 12 = .ok (.iconst 0, 1) := by decide +kernel
theorem dX10_isIn_13 : decode cX10_isIn 13 = .ok (.istore 4, 2) := by decide +kernel
theorem dX10_isIn_15 : decode cX10_isIn 15 = .ok (.aload_n 0, 1) := by decide +kernel
theorem dX10_isIn_16 : decode cX10_isIn 16 = .ok (.iload_n 1, 1) := by decide +kernel
theorem dX10_isIn_17 : decode cX10_isIn 17 = .ok (.iconst 2, 1) := by decide +kernel
theorem dX10_isIn_18 : decode cX10_isIn 18 = .ok (.invokevirtual 111, 3) := by decide +kernel
theorem dX10_isIn_21 : decode cX10_isIn 21 = .ok (.istore 5, 2) := by decide +kernel
theorem dX10_isIn_23 : decode cX10_isIn 23 = .ok (.aload_n 0, 1) := by decide +kernel
theorem dX10_isIn_24 : decode cX10_isIn 24 = .ok (.iload_n 1, 1) := by decide +kernel
theorem dX10_isIn_25 : decode cX10_isIn 25 = .ok (.iconst 3, 1) := by decide +kernel
theorem dX10_isIn_26 : decode cX10_isIn 26 = .ok (.invokevirtual 111, 3) := by decide +kernel
theorem dX10_isIn_29 : decode cX10_isIn 29 = .ok (.istore 6, 2) := by decide +kernel
theorem dX10_isIn_31 : decode cX10_isIn 31 = .ok (.iconst 0, 1) := by decide +kernel
theorem dX10_isIn_32 : decode cX10_isIn 32 = .ok (.istore 7, 2) := by decide +kernel
theorem dX10_isIn_34 : decode cX10_isIn 34 = .ok (.iload 7, 2) := by decide +kernel
theorem dX10_isIn_36 : decode cX10_isIn 36 = .ok (.aload_n 0, 1) := by decide +kernel
theorem dX10_isIn_37 : decode cX10_isIn 37 = .ok (.iload_n 1, 1) := by decide +kernel
theorem dX10_isIn_38 : decode cX10_isIn 38 = .ok (.iconst 4, 1) := by decide +kernel
theorem dX10_isIn_39 : decode cX10_isIn 39 = .ok (.invokevirtual 111, 3) := by decide +kernel
theorem dX10_isIn_42 : decode cX10_isIn 42 = .ok (.if_icmp .ge 110, 3) := by decide +kernel
theorem dX10_isIn_45 : decode cX10_isIn 45 = .ok (.iload 5, 2) := by decide +kernel
theorem dX10_isIn_47 : decode cX10_isIn 47 = .ok (.aload_n 0, 1) := by decide +kernel
theorem dX10_isIn_48 : decode cX10_isIn 48 = .ok (.iload_n 1, 1) := by decide +kernel
theorem dX10_isIn_49 : decode cX10_isIn 49 = .ok (.iload 7, 2) := by decide +kernel
theorem dX10_isIn_51 : decode cX10_isIn 51 = .ok (.invokevirtual 175, 3) := by decide +kernel
theorem dX10_isIn_54 : decode cX10_isIn 54 = .ok (.aload_n 0, 1) := by decide +kernel
theorem dX10_isIn_55 : decode cX10_isIn 55 = .ok (.iload_n 1, 1) := by decide +kernel
theorem dX10_isIn_56 : decode cX10_isIn 56 = .ok (.iload 7, 2) := by decide +kernel
theorem dX10_isIn_58 : decode cX10_isIn 58 = .ok (.invokevirtual 178, 3) := by decide +kernel
theorem dX10_isIn_61 : decode cX10_isIn 61 = .ok (.invokestatic 181, 3) := by decide +kernel
theorem dX10_isIn_64 : decode cX10_isIn 64 = .ok (.imul, 1) := by decide +kernel
theorem dX10_isIn_65 : decode cX10_isIn 65 = .ok (.iadd, 1) := by decide +kernel
theorem dX10_isIn_66 : decode cX10_isIn 66 = .ok (.istore 8, 2) := by decide +kernel
theorem dX10_isIn_68 : decode cX10_isIn 68 = .ok (.iload 6, 2) := by decide +kernel
theorem dX10_isIn_70 : decode cX10_isIn 70 = .ok (.aload_n 0, 1) := by decide +kernel
theorem dX10_isIn_71 : decode cX10_isIn 71 = .ok (.iload_n 1, 1) := by decide +kernel
theorem dX10_isIn_72 : decode cX10_isIn 72 = .ok (.iload 7, 2) := by decide +kernel
theorem dX10_isIn_74 : decode cX10_isIn 74 = .ok (.invokevirtual 175, 3) := by decide +kernel
theorem dX10_isIn_77 : decode cX10_isIn 77 = .ok (.aload_n 0, 1) := by decide +kernel
theorem dX10_isIn_78 : decode cX10_isIn 78 = .ok (.iload_n 1, 1) := by decide +kernel
theorem dX10_isIn_79 : decode cX10_isIn 79 = .ok (.iload 7, 2) := by decide +kernel
theorem dX10_isIn_81 : decode cX10_isIn 81 = .ok (.invokevirtual 178, 3) := by decide +kernel
theorem dX10_isIn_84 : decode cX10_isIn 84 = .ok (.invokestatic 184, 3) := by decide +kernel
theorem dX10_isIn_87 : decode cX10_isIn 87 = .ok (.imul, 1) := by decide +kernel
theorem dX10_isIn_88 : decode cX10_isIn 88 = .ok (.iadd, 1) := by decide +kernel
theorem dX10_isIn_89 : decode cX10_isIn 89 = .ok (.istore 9, 2) := by decide +kernel
theorem dX10_isIn_91 : decode cX10_isIn 91 = .ok (.iload 4, 2) := by decide +kernel
theorem dX10_isIn_93 : decode cX10_isIn 93 = .ok (.iload 5, 2) := by decide +kernel
theorem dX10_isIn_95 : decode cX10_isIn 95 = .ok (.iload 8, 2) := by decide +kernel
theorem dX10_isIn_97 : decode cX10_isIn 97 = .ok (.if_icmp .ne 37, 3) := by decide +kernel
theorem dX10_isIn_100 : decode cX10_isIn 100 = .ok (.iload 5, 2) := by decide +kernel
theorem dX10_isIn_102 : decode cX10_isIn 102 = .ok (.iload_n 2, 1) := by decide +kernel
theorem dX10_isIn_103 : decode cX10_isIn 103 = .ok (.if_icmp .gt 31, 3) := by decide +kernel
theorem dX10_isIn_106 : decode cX10_isIn 106 = .ok (.iload 6, 2) := by decide +kernel
theorem dX10_isIn_108 : decode cX10_isIn 108 = .ok (.iload_n 3, 1) := by decide +kernel
theorem dX10_isIn_109 : decode cX10_isIn 109 = .ok (.if_icmp .gt 9, 3) := by decide +kernel
theorem dX10_isIn_112 : decode cX10_isIn 112 = .ok (.iload 9, 2) := by decide +kernel
theorem dX10_isIn_114 : decode cX10_isIn 114 = .ok (.iload_n 3, 1) := by decide +kernel
theorem dX10_isIn_115 : decode cX10_isIn 115 = .ok (.if_icmp .gt 15, 3) := by decide +kernel
theorem dX10_isIn_118 : decode cX10_isIn 118 = .ok (.iload 9, 2) := by decide +kernel
theorem dX10_isIn_120 : decode cX10_isIn 120 = .ok (.iload_n 3, 1) := by decide +kernel
theorem dX10_isIn_121 : decode cX10_isIn 121 = .ok (.if_icmp .gt 13, 3) := by decide +kernel
theorem dX10_isIn_124 : decode cX10_isIn 124 = .ok (.iload 6, 2) := by decide +kernel
theorem dX10_isIn_126 : decode cX10_isIn 126 = .ok (.iload_n 3, 1) := by decide +kernel
theorem dX10_isIn_127 : decode cX10_isIn 127 = .ok (.if_icmp .le 7, 3) := by decide +kernel
theorem dX10_isIn_130 : decode cX10_isIn 130 = .ok (.iconst 1, 1) := by decide +kernel
theorem dX10_isIn_131 : decode cX10_isIn 131 = .ok (.goto 4, 3) := by decide +kernel
theorem dX10_isIn_134 : decode cX10_isIn 134 = .ok (.iconst 0, 1) := by decide +kernel
theorem dX10_isIn_135 : decode cX10_isIn 135 = .ok (.ixor, 1) := by decide +kernel
theorem dX10_isIn_136 : decode cX10_isIn 136 = .ok (.istore 4, 2) := by decide +kernel
theorem dX10_isIn_138 : decode cX10_isIn 138 = .ok (.iload 8, 2) := by decide +kernel
theorem dX10_isIn_140 : decode cX10_isIn 140 = .ok (.istore 5, 2) := by decide +kernel
theorem dX10_isIn_142 : decode cX10_isIn 142 = .ok (.iload 9, 2) := by decide +kernel
theorem dX10_isIn_144 : decode cX10_isIn 144 = .ok (.istore 6, 2) := by decide +kernel
theorem dX10_isIn_146 : decode cX10_isIn 146 = .ok (.iinc 7 1, 3) := by decide +kernel
theorem dX10_isIn_149 : decode cX10_isIn 149 = .ok (.goto (-115), 3) := by decide +kernel
theorem dX10_isIn_152 : decode cX10_isIn 152 = .ok (.iload 4, 2) := by decide +kernel
theorem dX10_isIn_154 : decode cX10_isIn 154 = .ok (.ireturn, 1) := by decide +kernel
theorem dX10_areaOf_0 : decode cX10_areaOf 0 = .ok (.iconst 0, 1) := by decide +kernel
theorem dX10_areaOf_1 : decode cX10_areaOf 1 = .ok (.istore_n 2, 1) := by decide +kernel
theorem dX10_areaOf_2 : decode cX10_areaOf 2 = .ok (.iconst 0, 1) := by decide +kernel
theorem dX10_areaOf_3 : decode cX10_areaOf 3 = .ok (.istore_n 3, 1) := by decide +kernel
theorem dX10_areaOf_4 : decode cX10_areaOf 4 = .ok (.iload_n 3, 1) := by decide +kernel
theorem dX10_areaOf_5 : decode cX10_areaOf 5 = .ok (.bipush 96, 2) := by decide +kernel
theorem dX10_areaOf_7 : decode cX10_areaOf 7 = .ok (.if_icmp .ge 33, 3) := by decide +kernel
theorem dX10_areaOf_10 : decode cX10_areaOf 10 = .ok (.iload_n 2, 1) := by decide +kernel
theorem dX10_areaOf_11 : decode cX10_areaOf 11 = .ok (.aload_n 0, 1) := by decide +kernel
theorem dX10_areaOf_12 : decode cX10_areaOf 12 = .ok (.iload_n 1, 1) := by decide +kernel
theorem dX10_areaOf_13 : decode cX10_areaOf 13 = .ok (.iload_n 3, 1) := by decide +kernel
theorem dX10_areaOf_14 : decode cX10_areaOf 14 = .ok (.bipush 12, 2) := by decide +kernel
theorem dX10_areaOf_16 : decode cX10_areaOf 16 = .ok (.irem, 1) := by decide +kernel
theorem dX10_areaOf_17 : decode cX10_areaOf 17 = .ok (.iload_n 3, 1) := by decide +kernel
theorem dX10_areaOf_18 : decode cX10_areaOf 18 = .ok (.bipush 12, 2) := by decide +kernel
theorem dX10_areaOf_20 : decode cX10_areaOf 20 = .ok (.idiv, 1) := by decide +kernel
theorem dX10_areaOf_21 : decode cX10_areaOf 21 = .ok (.invokevirtual 258, 3) := by decide +kernel
theorem dX10_areaOf_24 : decode cX10_areaOf 24 = .ok (.ifCond .eq 7, 3) := by decide +kernel
theorem dX10_areaOf_27 : decode cX10_areaOf 27 = .ok (.iconst 1, 1) := by decide +kernel
theorem dX10_areaOf_28 : decode cX10_areaOf 28 = .ok (.goto 4, 3) := by decide +kernel
theorem dX10_areaOf_31 : decode cX10_areaOf 31 = .ok (.iconst 0, 1) := by decide +kernel
theorem dX10_areaOf_32 : decode cX10_areaOf 32 = .ok (.iadd, 1) := by decide +kernel
theorem dX10_areaOf_33 : decode cX10_areaOf 33 = .ok (.istore_n 2, 1) := by decide +kernel
theorem dX10_areaOf_34 : decode cX10_areaOf 34 = .ok (.iinc 3 1, 3) := by decide +kernel
theorem dX10_areaOf_37 : decode cX10_areaOf 37 = .ok (.goto (-33), 3) := by decide +kernel
theorem dX10_areaOf_40 : decode cX10_areaOf 40 = .ok (.iload_n 2, 1) := by decide +kernel
theorem dX10_areaOf_41 : decode cX10_areaOf 41 = .ok (.ireturn, 1) := by decide +kernel
theorem dX10_ownerIn_0 : decode cX10_ownerIn 0 = .ok (.iconst (-1), 1) := by decide +kernel
theorem dX10_ownerIn_1 : decode cX10_ownerIn 1 = .ok (.istore 4, 2) := by decide +kernel
theorem dX10_ownerIn_3 : decode cX10_ownerIn 3 = .ok (.iconst 0, 1) := by decide +kernel
theorem dX10_ownerIn_4 : decode cX10_ownerIn 4 = .ok (.istore 5, 2) := by decide +kernel
theorem dX10_ownerIn_6 : decode cX10_ownerIn 6 = .ok (.iload 5, 2) := by decide +kernel
theorem dX10_ownerIn_8 : decode cX10_ownerIn 8 = .ok (.aload_n 0, 1) := by decide +kernel
theorem dX10_ownerIn_9 : decode cX10_ownerIn 9 = .ok (.getfield 7, 3) := by decide +kernel
theorem dX10_ownerIn_12 : decode cX10_ownerIn 12 = .ok (.iconst 0, 1) := by decide +kernel
theorem dX10_ownerIn_13 : decode cX10_ownerIn 13 = .ok (.iaload, 1) := by decide +kernel
theorem dX10_ownerIn_14 : decode cX10_ownerIn 14 = .ok (.if_icmp .ge 56, 3) := by decide +kernel
theorem dX10_ownerIn_17 : decode cX10_ownerIn 17 = .ok (.aload_n 0, 1) := by decide +kernel
theorem dX10_ownerIn_18 : decode cX10_ownerIn 18 = .ok (.iload 5, 2) := by decide +kernel
theorem dX10_ownerIn_20 : decode cX10_ownerIn 20 = .ok (.iload_n 3, 1) := by decide +kernel
theorem dX10_ownerIn_21 : decode cX10_ownerIn 21 = .ok (.invokevirtual 249, 3) := by decide +kernel
theorem dX10_ownerIn_24 : decode cX10_ownerIn 24 = .ok (.ifCond .le 40, 3) := by decide +kernel
theorem dX10_ownerIn_27 : decode cX10_ownerIn 27 = .ok (.aload_n 0, 1) := by decide +kernel
theorem dX10_ownerIn_28 : decode cX10_ownerIn 28 = .ok (.iload 5, 2) := by decide +kernel
theorem dX10_ownerIn_30 : decode cX10_ownerIn 30 = .ok (.iload_n 1, 1) := by decide +kernel
theorem dX10_ownerIn_31 : decode cX10_ownerIn 31 = .ok (.iload_n 2, 1) := by decide +kernel
theorem dX10_ownerIn_32 : decode cX10_ownerIn 32 = .ok (.invokevirtual 258, 3) := by decide +kernel
theorem dX10_ownerIn_35 : decode cX10_ownerIn 35 = .ok (.ifCond .eq 29, 3) := by decide +kernel
theorem dX10_ownerIn_38 : decode cX10_ownerIn 38 = .ok (.iload 4, 2) := by decide +kernel
theorem dX10_ownerIn_40 : decode cX10_ownerIn 40 = .ok (.ifCond .lt 20, 3) := by decide +kernel
theorem dX10_ownerIn_43 : decode cX10_ownerIn 43 = .ok (.aload_n 0, 1) := by decide +kernel
theorem dX10_ownerIn_44 : decode cX10_ownerIn 44 = .ok (.iload 5, 2) := by decide +kernel
theorem dX10_ownerIn_46 : decode cX10_ownerIn 46 = .ok (.iload_n 3, 1) := by decide +kernel
theorem dX10_ownerIn_47 : decode cX10_ownerIn 47 = .ok (.invokevirtual 249, 3) := by decide +kernel
theorem dX10_ownerIn_50 : decode cX10_ownerIn 50 = .ok (.aload_n 0, 1) := by decide +kernel
theorem dX10_ownerIn_51 : decode cX10_ownerIn 51 = .ok (.iload 4, 2) := by decide +kernel
theorem dX10_ownerIn_53 : decode cX10_ownerIn 53 = .ok (.iload_n 3, 1) := by decide +kernel
theorem dX10_ownerIn_54 : decode cX10_ownerIn 54 = .ok (.invokevirtual 249, 3) := by decide +kernel
theorem dX10_ownerIn_57 : decode cX10_ownerIn 57 = .ok (.if_icmp .le 7, 3) := by decide +kernel
theorem dX10_ownerIn_60 : decode cX10_ownerIn 60 = .ok (.iload 5, 2) := by decide +kernel
theorem dX10_ownerIn_62 : decode cX10_ownerIn 62 = .ok (.istore 4, 2) := by decide +kernel
theorem dX10_ownerIn_64 : decode cX10_ownerIn 64 = .ok (.iinc 5 1, 3) := by decide +kernel
theorem dX10_ownerIn_67 : decode cX10_ownerIn 67 = .ok (.goto (-61), 3) := by decide +kernel
theorem dX10_ownerIn_70 : decode cX10_ownerIn 70 = .ok (.iload 4, 2) := by decide +kernel
theorem dX10_ownerIn_72 : decode cX10_ownerIn 72 = .ok (.ireturn, 1) := by decide +kernel
theorem dX10_ownerAt_0 : decode cX10_ownerAt 0 = .ok (.iload_n 1, 1) := by decide +kernel
theorem dX10_ownerAt_1 : decode cX10_ownerAt 1 = .ok (.iload_n 2, 1) := by decide +kernel
theorem dX10_ownerAt_2 : decode cX10_ownerAt 2 = .ok (.invokestatic 261, 3) := by decide +kernel
theorem dX10_ownerAt_5 : decode cX10_ownerAt 5 = .ok (.ifCond .eq 13, 3) := by decide +kernel
theorem dX10_ownerAt_8 : decode cX10_ownerAt 8 = .ok (.aload_n 0, 1) := by decide +kernel
theorem dX10_ownerAt_9 : decode cX10_ownerAt 9 = .ok (.iload_n 1, 1) := by decide +kernel
theorem dX10_ownerAt_10 : decode cX10_ownerAt 10 = .ok (.iload_n 2, 1) := by decide +kernel
theorem dX10_ownerAt_11 : decode cX10_ownerAt 11 = .ok (.iconst 0, 1) := by decide +kernel
theorem dX10_ownerAt_12 : decode cX10_ownerAt 12 = .ok (.invokevirtual 264, 3) := by decide +kernel
theorem dX10_ownerAt_15 : decode cX10_ownerAt 15 = .ok (.goto 4, 3) := by decide +kernel
theorem dX10_ownerAt_18 : decode cX10_ownerAt 18 = .ok (.iconst (-1), 1) := by decide +kernel
theorem dX10_ownerAt_19 : decode cX10_ownerAt 19 = .ok (.ireturn, 1) := by decide +kernel
theorem dX10_cellsIn_0 : decode cX10_cellsIn 0 = .ok (.iconst 0, 1) := by decide +kernel
theorem dX10_cellsIn_1 : decode cX10_cellsIn 1 = .ok (.istore_n 3, 1) := by decide +kernel
theorem dX10_cellsIn_2 : decode cX10_cellsIn 2 = .ok (.iconst 0, 1) := by decide +kernel
theorem dX10_cellsIn_3 : decode cX10_cellsIn 3 = .ok (.istore 4, 2) := by decide +kernel
theorem dX10_cellsIn_5 : decode cX10_cellsIn 5 = .ok (.iload 4, 2) := by decide +kernel
theorem dX10_cellsIn_7 : decode cX10_cellsIn 7 = .ok (.bipush 96, 2) := by decide +kernel
theorem dX10_cellsIn_9 : decode cX10_cellsIn 9 = .ok (.if_icmp .ge 36, 3) := by decide +kernel
theorem dX10_cellsIn_12 : decode cX10_cellsIn 12 = .ok (.iload_n 3, 1) := by decide +kernel
theorem dX10_cellsIn_13 : decode cX10_cellsIn 13 = .ok (.aload_n 0, 1) := by decide +kernel
theorem dX10_cellsIn_14 : decode cX10_cellsIn 14 = .ok (.iload 4, 2) := by decide +kernel
theorem dX10_cellsIn_16 : decode cX10_cellsIn 16 = .ok (.bipush 12, 2) := by decide +kernel
theorem dX10_cellsIn_18 : decode cX10_cellsIn 18 = .ok (.irem, 1) := by decide +kernel
theorem dX10_cellsIn_19 : decode cX10_cellsIn 19 = .ok (.iload 4, 2) := by decide +kernel
theorem dX10_cellsIn_21 : decode cX10_cellsIn 21 = .ok (.bipush 12, 2) := by decide +kernel
theorem dX10_cellsIn_23 : decode cX10_cellsIn 23 = .ok (.idiv, 1) := by decide +kernel
theorem dX10_cellsIn_24 : decode cX10_cellsIn 24 = .ok (.iload_n 2, 1) := by decide +kernel
theorem dX10_cellsIn_25 : decode cX10_cellsIn 25 = .ok (.invokevirtual 264, 3) := by decide +kernel
theorem dX10_cellsIn_28 : decode cX10_cellsIn 28 = .ok (.iload_n 1, 1) := by decide +kernel
theorem dX10_cellsIn_29 : decode cX10_cellsIn 29 = .ok (.if_icmp .ne 7, 3) := by decide +kernel
theorem dX10_cellsIn_32 : decode cX10_cellsIn 32 = .ok (.iconst 1, 1) := by decide +kernel
theorem dX10_cellsIn_33 : decode cX10_cellsIn 33 = .ok (.goto 4, 3) := by decide +kernel
theorem dX10_cellsIn_36 : decode cX10_cellsIn 36 = .ok (.iconst 0, 1) := by decide +kernel
theorem dX10_cellsIn_37 : decode cX10_cellsIn 37 = .ok (.iadd, 1) := by decide +kernel
theorem dX10_cellsIn_38 : decode cX10_cellsIn 38 = .ok (.istore_n 3, 1) := by decide +kernel
theorem dX10_cellsIn_39 : decode cX10_cellsIn 39 = .ok (.iinc 4 1, 3) := by decide +kernel
theorem dX10_cellsIn_42 : decode cX10_cellsIn 42 = .ok (.goto (-37), 3) := by decide +kernel
theorem dX10_cellsIn_45 : decode cX10_cellsIn 45 = .ok (.iload_n 3, 1) := by decide +kernel
theorem dX10_cellsIn_46 : decode cX10_cellsIn 46 = .ok (.ireturn, 1) := by decide +kernel
theorem dX10_owner_0 : decode cX10_owner 0 = .ok (.aload_n 0, 1) := by decide +kernel
theorem dX10_owner_1 : decode cX10_owner 1 = .ok (.iload_n 1, 1) := by decide +kernel
theorem dX10_owner_2 : decode cX10_owner 2 = .ok (.iload_n 2, 1) := by decide +kernel
theorem dX10_owner_3 : decode cX10_owner 3 = .ok (.invokestatic 261, 3) := by decide +kernel
theorem dX10_owner_6 : decode cX10_owner 6 = .ok (.ifCond .eq 7, 3) := by decide +kernel
theorem dX10_owner_9 : decode cX10_owner 9 = .ok (.iconst 0, 1) := by decide +kernel
theorem dX10_owner_10 : decode cX10_owner 10 = .ok (.goto 4, 3) := by decide +kernel
theorem dX10_owner_13 : decode cX10_owner 13 = .ok (.iconst 1, 1) := by decide +kernel
theorem dX10_owner_14 : decode cX10_owner 14 = .ok (.putfield 22, 3) := by decide +kernel
theorem dX10_owner_17 : decode cX10_owner 17 = .ok (.aload_n 0, 1) := by decide +kernel
theorem dX10_owner_18 : decode cX10_owner 18 = .ok (.getfield 22, 3) := by decide +kernel
theorem dX10_owner_21 : decode cX10_owner 21 = .ok (.ifCond .le 7, 3) := by decide +kernel
theorem dX10_owner_24 : decode cX10_owner 24 = .ok (.iconst 0, 1) := by decide +kernel
theorem dX10_owner_25 : decode cX10_owner 25 = .ok (.goto 9, 3) := by decide +kernel
theorem dX10_owner_28 : decode cX10_owner 28 = .ok (.aload_n 0, 1) := by decide +kernel
theorem dX10_owner_29 : decode cX10_owner 29 = .ok (.iload_n 1, 1) := by decide +kernel
theorem dX10_owner_30 : decode cX10_owner 30 = .ok (.iload_n 2, 1) := by decide +kernel
theorem dX10_owner_31 : decode cX10_owner 31 = .ok (.invokevirtual 267, 3) := by decide +kernel
theorem dX10_owner_34 : decode cX10_owner 34 = .ok (.ireturn, 1) := by decide +kernel
theorem dX10_isInside_0 : decode cX10_isInside 0 = .ok (.aload_n 0, 1) := by decide +kernel
theorem dX10_isInside_1 : decode cX10_isInside 1 = .ok (.aload_n 0, 1) := by decide +kernel
theorem dX10_isInside_2 : decode cX10_isInside 2 = .ok (.iload_n 1, 1) := by decide +kernel
theorem dX10_isInside_3 : decode cX10_isInside 3 = .ok (.invokevirtual 166, 3) := by decide +kernel
theorem dX10_isInside_6 : decode cX10_isInside 6 = .ok (.ifCond .eq 15, 3) := by decide +kernel
theorem dX10_isInside_9 : decode cX10_isInside 9 = .ok (.iload_n 2, 1) := by decide +kernel
theorem dX10_isInside_10 : decode cX10_isInside 10 = .ok (.iload_n 3, 1) := by decide +kernel
theorem dX10_isInside_11 : decode cX10_isInside 11 = .ok (.invokestatic 261, 3) := by decide +kernel
theorem dX10_isInside_14 : decode cX10_isInside 14 = .ok (.ifCond .eq 7, 3) := by decide +kernel
theorem dX10_isInside_17 : decode cX10_isInside 17 = .ok (.iconst 0, 1) := by decide +kernel
theorem dX10_isInside_18 : decode cX10_isInside 18 = .ok (.goto 4, 3) := by decide +kernel
theorem dX10_isInside_21 : decode cX10_isInside 21 = .ok (.iconst 1, 1) := by decide +kernel
theorem dX10_isInside_22 : decode cX10_isInside 22 = .ok (.putfield 22, 3) := by decide +kernel
theorem dX10_isInside_25 : decode cX10_isInside 25 = .ok (.aload_n 0, 1) := by decide +kernel
theorem dX10_isInside_26 : decode cX10_isInside 26 = .ok (.getfield 22, 3) := by decide +kernel
theorem dX10_isInside_29 : decode cX10_isInside 29 = .ok (.ifCond .ne 17, 3) := by decide +kernel
theorem dX10_isInside_32 : decode cX10_isInside 32 = .ok (.aload_n 0, 1) := by decide +kernel
theorem dX10_isInside_33 : decode cX10_isInside 33 = .ok (.iload_n 1, 1) := by decide +kernel
theorem dX10_isInside_34 : decode cX10_isInside 34 = .ok (.iload_n 2, 1) := by decide +kernel
theorem dX10_isInside_35 : decode cX10_isInside 35 = .ok (.iload_n 3, 1) := by decide +kernel
theorem dX10_isInside_36 : decode cX10_isInside 36 = .ok (.invokevirtual 258, 3) := by decide +kernel
theorem dX10_isInside_39 : decode cX10_isInside 39 = .ok (.ifCond .eq 7, 3) := by decide +kernel
theorem dX10_isInside_42 : decode cX10_isInside 42 = .ok (.iconst 1, 1) := by decide +kernel
theorem dX10_isInside_43 : decode cX10_isInside 43 = .ok (.goto 4, 3) := by decide +kernel
theorem dX10_isInside_46 : decode cX10_isInside 46 = .ok (.iconst 0, 1) := by decide +kernel
theorem dX10_isInside_47 : decode cX10_isInside 47 = .ok (.ireturn, 1) := by decide +kernel
theorem dX10_areaBy_0 : decode cX10_areaBy 0 = .ok (.aload_n 0, 1) := by decide +kernel
theorem dX10_areaBy_1 : decode cX10_areaBy 1 = .ok (.aload_n 0, 1) := by decide +kernel
theorem dX10_areaBy_2 : decode cX10_areaBy 2 = .ok (.iload_n 1, 1) := by decide +kernel
theorem dX10_areaBy_3 : decode cX10_areaBy 3 = .ok (.invokevirtual 166, 3) := by decide +kernel
theorem dX10_areaBy_6 : decode cX10_areaBy 6 = .ok (.ifCond .eq 7, 3) := by decide +kernel
theorem dX10_areaBy_9 : decode cX10_areaBy 9 = .ok (.iconst 0, 1) := by decide +kernel
theorem dX10_areaBy_10 : decode cX10_areaBy 10 = .ok (.goto 4, 3) := by decide +kernel
theorem dX10_areaBy_13 : decode cX10_areaBy 13 = .ok (.iconst 1, 1) := by decide +kernel
theorem dX10_areaBy_14 : decode cX10_areaBy 14 = .ok (.putfield 22, 3) := by decide +kernel
theorem dX10_areaBy_17 : decode cX10_areaBy 17 = .ok (.aload_n 0, 1) := by decide +kernel
theorem dX10_areaBy_18 : decode cX10_areaBy 18 = .ok (.getfield 22, 3) := by decide +kernel
theorem dX10_areaBy_21 : decode cX10_areaBy 21 = .ok (.ifCond .le 7, 3) := by decide +kernel
theorem dX10_areaBy_24 : decode cX10_areaBy 24 = .ok (.iconst 0, 1) := by decide +kernel
theorem dX10_areaBy_25 : decode cX10_areaBy 25 = .ok (.goto 8, 3) := by decide +kernel
theorem dX10_areaBy_28 : decode cX10_areaBy 28 = .ok (.aload_n 0, 1) := by decide +kernel
theorem dX10_areaBy_29 : decode cX10_areaBy 29 = .ok (.iload_n 1, 1) := by decide +kernel
theorem dX10_areaBy_30 : decode cX10_areaBy 30 = .ok (.invokevirtual 219, 3) := by decide +kernel
theorem dX10_areaBy_33 : decode cX10_areaBy 33 = .ok (.ireturn, 1) := by decide +kernel
theorem dX10_area_0 : decode cX10_area 0 = .ok (.aload_n 0, 1) := by decide +kernel
theorem dX10_area_1 : decode cX10_area 1 = .ok (.iload_n 1, 1) := by decide +kernel
theorem dX10_area_2 : decode cX10_area 2 = .ok (.invokevirtual 270, 3) := by decide +kernel
theorem dX10_area_5 : decode cX10_area 5 = .ok (.ireturn, 1) := by decide +kernel
theorem dX10_areaAgain_0 : decode cX10_areaAgain 0 = .ok (.aload_n 0, 1) := by decide +kernel
theorem dX10_areaAgain_1 : decode cX10_areaAgain 1 = .ok (.iload_n 1, 1) := by decide +kernel
theorem dX10_areaAgain_2 : decode cX10_areaAgain 2 = .ok (.invokevirtual 270, 3) := by decide +kernel
theorem dX10_areaAgain_5 : decode cX10_areaAgain 5 = .ok (.ireturn, 1) := by decide +kernel
theorem dX10_borderOf_0 : decode cX10_borderOf 0 = .ok (.aload_n 0, 1) := by decide +kernel
theorem dX10_borderOf_1 : decode cX10_borderOf 1 = .ok (.aload_n 0, 1) := by decide +kernel
theorem dX10_borderOf_2 : decode cX10_borderOf 2 = .ok (.iload_n 1, 1) := by decide +kernel
theorem dX10_borderOf_3 : decode cX10_borderOf 3 = .ok (.invokevirtual 166, 3) := by decide +kernel
theorem dX10_borderOf_6 : decode cX10_borderOf 6 = .ok (.ifCond .eq 15, 3) := by decide +kernel
theorem dX10_borderOf_9 : decode cX10_borderOf 9 = .ok (.aload_n 0, 1) := by decide +kernel
theorem dX10_borderOf_10 : decode cX10_borderOf 10 = .ok (.iload_n 2, 1) := by decide +kernel
theorem dX10_borderOf_11 : decode cX10_borderOf 11 = .ok (.invokevirtual 166, 3) := by decide +kernel
theorem dX10_borderOf_14 : decode cX10_borderOf 14 = .ok (.ifCond .eq 7, 3) := by decide +kernel
theorem dX10_borderOf_17 : decode cX10_borderOf 17 = .ok (.iconst 0, 1) := by decide +kernel
theorem dX10_borderOf_18 : decode cX10_borderOf 18 = .ok (.goto 4, 3) := by decide +kernel
theorem dX10_borderOf_21 : decode cX10_borderOf 21 = .ok (.iconst 1, 1) := by decide +kernel
theorem dX10_borderOf_22 : decode cX10_borderOf 22 = .ok (.putfield 22, 3) := by decide +kernel
theorem dX10_borderOf_25 : decode cX10_borderOf 25 = .ok (.aload_n 0, 1) := by decide +kernel
theorem dX10_borderOf_26 : decode cX10_borderOf 26 = .ok (.getfield 22, 3) := by decide +kernel
theorem dX10_borderOf_29 : decode cX10_borderOf 29 = .ok (.ifCond .gt 8, 3) := by decide +kernel
theorem dX10_borderOf_32 : decode cX10_borderOf 32 = .ok (.iload_n 1, 1) := by decide +kernel
theorem dX10_borderOf_33 : decode cX10_borderOf 33 = .ok (.iload_n 2, 1) := by decide +kernel
theorem dX10_borderOf_34 : decode cX10_borderOf 34 = .ok (.if_icmp .ne 5, 3) := by decide +kernel
theorem dX10_borderOf_37 : decode cX10_borderOf 37 = .ok (.iconst 0, 1) := by decide +kernel
theorem dX10_borderOf_38 : decode cX10_borderOf 38 = .ok (.ireturn, 1) := by decide +kernel
theorem dX10_borderOf_39 : decode cX10_borderOf 39 = .ok (.iconst 0, 1) := by decide +kernel
theorem dX10_borderOf_40 : decode cX10_borderOf 40 = .ok (.istore_n 3, 1) := by decide +kernel
theorem dX10_borderOf_41 : decode cX10_borderOf 41 = .ok (.iconst 0, 1) := by decide +kernel
theorem dX10_borderOf_42 : decode cX10_borderOf 42 = .ok (.istore 4, 2) := by decide +kernel
theorem dX10_borderOf_44 : decode cX10_borderOf 44 = .ok (.iload 4, 2) := by decide +kernel
theorem dX10_borderOf_46 : decode cX10_borderOf 46 = .ok (.bipush 96, 2) := by decide +kernel
theorem dX10_borderOf_48 : decode cX10_borderOf 48 = .ok (.if_icmp .ge 83, 3) := by decide +kernel
theorem dX10_borderOf_51 : decode cX10_borderOf 51 = .ok (.aload_n 0, 1) := by decide +kernel
theorem dX10_borderOf_52 : decode cX10_borderOf 52 = .ok (.iload 4, 2) := by decide +kernel
theorem dX10_borderOf_54 : decode cX10_borderOf 54 = .ok (.bipush 12, 2) := by decide +kernel
theorem dX10_borderOf_56 : decode cX10_borderOf 56 = .ok (.irem, 1) := by decide +kernel
theorem dX10_borderOf_57 : decode cX10_borderOf 57 = .ok (.iload 4, 2) := by decide +kernel
theorem dX10_borderOf_59 : decode cX10_borderOf 59 = .ok (.bipush 12, 2) := by decide +kernel
theorem dX10_borderOf_61 : decode cX10_borderOf 61 = .ok (.idiv, 1) := by decide +kernel
theorem dX10_borderOf_62 : decode cX10_borderOf 62 = .ok (.invokevirtual 267, 3) := by decide +kernel
theorem dX10_borderOf_65 : decode cX10_borderOf 65 = .ok (.iload_n 1, 1) := by decide +kernel
theorem dX10_borderOf_66 : decode cX10_borderOf 66 = .ok (.if_icmp .eq 6, 3) := by decide +kernel
theorem dX10_borderOf_69 : decode cX10_borderOf 69 = .ok (.goto 56, 3) := by decide +kernel
theorem dX10_borderOf_72 : decode cX10_borderOf 72 = .ok (.iconst 0, 1) := by decide +kernel
theorem dX10_borderOf_73 : decode cX10_borderOf 73 = .ok (.istore 5, 2) := by decide +kernel
theorem dX10_borderOf_75 : decode cX10_borderOf 75 = .ok (.iload 5, 2) := by decide +kernel
theorem dX10_borderOf_77 : decode cX10_borderOf 77 = .ok (.iconst 4, 1) := by decide +kernel
theorem dX10_borderOf_78 : decode cX10_borderOf 78 = .ok (.if_icmp .ge 47, 3) := by decide +kernel
theorem dX10_borderOf_81 : decode cX10_borderOf 81 = .ok (.iload_n 3, 1) := by decide +kernel
theorem dX10_borderOf_82 : decode cX10_borderOf 82 = .ok (.aload_n 0, 1) := by decide +kernel
theorem dX10_borderOf_83 : decode cX10_borderOf 83 = .ok (.iload 4, 2) := by decide +kernel
theorem dX10_borderOf_85 : decode cX10_borderOf 85 = .ok (.bipush 12, 2) := by decide +kernel
theorem dX10_borderOf_87 : decode cX10_borderOf 87 = .ok (.irem, 1) := by decide +kernel
theorem dX10_borderOf_88 : decode cX10_borderOf 88 = .ok (.iload 5, 2) := by decide +kernel
theorem dX10_borderOf_90 : decode cX10_borderOf 90 = .ok (.invokestatic 181, 3) := by decide +kernel
theorem dX10_borderOf_93 : decode cX10_borderOf 93 = .ok (.iadd, 1) := by decide +kernel
theorem dX10_borderOf_94 : decode cX10_borderOf 94 = .ok (.iload 4, 2) := by decide +kernel
theorem dX10_borderOf_96 : decode cX10_borderOf 96 = .ok (.bipush 12, 2) := by decide +kernel
theorem dX10_borderOf_98 : decode cX10_borderOf 98 = .ok (.idiv, 1) := by decide +kernel
theorem dX10_borderOf_99 : decode cX10_borderOf 99 = .ok (.iload 5, 2) := by decide +kernel
theorem dX10_borderOf_101 : decode cX10_borderOf 101 = .ok (.invokestatic 184, 3) := by decide +kernel
theorem dX10_borderOf_104 : decode cX10_borderOf 104 = .ok (.iadd, 1) := by decide +kernel
theorem dX10_borderOf_105 : decode cX10_borderOf 105 = .ok (.invokevirtual 267, 3) := by decide +kernel
theorem dX10_borderOf_108 : decode cX10_borderOf 108 = .ok (.iload_n 2, 1) := by decide +kernel
theorem dX10_borderOf_109 : decode cX10_borderOf 109 = .ok (.if_icmp .ne 7, 3) := by decide +kernel
theorem dX10_borderOf_112 : decode cX10_borderOf 112 = .ok (.iconst 1, 1) := by decide +kernel
theorem dX10_borderOf_113 : decode cX10_borderOf 113 = .ok (.goto 4, 3) := by decide +kernel
theorem dX10_borderOf_116 : decode cX10_borderOf 116 = .ok (.iconst 0, 1) := by decide +kernel
theorem dX10_borderOf_117 : decode cX10_borderOf 117 = .ok (.iadd, 1) := by decide +kernel
theorem dX10_borderOf_118 : decode cX10_borderOf 118 = .ok (.istore_n 3, 1) := by decide +kernel
theorem dX10_borderOf_119 : decode cX10_borderOf 119 = .ok (.iinc 5 1, 3) := by decide +kernel
theorem dX10_borderOf_122 : decode cX10_borderOf 122 = .ok (.goto (-47), 3) := by decide +kernel
theorem dX10_borderOf_125 : decode cX10_borderOf 125 = .ok (.iinc 4 1, 3) := by decide +kernel
theorem dX10_borderOf_128 : decode cX10_borderOf 128 = .ok (.goto (-84), 3) := by decide +kernel
theorem dX10_borderOf_131 : decode cX10_borderOf 131 = .ok (.iload_n 3, 1) := by decide +kernel
theorem dX10_borderOf_132 : decode cX10_borderOf 132 = .ok (.ireturn, 1) := by decide +kernel
theorem dX10_border_0 : decode cX10_border 0 = .ok (.aload_n 0, 1) := by decide +kernel
theorem dX10_border_1 : decode cX10_border 1 = .ok (.iload_n 1, 1) := by decide +kernel
theorem dX10_border_2 : decode cX10_border 2 = .ok (.iload_n 2, 1) := by decide +kernel
theorem dX10_border_3 : decode cX10_border 3 = .ok (.invokevirtual 273, 3) := by decide +kernel
theorem dX10_border_6 : decode cX10_border 6 = .ok (.ireturn, 1) := by decide +kernel
theorem dX10_borderAgain_0 : decode cX10_borderAgain 0 = .ok (.aload_n 0, 1) := by decide +kernel
theorem dX10_borderAgain_1 : decode cX10_borderAgain 1 = .ok (.iload_n 1, 1) := by decide +kernel
theorem dX10_borderAgain_2 : decode cX10_borderAgain 2 = .ok (.iload_n 2, 1) := by decide +kernel
theorem dX10_borderAgain_3 : decode cX10_borderAgain 3 = .ok (.invokevirtual 273, 3) := by decide +kernel
theorem dX10_borderAgain_6 : decode cX10_borderAgain 6 = .ok (.ireturn, 1) := by decide +kernel
theorem dX10_fence_0 : decode cX10_fence 0 = .ok (.aload_n 0, 1) := by decide +kernel
theorem dX10_fence_1 : decode cX10_fence 1 = .ok (.aload_n 0, 1) := by decide +kernel
theorem dX10_fence_2 : decode cX10_fence 2 = .ok (.iload_n 1, 1) := by decide +kernel
theorem dX10_fence_3 : decode cX10_fence 3 = .ok (.invokevirtual 166, 3) := by decide +kernel
theorem dX10_fence_6 : decode cX10_fence 6 = .ok (.ifCond .eq 7, 3) := by decide +kernel
theorem dX10_fence_9 : decode cX10_fence 9 = .ok (.iconst 0, 1) := by decide +kernel
theorem dX10_fence_10 : decode cX10_fence 10 = .ok (.goto 4, 3) := by decide +kernel
theorem dX10_fence_13 : decode cX10_fence 13 = .ok (.iconst 1, 1) := by decide +kernel
theorem dX10_fence_14 : decode cX10_fence 14 = .ok (.putfield 22, 3) := by decide +kernel
theorem dX10_fence_17 : decode cX10_fence 17 = .ok (.aload_n 0, 1) := by decide +kernel
theorem dX10_fence_18 : decode cX10_fence 18 = .ok (.getfield 22, 3) := by decide +kernel
theorem dX10_fence_21 : decode cX10_fence 21 = .ok (.ifCond .le 5, 3) := by decide +kernel
theorem dX10_fence_24 : decode cX10_fence 24 = .ok (.iconst 0, 1) := by decide +kernel
theorem dX10_fence_25 : decode cX10_fence 25 = .ok (.ireturn, 1) := by decide +kernel
theorem dX10_fence_26 : decode cX10_fence 26 = .ok (.iconst 0, 1) := by decide +kernel
theorem dX10_fence_27 : decode cX10_fence 27 = .ok (.istore_n 2, 1) := by decide +kernel
theorem dX10_fence_28 : decode cX10_fence 28 = .ok (.iconst 0, 1) := by decide +kernel
theorem dX10_fence_29 : decode cX10_fence 29 = .ok (.istore_n 3, 1) := by decide +kernel
theorem dX10_fence_30 : decode cX10_fence 30 = .ok (.iload_n 3, 1) := by decide +kernel
theorem dX10_fence_31 : decode cX10_fence 31 = .ok (.bipush 96, 2) := by decide +kernel
theorem dX10_fence_33 : decode cX10_fence 33 = .ok (.if_icmp .ge 79, 3) := by decide +kernel
theorem dX10_fence_36 : decode cX10_fence 36 = .ok (.aload_n 0, 1) := by decide +kernel
theorem dX10_fence_37 : decode cX10_fence 37 = .ok (.iload_n 3, 1) := by decide +kernel
theorem dX10_fence_38 : decode cX10_fence 38 = .ok (.bipush 12, 2) := by decide +kernel
theorem dX10_fence_40 : decode cX10_fence 40 = .ok (.irem, 1) := by decide +kernel
theorem dX10_fence_41 : decode cX10_fence 41 = .ok (.iload_n 3, 1) := by decide +kernel
theorem dX10_fence_42 : decode cX10_fence 42 = .ok (.bipush 12, 2) := by decide +kernel
theorem dX10_fence_44 : decode cX10_fence 44 = .ok (.idiv, 1) := by decide +kernel
theorem dX10_fence_45 : decode cX10_fence 45 = .ok (.invokevirtual 267, 3) := by decide +kernel
theorem dX10_fence_48 : decode cX10_fence 48 = .ok (.iload_n 1, 1) := by decide +kernel
theorem dX10_fence_49 : decode cX10_fence 49 = .ok (.if_icmp .eq 6, 3) := by decide +kernel
theorem dX10_fence_52 : decode cX10_fence 52 = .ok (.goto 54, 3) := by decide +kernel
theorem dX10_fence_55 : decode cX10_fence 55 = .ok (.iconst 0, 1) := by decide +kernel
theorem dX10_fence_56 : decode cX10_fence 56 = .ok (.istore 4, 2) := by decide +kernel
theorem dX10_fence_58 : decode cX10_fence 58 = .ok (.iload 4, 2) := by decide +kernel
theorem dX10_fence_60 : decode cX10_fence 60 = .ok (.iconst 4, 1) := by decide +kernel
theorem dX10_fence_61 : decode cX10_fence 61 = .ok (.if_icmp .ge 45, 3) := by decide +kernel
theorem dX10_fence_64 : decode cX10_fence 64 = .ok (.iload_n 2, 1) := by decide +kernel
theorem dX10_fence_65 : decode cX10_fence 65 = .ok (.aload_n 0, 1) := by decide +kernel
theorem dX10_fence_66 : decode cX10_fence 66 = .ok (.iload_n 3, 1) := by decide +kernel
theorem dX10_fence_67 : decode cX10_fence 67 = .ok (.bipush 12, 2) := by decide +kernel
theorem dX10_fence_69 : decode cX10_fence 69 = .ok (.irem, 1) := by decide +kernel
theorem dX10_fence_70 : decode cX10_fence 70 = .ok (.iload 4, 2) := by decide +kernel
theorem dX10_fence_72 : decode cX10_fence 72 = .ok (.invokestatic 181, 3) := by decide +kernel
theorem dX10_fence_75 : decode cX10_fence 75 = .ok (.iadd, 1) := by decide +kernel
theorem dX10_fence_76 : decode cX10_fence 76 = .ok (.iload_n 3, 1) := by decide +kernel
theorem dX10_fence_77 : decode cX10_fence 77 = .ok (.bipush 12, 2) := by decide +kernel
theorem dX10_fence_79 : decode cX10_fence 79 = .ok (.idiv, 1) := by decide +kernel
theorem dX10_fence_80 : decode cX10_fence 80 = .ok (.iload 4, 2) := by decide +kernel
theorem dX10_fence_82 : decode cX10_fence 82 = .ok (.invokestatic 184, 3) := by decide +kernel
theorem dX10_fence_85 : decode cX10_fence 85 = .ok (.iadd, 1) := by decide +kernel
theorem dX10_fence_86 : decode cX10_fence 86 = .ok (.invokevirtual 267, 3) := by decide +kernel
theorem dX10_fence_89 : decode cX10_fence 89 = .ok (.iload_n 1, 1) := by decide +kernel
theorem dX10_fence_90 : decode cX10_fence 90 = .ok (.if_icmp .ne 7, 3) := by decide +kernel
theorem dX10_fence_93 : decode cX10_fence 93 = .ok (.iconst 0, 1) := by decide +kernel
theorem dX10_fence_94 : decode cX10_fence 94 = .ok (.goto 4, 3) := by decide +kernel
theorem dX10_fence_97 : decode cX10_fence 97 = .ok (.iconst 1, 1) := by decide +kernel
theorem dX10_fence_98 : decode cX10_fence 98 = .ok (.iadd, 1) := by decide +kernel
theorem dX10_fence_99 : decode cX10_fence 99 = .ok (.istore_n 2, 1) := by decide +kernel
theorem dX10_fence_100 : decode cX10_fence 100 = .ok (.iinc 4 1, 3) := by decide +kernel
theorem dX10_fence_103 : decode cX10_fence 103 = .ok (.goto (-45), 3) := by decide +kernel
theorem dX10_fence_106 : decode cX10_fence 106 = .ok (.iinc 3 1, 3) := by decide +kernel
theorem dX10_fence_109 : decode cX10_fence 109 = .ok (.goto (-79), 3) := by decide +kernel
theorem dX10_fence_112 : decode cX10_fence 112 = .ok (.iload_n 2, 1) := by decide +kernel
theorem dX10_fence_113 : decode cX10_fence 113 = .ok (.ireturn, 1) := by decide +kernel
theorem dX10_cornersOf_0 : decode cX10_cornersOf 0 = .ok (.aload_n 0, 1) := by decide +kernel
theorem dX10_cornersOf_1 : decode cX10_cornersOf 1 = .ok (.iload_n 1, 1) := by decide +kernel
theorem dX10_cornersOf_2 : decode cX10_cornersOf 2 = .ok (.iconst 1, 1) := by decide +kernel
theorem dX10_cornersOf_3 : decode cX10_cornersOf 3 = .ok (.invokevirtual 111, 3) := by decide +kernel
theorem dX10_cornersOf_6 : decode cX10_cornersOf 6 = .ok (.ifCond .ne 5, 3) := by decide +kernel
theorem dX10_cornersOf_9 : decode cX10_cornersOf 9 = .ok (.iconst 0, 1) := by decide +kernel
theorem dX10_cornersOf_10 : decode cX10_cornersOf 10 = .ok (.ireturn, 1) := by decide +kernel
theorem dX10_cornersOf_11 : decode cX10_cornersOf 11 = .ok (.aload_n 0, 1) := by decide +kernel
theorem dX10_cornersOf_12 : decode cX10_cornersOf 12 = .ok (.iload_n 1, 1) := by decide +kernel
theorem dX10_cornersOf_13 : decode cX10_cornersOf 13 = .ok (.iconst 1, 1) := by decide +kernel
theorem dX10_cornersOf_14 : decode cX10_cornersOf 14 = .ok (.invokevirtual 111, 3) := by decide +kernel
theorem dX10_cornersOf_17 : decode cX10_cornersOf 17 = .ok (.iconst 2, 1) := by decide +kernel
theorem dX10_cornersOf_18 : decode cX10_cornersOf 18 = .ok (.if_icmp .ne 7, 3) := by decide +kernel
theorem dX10_cornersOf_21 : decode cX10_cornersOf 21 = .ok (.iconst 0, 1) := by decide +kernel
theorem dX10_cornersOf_22 : decode cX10_cornersOf 22 = .ok (.goto 4, 3) := by decide +kernel
theorem dX10_cornersOf_25 : decode cX10_cornersOf 25 = .ok (.iconst 1, 1) := by decide +kernel
theorem dX10_cornersOf_26 : decode cX10_cornersOf 26 = .ok (.istore_n 2, 1) := by decide +kernel
theorem dX10_cornersOf_27 : decode cX10_cornersOf 27 = .ok (.iconst 0, 1) := by decide +kernel
theorem dX10_cornersOf_28 : decode cX10_cornersOf 28 = .ok (.istore_n 3, 1) := by decide +kernel
theorem dX10_cornersOf_29 : decode cX10_cornersOf 29 = .ok (.iload_n 3, 1) := by decide +kernel
theorem dX10_cornersOf_30 : decode cX10_cornersOf 30 = .ok (.aload_n 0, 1) := by decide +kernel
theorem dX10_cornersOf_31 : decode cX10_cornersOf 31 = .ok (.iload_n 1, 1) := by decide +kernel
theorem dX10_cornersOf_32 : decode cX10_cornersOf 32 = .ok (.iconst 4, 1) := by decide +kernel
theorem dX10_cornersOf_33 : decode cX10_cornersOf 33 = .ok (.invokevirtual 111, 3) := by decide +kernel
theorem dX10_cornersOf_36 : decode cX10_cornersOf 36 = .ok (.if_icmp .ge 18, 3) := by decide +kernel
theorem dX10_cornersOf_39 : decode cX10_cornersOf 39 = .ok (.iload_n 2, 1) := by decide +kernel
theorem dX10_cornersOf_40 : decode cX10_cornersOf 40 = .ok (.aload_n 0, 1) := by decide +kernel
theorem dX10_cornersOf_41 : decode cX10_cornersOf 41 = .ok (.iload_n 1, 1) := by decide +kernel
theorem dX10_cornersOf_42 : decode cX10_cornersOf 42 = .ok (.iload_n 3, 1) := by decide +kernel
theorem dX10_cornersOf_43 : decode cX10_cornersOf 43 = .ok (.invokevirtual 175, 3) := by decide +kernel
theorem dX10_cornersOf_46 : decode cX10_cornersOf 46 = .ok (.iadd, 1) := by decide +kernel
theorem dX10_cornersOf_47 : decode cX10_cornersOf 47 = .ok (.istore_n 2, 1) := by decide +kernel
theorem dX10_cornersOf_48 : decode cX10_cornersOf 48 = .ok (.iinc 3 1, 3) := by decide +kernel
theorem dX10_cornersOf_51 : decode cX10_cornersOf 51 = .ok (.goto (-22), 3) := by decide +kernel
theorem dX10_cornersOf_54 : decode cX10_cornersOf 54 = .ok (.iload_n 2, 1) := by decide +kernel
theorem dX10_cornersOf_55 : decode cX10_cornersOf 55 = .ok (.ireturn, 1) := by decide +kernel
theorem dX10_sleeperOf_0 : decode cX10_sleeperOf 0 = .ok (.aload_n 0, 1) := by decide +kernel
theorem dX10_sleeperOf_1 : decode cX10_sleeperOf 1 = .ok (.iconst 0, 1) := by decide +kernel
theorem dX10_sleeperOf_2 : decode cX10_sleeperOf 2 = .ok (.putfield 22, 3) := by decide +kernel
theorem dX10_sleeperOf_5 : decode cX10_sleeperOf 5 = .ok (.aload_n 0, 1) := by decide +kernel
theorem dX10_sleeperOf_6 : decode cX10_sleeperOf 6 = .ok (.iload_n 1, 1) := by decide +kernel
theorem dX10_sleeperOf_7 : decode cX10_sleeperOf 7 = .ok (.invokevirtual 166, 3) := by decide +kernel
theorem dX10_sleeperOf_10 : decode cX10_sleeperOf 10 = .ok (.ifCond .ne 9, 3) := by decide +kernel
theorem dX10_sleeperOf_13 : decode cX10_sleeperOf 13 = .ok (.aload_n 0, 1) := by decide +kernel
theorem dX10_sleeperOf_14 : decode cX10_sleeperOf 14 = .ok (.iconst 1, 1) := by decide +kernel
theorem dX10_sleeperOf_15 : decode cX10_sleeperOf 15 = .ok (.invokevirtual 103, 3) := by decide +kernel
theorem dX10_sleeperOf_18 : decode cX10_sleeperOf 18 = .ok (.ireturn, 1) := by decide +kernel
theorem dX10_sleeperOf_19 : decode cX10_sleeperOf 19 = .ok (.aload_n 0, 1) := by decide +kernel
theorem dX10_sleeperOf_20 : decode cX10_sleeperOf 20 = .ok (.iload_n 1, 1) := by decide +kernel
theorem dX10_sleeperOf_21 : decode cX10_sleeperOf 21 = .ok (.aload_n 0, 1) := by decide +kernel
theorem dX10_sleeperOf_22 : decode cX10_sleeperOf 22 = .ok (.iload_n 1, 1) := by decide +kernel
theorem dX10_sleeperOf_23 : decode cX10_sleeperOf 23 = .ok (.iconst 4, 1) := by decide +kernel
theorem dX10_sleeperOf_24 : decode cX10_sleeperOf 24 = .ok (.invokevirtual 111, 3) := by decide +kernel
theorem dX10_sleeperOf_27 : decode cX10_sleeperOf 27 = .ok (.invokevirtual 187, 3) := by decide +kernel
theorem dX10_sleeperOf_30 : decode cX10_sleeperOf 30 = .ok (.iload_n 2, 1) := by decide +kernel
theorem dX10_sleeperOf_31 : decode cX10_sleeperOf 31 = .ok (.tableswitch 111 0 6 #[41, 48, 55, 62, 80, 98, 104], 41) := by decide +kernel
theorem dX10_sleeperOf_72 : decode cX10_sleeperOf 72 = .ok (.aload_n 0, 1) := by decide +kernel
theorem dX10_sleeperOf_73 : decode cX10_sleeperOf 73 = .ok (.iload_n 1, 1) := by decide +kernel
theorem dX10_sleeperOf_74 : decode cX10_sleeperOf 74 = .ok (.iconst 0, 1) := by decide +kernel
theorem dX10_sleeperOf_75 : decode cX10_sleeperOf 75 = .ok (.invokevirtual 111, 3) := by decide +kernel
theorem dX10_sleeperOf_78 : decode cX10_sleeperOf 78 = .ok (.ireturn, 1) := by decide +kernel
theorem dX10_sleeperOf_79 : decode cX10_sleeperOf 79 = .ok (.aload_n 0, 1) := by decide +kernel
theorem dX10_sleeperOf_80 : decode cX10_sleeperOf 80 = .ok (.iload_n 1, 1) := by decide +kernel
theorem dX10_sleeperOf_81 : decode cX10_sleeperOf 81 = .ok (.iconst 1, 1) := by decide +kernel
theorem dX10_sleeperOf_82 : decode cX10_sleeperOf 82 = .ok (.invokevirtual 111, 3) := by decide +kernel
theorem dX10_sleeperOf_85 : decode cX10_sleeperOf 85 = .ok (.ireturn, 1) := by decide +kernel
theorem dX10_sleeperOf_86 : decode cX10_sleeperOf 86 = .ok (.aload_n 0, 1) := by decide +kernel
theorem dX10_sleeperOf_87 : decode cX10_sleeperOf 87 = .ok (.iload_n 1, 1) := by decide +kernel
theorem dX10_sleeperOf_88 : decode cX10_sleeperOf 88 = .ok (.iconst 4, 1) := by decide +kernel
theorem dX10_sleeperOf_89 : decode cX10_sleeperOf 89 = .ok (.invokevirtual 111, 3) := by decide +kernel
theorem dX10_sleeperOf_92 : decode cX10_sleeperOf 92 = .ok (.ireturn, 1) := by decide +kernel
theorem dX10_sleeperOf_93 : decode cX10_sleeperOf 93 = .ok (.aload_n 0, 1) := by decide +kernel
theorem dX10_sleeperOf_94 : decode cX10_sleeperOf 94 = .ok (.iload_n 1, 1) := by decide +kernel
theorem dX10_sleeperOf_95 : decode cX10_sleeperOf 95 = .ok (.iconst 1, 1) := by decide +kernel
theorem dX10_sleeperOf_96 : decode cX10_sleeperOf 96 = .ok (.invokevirtual 111, 3) := by decide +kernel
theorem dX10_sleeperOf_99 : decode cX10_sleeperOf 99 = .ok (.ifCond .ne 7, 3) := by decide +kernel
theorem dX10_sleeperOf_102 : decode cX10_sleeperOf 102 = .ok (.iconst (-1), 1) := by decide +kernel
theorem dX10_sleeperOf_103 : decode cX10_sleeperOf 103 = .ok (.goto 7, 3) := by decide +kernel
theorem dX10_sleeperOf_106 : decode cX10_sleeperOf 106 = .ok (.aload_n 0, 1) := by decide +kernel
theorem dX10_sleeperOf_107 : decode cX10_sleeperOf 107 = .ok (.getfield 54, 3) := by decide +kernel
theorem dX10_sleeperOf_110 : decode cX10_sleeperOf 110 = .ok (.ireturn, 1) := by decide +kernel
theorem dX10_sleeperOf_111 : decode cX10_sleeperOf 111 = .ok (.aload_n 0, 1) := by decide +kernel
theorem dX10_sleeperOf_112 : decode cX10_sleeperOf 112 = .ok (.iload_n 1, 1) := by decide +kernel
theorem dX10_sleeperOf_113 : decode cX10_sleeperOf 113 = .ok (.iconst 1, 1) := by decide +kernel
theorem dX10_sleeperOf_114 : decode cX10_sleeperOf 114 = .ok (.invokevirtual 111, 3) := by decide +kernel
theorem dX10_sleeperOf_117 : decode cX10_sleeperOf 117 = .ok (.ifCond .ne 7, 3) := by decide +kernel
theorem dX10_sleeperOf_120 : decode cX10_sleeperOf 120 = .ok (.iconst (-1), 1) := by decide +kernel
theorem dX10_sleeperOf_121 : decode cX10_sleeperOf 121 = .ok (.goto 7, 3) := by decide +kernel
theorem dX10_sleeperOf_124 : decode cX10_sleeperOf 124 = .ok (.aload_n 0, 1) := by decide +kernel
theorem dX10_sleeperOf_125 : decode cX10_sleeperOf 125 = .ok (.getfield 57, 3) := by decide +kernel
theorem dX10_sleeperOf_128 : decode cX10_sleeperOf 128 = .ok (.ireturn, 1) := by decide +kernel
theorem dX10_sleeperOf_129 : decode cX10_sleeperOf 129 = .ok (.aload_n 0, 1) := by decide +kernel
theorem dX10_sleeperOf_130 : decode cX10_sleeperOf 130 = .ok (.iload_n 1, 1) := by decide +kernel
theorem dX10_sleeperOf_131 : decode cX10_sleeperOf 131 = .ok (.invokevirtual 276, 3) := by decide +kernel
theorem dX10_sleeperOf_134 : decode cX10_sleeperOf 134 = .ok (.ireturn, 1) := by decide +kernel
theorem dX10_sleeperOf_135 : decode cX10_sleeperOf 135 = .ok (.aload_n 0, 1) := by decide +kernel
theorem dX10_sleeperOf_136 : decode cX10_sleeperOf 136 = .ok (.iload_n 1, 1) := by decide +kernel
theorem dX10_sleeperOf_137 : decode cX10_sleeperOf 137 = .ok (.iconst 0, 1) := by decide +kernel
theorem dX10_sleeperOf_138 : decode cX10_sleeperOf 138 = .ok (.invokevirtual 279, 3) := by decide +kernel
theorem dX10_sleeperOf_141 : decode cX10_sleeperOf 141 = .ok (.ireturn, 1) := by decide +kernel
theorem dX10_sleeperOf_142 : decode cX10_sleeperOf 142 = .ok (.aload_n 0, 1) := by decide +kernel
theorem dX10_sleeperOf_143 : decode cX10_sleeperOf 143 = .ok (.iconst 2, 1) := by decide +kernel
theorem dX10_sleeperOf_144 : decode cX10_sleeperOf 144 = .ok (.invokevirtual 103, 3) := by decide +kernel
theorem dX10_sleeperOf_147 : decode cX10_sleeperOf 147 = .ok (.ireturn, 1) := by decide +kernel
theorem dX10_chainOf_0 : decode cX10_chainOf 0 = .ok (.aload_n 0, 1) := by decide +kernel
theorem dX10_chainOf_1 : decode cX10_chainOf 1 = .ok (.iconst 0, 1) := by decide +kernel
theorem dX10_chainOf_2 : decode cX10_chainOf 2 = .ok (.putfield 22, 3) := by decide +kernel
theorem dX10_chainOf_5 : decode cX10_chainOf 5 = .ok (.aload_n 0, 1) := by decide +kernel
theorem dX10_chainOf_6 : decode cX10_chainOf 6 = .ok (.iload_n 1, 1) := by decide +kernel
theorem dX10_chainOf_7 : decode cX10_chainOf 7 = .ok (.iload_n 2, 1) := by decide +kernel
theorem dX10_chainOf_8 : decode cX10_chainOf 8 = .ok (.invokevirtual 222, 3) := by decide +kernel
theorem dX10_chainOf_11 : decode cX10_chainOf 11 = .ok (.ifCond .ne 9, 3) := by decide +kernel
theorem dX10_chainOf_14 : decode cX10_chainOf 14 = .ok (.aload_n 0, 1) := by decide +kernel
theorem dX10_chainOf_15 : decode cX10_chainOf 15 = .ok (.iconst 1, 1) := by decide +kernel
theorem dX10_chainOf_16 : decode cX10_chainOf 16 = .ok (.invokevirtual 103, 3) := by decide +kernel
theorem dX10_chainOf_19 : decode cX10_chainOf 19 = .ok (.ireturn, 1) := by decide +kernel
theorem dX10_chainOf_20 : decode cX10_chainOf 20 = .ok (.aload_n 0, 1) := by decide +kernel
theorem dX10_chainOf_21 : decode cX10_chainOf 21 = .ok (.iload_n 1, 1) := by decide +kernel
theorem dX10_chainOf_22 : decode cX10_chainOf 22 = .ok (.iload_n 2, 1) := by decide +kernel
theorem dX10_chainOf_23 : decode cX10_chainOf 23 = .ok (.invokevirtual 187, 3) := by decide +kernel
theorem dX10_chainOf_26 : decode cX10_chainOf 26 = .ok (.iload_n 3, 1) := by decide +kernel
theorem dX10_chainOf_27 : decode cX10_chainOf 27 = .ok (.tableswitch 53 0 3 #[29, 36, 43, 48], 29) := by decide +kernel
theorem dX10_chainOf_56 : decode cX10_chainOf 56 = .ok (.aload_n 0, 1) := by decide +kernel
theorem dX10_chainOf_57 : decode cX10_chainOf 57 = .ok (.iload_n 1, 1) := by decide +kernel
theorem dX10_chainOf_58 : decode cX10_chainOf 58 = .ok (.iload_n 2, 1) := by decide +kernel
theorem dX10_chainOf_59 : decode cX10_chainOf 59 = .ok (.invokevirtual 178, 3) := by decide +kernel
theorem dX10_chainOf_62 : decode cX10_chainOf 62 = .ok (.ireturn, 1) := by decide +kernel
theorem dX10_chainOf_63 : decode cX10_chainOf 63 = .ok (.aload_n 0, 1) := by decide +kernel
theorem dX10_chainOf_64 : decode cX10_chainOf 64 = .ok (.iload_n 1, 1) := by decide +kernel
theorem dX10_chainOf_65 : decode cX10_chainOf 65 = .ok (.iload_n 2, 1) := by decide +kernel
theorem dX10_chainOf_66 : decode cX10_chainOf 66 = .ok (.invokevirtual 175, 3) := by decide +kernel
theorem dX10_chainOf_69 : decode cX10_chainOf 69 = .ok (.ireturn, 1) := by decide +kernel
theorem dX10_chainOf_70 : decode cX10_chainOf 70 = .ok (.aload_n 0, 1) := by decide +kernel
theorem dX10_chainOf_71 : decode cX10_chainOf 71 = .ok (.getfield 54, 3) := by decide +kernel
theorem dX10_chainOf_74 : decode cX10_chainOf 74 = .ok (.ireturn, 1) := by decide +kernel
theorem dX10_chainOf_75 : decode cX10_chainOf 75 = .ok (.aload_n 0, 1) := by decide +kernel
theorem dX10_chainOf_76 : decode cX10_chainOf 76 = .ok (.getfield 57, 3) := by decide +kernel
theorem dX10_chainOf_79 : decode cX10_chainOf 79 = .ok (.ireturn, 1) := by decide +kernel
theorem dX10_chainOf_80 : decode cX10_chainOf 80 = .ok (.aload_n 0, 1) := by decide +kernel
theorem dX10_chainOf_81 : decode cX10_chainOf 81 = .ok (.iconst 2, 1) := by decide +kernel
theorem dX10_chainOf_82 : decode cX10_chainOf 82 = .ok (.invokevirtual 103, 3) := by decide +kernel
theorem dX10_chainOf_85 : decode cX10_chainOf 85 = .ok (.ireturn, 1) := by decide +kernel
theorem dX10_litIn_0 : decode cX10_litIn 0 = .ok (.aload_n 0, 1) := by decide +kernel
theorem dX10_litIn_1 : decode cX10_litIn 1 = .ok (.iload_n 1, 1) := by decide +kernel
theorem dX10_litIn_2 : decode cX10_litIn 2 = .ok (.iconst 2, 1) := by decide +kernel
theorem dX10_litIn_3 : decode cX10_litIn 3 = .ok (.invokevirtual 143, 3) := by decide +kernel
theorem dX10_litIn_6 : decode cX10_litIn 6 = .ok (.aload_n 0, 1) := by decide +kernel
theorem dX10_litIn_7 : decode cX10_litIn 7 = .ok (.getfield 7, 3) := by decide +kernel
theorem dX10_litIn_10 : decode cX10_litIn 10 = .ok (.iconst 2, 1) := by decide +kernel
theorem dX10_litIn_11 : decode cX10_litIn 11 = .ok (.iaload, 1) := by decide +kernel
theorem dX10_litIn_12 : decode cX10_litIn 12 = .ok (.aload_n 0, 1) := by decide +kernel
theorem dX10_litIn_13 : decode cX10_litIn 13 = .ok (.iload_n 1, 1) := by decide +kernel
theorem dX10_litIn_14 : decode cX10_litIn 14 = .ok (.iconst 2, 1) := by decide +kernel
theorem dX10_litIn_15 : decode cX10_litIn 15 = .ok (.invokevirtual 143, 3) := by decide +kernel
theorem dX10_litIn_18 : decode cX10_litIn 18 = .ok (.irem, 1) := by decide +kernel
theorem dX10_litIn_19 : decode cX10_litIn 19 = .ok (.isub, 1) := by decide +kernel
theorem dX10_litIn_20 : decode cX10_litIn 20 = .ok (.aload_n 0, 1) := by decide +kernel
theorem dX10_litIn_21 : decode cX10_litIn 21 = .ok (.iload_n 1, 1) := by decide +kernel
theorem dX10_litIn_22 : decode cX10_litIn 22 = .ok (.iconst 2, 1) := by decide +kernel
theorem dX10_litIn_23 : decode cX10_litIn 23 = .ok (.invokevirtual 143, 3) := by decide +kernel
theorem dX10_litIn_26 : decode cX10_litIn 26 = .ok (.irem, 1) := by decide +kernel
theorem dX10_litIn_27 : decode cX10_litIn 27 = .ok (.ireturn, 1) := by decide +kernel
theorem dX10_pegOf_0 : decode cX10_pegOf 0 = .ok (.aload_n 0, 1) := by decide +kernel
theorem dX10_pegOf_1 : decode cX10_pegOf 1 = .ok (.iconst 0, 1) := by decide +kernel
theorem dX10_pegOf_2 : decode cX10_pegOf 2 = .ok (.putfield 22, 3) := by decide +kernel
theorem dX10_pegOf_5 : decode cX10_pegOf 5 = .ok (.iload_n 1, 1) := by decide +kernel
theorem dX10_pegOf_6 : decode cX10_pegOf 6 = .ok (.iconst 0, 1) := by decide +kernel
theorem dX10_pegOf_7 : decode cX10_pegOf 7 = .ok (.aload_n 0, 1) := by decide +kernel
theorem dX10_pegOf_8 : decode cX10_pegOf 8 = .ok (.getfield 7, 3) := by decide +kernel
theorem dX10_pegOf_11 : decode cX10_pegOf 11 = .ok (.iconst 1, 1) := by decide +kernel
theorem dX10_pegOf_12 : decode cX10_pegOf 12 = .ok (.iaload, 1) := by decide +kernel
theorem dX10_pegOf_13 : decode cX10_pegOf 13 = .ok (.iconst 1, 1) := by decide +kernel
theorem dX10_pegOf_14 : decode cX10_pegOf 14 = .ok (.isub, 1) := by decide +kernel
theorem dX10_pegOf_15 : decode cX10_pegOf 15 = .ok (.invokestatic 115, 3) := by decide +kernel
theorem dX10_pegOf_18 : decode cX10_pegOf 18 = .ok (.ifCond .ne 9, 3) := by decide +kernel
theorem dX10_pegOf_21 : decode cX10_pegOf 21 = .ok (.aload_n 0, 1) := by decide +kernel
theorem dX10_pegOf_22 : decode cX10_pegOf 22 = .ok (.iconst 1, 1) := by decide +kernel
theorem dX10_pegOf_23 : decode cX10_pegOf 23 = .ok (.invokevirtual 103, 3) := by decide +kernel
theorem dX10_pegOf_26 : decode cX10_pegOf 26 = .ok (.ireturn, 1) := by decide +kernel
theorem dX10_pegOf_27 : decode cX10_pegOf 27 = .ok (.iload_n 2, 1) := by decide +kernel
theorem dX10_pegOf_28 : decode cX10_pegOf 28 = .ok (.iconst 0, 1) := by decide +kernel
theorem dX10_pegOf_29 : decode cX10_pegOf 29 = .ok (.iconst 3, 1) := by decide +kernel
theorem dX10_pegOf_30 : decode cX10_pegOf 30 = .ok (.invokestatic 115, 3) := by decide +kernel
theorem dX10_pegOf_33 : decode cX10_pegOf 33 = .ok (.ifCond .ne 9, 3) := by decide +kernel
theorem dX10_pegOf_36 : decode cX10_pegOf 36 = .ok (.aload_n 0, 1) := by decide +kernel
theorem dX10_pegOf_37 : decode cX10_pegOf 37 = .ok (.iconst 2, 1) := by decide +kernel
theorem dX10_pegOf_38 : decode cX10_pegOf 38 = .ok (.invokevirtual 103, 3) := by decide +kernel
theorem dX10_pegOf_41 : decode cX10_pegOf 41 = .ok (.ireturn, 1) := by decide +kernel
theorem dX10_pegOf_42 : decode cX10_pegOf 42 = .ok (.iload_n 2, 1) := by decide +kernel
theorem dX10_pegOf_43 : decode cX10_pegOf 43 = .ok (.iconst 3, 1) := by decide +kernel
theorem dX10_pegOf_44 : decode cX10_pegOf 44 = .ok (.if_icmp .ge 12, 3) := by decide +kernel
theorem dX10_pegOf_47 : decode cX10_pegOf 47 = .ok (.aload_n 0, 1) := by decide +kernel
theorem dX10_pegOf_48 : decode cX10_pegOf 48 = .ok (.iload_n 1, 1) := by decide +kernel
theorem dX10_pegOf_49 : decode cX10_pegOf 49 = .ok (.iload_n 2, 1) := by decide +kernel
theorem dX10_pegOf_50 : decode cX10_pegOf 50 = .ok (.invokevirtual 143, 3) := by decide +kernel
theorem dX10_pegOf_53 : decode cX10_pegOf 53 = .ok (.goto 8, 3) := by decide +kernel
theorem dX10_pegOf_56 : decode cX10_pegOf 56 = .ok (.aload_n 0, 1) := by decide +kernel
theorem dX10_pegOf_57 : decode cX10_pegOf 57 = .ok (.iload_n 1, 1) := by decide +kernel
theorem dX10_pegOf_58 : decode cX10_pegOf 58 = .ok (.invokevirtual 282, 3) := by decide +kernel
theorem dX10_pegOf_61 : decode cX10_pegOf 61 = .ok (.ireturn, 1) := by decide +kernel
theorem dX10_closes_0 : decode cX10_closes 0 = .ok (.aload_n 0, 1) := by decide +kernel
theorem dX10_closes_1 : decode cX10_closes 1 = .ok (.aload_n 0, 1) := by decide +kernel
theorem dX10_closes_2 : decode cX10_closes 2 = .ok (.iload_n 1, 1) := by decide +kernel
theorem dX10_closes_3 : decode cX10_closes 3 = .ok (.invokevirtual 166, 3) := by decide +kernel
theorem dX10_closes_6 : decode cX10_closes 6 = .ok (.ifCond .ne 7, 3) := by decide +kernel
theorem dX10_closes_9 : decode cX10_closes 9 = .ok (.iconst 1, 1) := by decide +kernel
theorem dX10_closes_10 : decode cX10_closes 10 = .ok (.goto 17, 3) := by decide +kernel
theorem dX10_closes_13 : decode cX10_closes 13 = .ok (.aload_n 0, 1) := by decide +kernel
theorem dX10_closes_14 : decode cX10_closes 14 = .ok (.iload_n 1, 1) := by decide +kernel
theorem dX10_closes_15 : decode cX10_closes 15 = .ok (.iconst 1, 1) := by decide +kernel
theorem dX10_closes_16 : decode cX10_closes 16 = .ok (.invokevirtual 111, 3) := by decide +kernel
theorem dX10_closes_19 : decode cX10_closes 19 = .ok (.ifCond .ne 7, 3) := by decide +kernel
theorem dX10_closes_22 : decode cX10_closes 22 = .ok (.iconst 2, 1) := by decide +kernel
theorem dX10_closes_23 : decode cX10_closes 23 = .ok (.goto 4, 3) := by decide +kernel
theorem dX10_closes_26 : decode cX10_closes 26 = .ok (.iconst 0, 1) := by decide +kernel
theorem dX10_closes_27 : decode cX10_closes 27 = .ok (.putfield 22, 3) := by decide +kernel
theorem dX10_closes_30 : decode cX10_closes 30 = .ok (.aload_n 0, 1) := by decide +kernel
theorem dX10_closes_31 : decode cX10_closes 31 = .ok (.getfield 22, 3) := by decide +kernel
theorem dX10_closes_34 : decode cX10_closes 34 = .ok (.ifCond .le 5, 3) := by decide +kernel
theorem dX10_closes_37 : decode cX10_closes 37 = .ok (.iconst 0, 1) := by decide +kernel
theorem dX10_closes_38 : decode cX10_closes 38 = .ok (.ireturn, 1) := by decide +kernel
theorem dX10_closes_39 : decode cX10_closes 39 = .ok (.aload_n 0, 1) := by decide +kernel
theorem dX10_closes_40 : decode cX10_closes 40 = .ok (.iload_n 1, 1) := by decide +kernel
theorem dX10_closes_41 : decode cX10_closes 41 = .ok (.aload_n 0, 1) := by decide +kernel
theorem dX10_closes_42 : decode cX10_closes 42 = .ok (.iload_n 1, 1) := by decide +kernel
theorem dX10_closes_43 : decode cX10_closes 43 = .ok (.iconst 4, 1) := by decide +kernel
theorem dX10_closes_44 : decode cX10_closes 44 = .ok (.invokevirtual 111, 3) := by decide +kernel
theorem dX10_closes_47 : decode cX10_closes 47 = .ok (.invokevirtual 187, 3) := by decide +kernel
theorem dX10_closes_50 : decode cX10_closes 50 = .ok (.aload_n 0, 1) := by decide +kernel
theorem dX10_closes_51 : decode cX10_closes 51 = .ok (.getfield 54, 3) := by decide +kernel
theorem dX10_closes_54 : decode cX10_closes 54 = .ok (.aload_n 0, 1) := by decide +kernel
theorem dX10_closes_55 : decode cX10_closes 55 = .ok (.iload_n 1, 1) := by decide +kernel
theorem dX10_closes_56 : decode cX10_closes 56 = .ok (.iconst 2, 1) := by decide +kernel
theorem dX10_closes_57 : decode cX10_closes 57 = .ok (.invokevirtual 111, 3) := by decide +kernel
theorem dX10_closes_60 : decode cX10_closes 60 = .ok (.isub, 1) := by decide +kernel
theorem dX10_closes_61 : decode cX10_closes 61 = .ok (.invokestatic 201, 3) := by decide +kernel
theorem dX10_closes_64 : decode cX10_closes 64 = .ok (.bipush 8, 2) := by decide +kernel
theorem dX10_closes_66 : decode cX10_closes 66 = .ok (.iadd, 1) := by decide +kernel
theorem dX10_closes_67 : decode cX10_closes 67 = .ok (.bipush 9, 2) := by decide +kernel
theorem dX10_closes_69 : decode cX10_closes 69 = .ok (.idiv, 1) := by decide +kernel
theorem dX10_closes_70 : decode cX10_closes 70 = .ok (.aload_n 0, 1) := by decide +kernel
theorem dX10_closes_71 : decode cX10_closes 71 = .ok (.getfield 57, 3) := by decide +kernel
theorem dX10_closes_74 : decode cX10_closes 74 = .ok (.aload_n 0, 1) := by decide +kernel
theorem dX10_closes_75 : decode cX10_closes 75 = .ok (.iload_n 1, 1) := by decide +kernel
theorem dX10_closes_76 : decode cX10_closes 76 = .ok (.iconst 3, 1) := by decide +kernel
theorem dX10_closes_77 : decode cX10_closes 77 = .ok (.invokevirtual 111, 3) := by decide +kernel
theorem dX10_closes_80 : decode cX10_closes 80 = .ok (.isub, 1) := by decide +kernel
theorem dX10_closes_81 : decode cX10_closes 81 = .ok (.invokestatic 201, 3) := by decide +kernel
theorem dX10_closes_84 : decode cX10_closes 84 = .ok (.bipush 8, 2) := by decide +kernel
theorem dX10_closes_86 : decode cX10_closes 86 = .ok (.iadd, 1) := by decide +kernel
theorem dX10_closes_87 : decode cX10_closes 87 = .ok (.bipush 9, 2) := by decide +kernel
theorem dX10_closes_89 : decode cX10_closes 89 = .ok (.idiv, 1) := by decide +kernel
theorem dX10_closes_90 : decode cX10_closes 90 = .ok (.iadd, 1) := by decide +kernel
theorem dX10_closes_91 : decode cX10_closes 91 = .ok (.ireturn, 1) := by decide +kernel
theorem dX10_would_0 : decode cX10_would 0 = .ok (.aload_n 0, 1) := by decide +kernel
theorem dX10_would_1 : decode cX10_would 1 = .ok (.iconst 0, 1) := by decide +kernel
theorem dX10_would_2 : decode cX10_would 2 = .ok (.putfield 22, 3) := by decide +kernel
theorem dX10_would_5 : decode cX10_would 5 = .ok (.aload_n 0, 1) := by decide +kernel
theorem dX10_would_6 : decode cX10_would 6 = .ok (.iload_n 1, 1) := by decide +kernel
theorem dX10_would_7 : decode cX10_would 7 = .ok (.invokevirtual 166, 3) := by decide +kernel
theorem dX10_would_10 : decode cX10_would 10 = .ok (.ifCond .ne 9, 3) := by decide +kernel
theorem dX10_would_13 : decode cX10_would 13 = .ok (.aload_n 0, 1) := by decide +kernel
theorem dX10_would_14 : decode cX10_would 14 = .ok (.iconst 1, 1) := by decide +kernel
theorem dX10_would_15 : decode cX10_would 15 = .ok (.invokevirtual 103, 3) := by decide +kernel
theorem dX10_would_18 : decode cX10_would 18 = .ok (.ireturn, 1) := by decide +kernel
theorem dX10_would_19 : decode cX10_would 19 = .ok (.iload_n 2, 1) := by decide +kernel
theorem dX10_would_20 : decode cX10_would 20 = .ok (.iconst 0, 1) := by decide +kernel
theorem dX10_would_21 : decode cX10_would 21 = .ok (.bipush 20, 2) := by decide +kernel
theorem dX10_would_23 : decode cX10_would 23 = .ok (.invokestatic 115, 3) := by decide +kernel
theorem dX10_would_26 : decode cX10_would 26 = .ok (.ifCond .eq 12, 3) := by decide +kernel
theorem dX10_would_29 : decode cX10_would 29 = .ok (.aload_n 0, 1) := by decide +kernel
theorem dX10_would_30 : decode cX10_would 30 = .ok (.iload_n 1, 1) := by decide +kernel
theorem dX10_would_31 : decode cX10_would 31 = .ok (.iload_n 2, 1) := by decide +kernel
theorem dX10_would_32 : decode cX10_would 32 = .ok (.invokevirtual 279, 3) := by decide +kernel
theorem dX10_would_35 : decode cX10_would 35 = .ok (.goto 8, 3) := by decide +kernel
theorem dX10_would_38 : decode cX10_would 38 = .ok (.aload_n 0, 1) := by decide +kernel
theorem dX10_would_39 : decode cX10_would 39 = .ok (.iconst 2, 1) := by decide +kernel
theorem dX10_would_40 : decode cX10_would 40 = .ok (.invokevirtual 103, 3) := by decide +kernel
theorem dX10_would_43 : decode cX10_would 43 = .ok (.ireturn, 1) := by decide +kernel
theorem dX10_isAhead_0 : decode cX10_isAhead 0 = .ok (.aload_n 0, 1) := by decide +kernel
theorem dX10_isAhead_1 : decode cX10_isAhead 1 = .ok (.getfield 67, 3) := by decide +kernel
theorem dX10_isAhead_4 : decode cX10_isAhead 4 = .ok (.iload_n 1, 1) := by decide +kernel
theorem dX10_isAhead_5 : decode cX10_isAhead 5 = .ok (.iaload, 1) := by decide +kernel
theorem dX10_isAhead_6 : decode cX10_isAhead 6 = .ok (.aload_n 0, 1) := by decide +kernel
theorem dX10_isAhead_7 : decode cX10_isAhead 7 = .ok (.getfield 67, 3) := by decide +kernel
theorem dX10_isAhead_10 : decode cX10_isAhead 10 = .ok (.iload_n 2, 1) := by decide +kernel
theorem dX10_isAhead_11 : decode cX10_isAhead 11 = .ok (.iaload, 1) := by decide +kernel
theorem dX10_isAhead_12 : decode cX10_isAhead 12 = .ok (.if_icmp .eq 24, 3) := by decide +kernel
theorem dX10_isAhead_15 : decode cX10_isAhead 15 = .ok (.aload_n 0, 1) := by decide +kernel
theorem dX10_isAhead_16 : decode cX10_isAhead 16 = .ok (.getfield 67, 3) := by decide +kernel
theorem dX10_isAhead_19 : decode cX10_isAhead 19 = .ok (.iload_n 1, 1) := by decide +kernel
theorem dX10_isAhead_20 : decode cX10_isAhead 20 = .ok (.iaload, 1) := by decide +kernel
theorem dX10_isAhead_21 : decode cX10_isAhead 21 = .ok (.aload_n 0, 1) := by decide +kernel
theorem dX10_isAhead_22 : decode cX10_isAhead 22 = .ok (.getfield 67, 3) := by decide +kernel
theorem dX10_isAhead_25 : decode cX10_isAhead 25 = .ok (.iload_n 2, 1) := by decide +kernel
theorem dX10_isAhead_26 : decode cX10_isAhead 26 = .ok (.iaload, 1) := by decide +kernel
theorem dX10_isAhead_27 : decode cX10_isAhead 27 = .ok (.if_icmp .le 7, 3) := by decide +kernel
theorem dX10_isAhead_30 : decode cX10_isAhead 30 = .ok (.iconst 1, 1) := by decide +kernel
theorem dX10_isAhead_31 : decode cX10_isAhead 31 = .ok (.goto 4, 3) := by decide +kernel
theorem dX10_isAhead_34 : decode cX10_isAhead 34 = .ok (.iconst 0, 1) := by decide +kernel
theorem dX10_isAhead_35 : decode cX10_isAhead 35 = .ok (.ireturn, 1) := by decide +kernel
theorem dX10_isAhead_36 : decode cX10_isAhead 36 = .ok (.aload_n 0, 1) := by decide +kernel
theorem dX10_isAhead_37 : decode cX10_isAhead 37 = .ok (.iload_n 1, 1) := by decide +kernel
theorem dX10_isAhead_38 : decode cX10_isAhead 38 = .ok (.iconst 0, 1) := by decide +kernel
theorem dX10_isAhead_39 : decode cX10_isAhead 39 = .ok (.invokevirtual 111, 3) := by decide +kernel
theorem dX10_isAhead_42 : decode cX10_isAhead 42 = .ok (.aload_n 0, 1) := by decide +kernel
theorem dX10_isAhead_43 : decode cX10_isAhead 43 = .ok (.iload_n 2, 1) := by decide +kernel
theorem dX10_isAhead_44 : decode cX10_isAhead 44 = .ok (.iconst 0, 1) := by decide +kernel
theorem dX10_isAhead_45 : decode cX10_isAhead 45 = .ok (.invokevirtual 111, 3) := by decide +kernel
theorem dX10_isAhead_48 : decode cX10_isAhead 48 = .ok (.if_icmp .gt 23, 3) := by decide +kernel
theorem dX10_isAhead_51 : decode cX10_isAhead 51 = .ok (.aload_n 0, 1) := by decide +kernel
theorem dX10_isAhead_52 : decode cX10_isAhead 52 = .ok (.iload_n 1, 1) := by decide +kernel
theorem dX10_isAhead_53 : decode cX10_isAhead 53 = .ok (.iconst 0, 1) := by decide +kernel
theorem dX10_isAhead_54 : decode cX10_isAhead 54 = .ok (.invokevirtual 111, 3) := by decide +kernel
theorem dX10_isAhead_57 : decode cX10_isAhead 57 = .ok (.aload_n 0, 1) := by decide +kernel
theorem dX10_isAhead_58 : decode cX10_isAhead 58 = .ok (.iload_n 2, 1) := by decide +kernel
theorem dX10_isAhead_59 : decode cX10_isAhead 59 = .ok (.iconst 0, 1) := by decide +kernel
theorem dX10_isAhead_60 : decode cX10_isAhead 60 = .ok (.invokevirtual 111, 3) := by decide +kernel
theorem dX10_isAhead_63 : decode cX10_isAhead 63 = .ok (.if_icmp .ne 12, 3) := by decide +kernel
theorem dX10_isAhead_66 : decode cX10_isAhead 66 = .ok (.iload_n 1, 1) := by decide +kernel
theorem dX10_isAhead_67 : decode cX10_isAhead 67 = .ok (.iload_n 2, 1) := by decide +kernel
theorem dX10_isAhead_68 : decode cX10_isAhead 68 = .ok (.if_icmp .ge 7, 3) := by decide +kernel
theorem dX10_isAhead_71 : decode cX10_isAhead 71 = .ok (.iconst 1, 1) := by decide +kernel
theorem dX10_isAhead_72 : decode cX10_isAhead 72 = .ok (.goto 4, 3) := by decide +kernel
theorem dX10_isAhead_75 : decode cX10_isAhead 75 = .ok (.iconst 0, 1) := by decide +kernel
theorem dX10_isAhead_76 : decode cX10_isAhead 76 = .ok (.ireturn, 1) := by decide +kernel
theorem dX10_ranked_0 : decode cX10_ranked 0 = .ok (.aload_n 0, 1) := by decide +kernel
theorem dX10_ranked_1 : decode cX10_ranked 1 = .ok (.iconst 0, 1) := by decide +kernel
theorem dX10_ranked_2 : decode cX10_ranked 2 = .ok (.putfield 22, 3) := by decide +kernel
theorem dX10_ranked_5 : decode cX10_ranked 5 = .ok (.iconst 0, 1) := by decide +kernel
theorem dX10_ranked_6 : decode cX10_ranked 6 = .ok (.istore_n 2, 1) := by decide +kernel
theorem dX10_ranked_7 : decode cX10_ranked 7 = .ok (.iload_n 2, 1) := by decide +kernel
theorem dX10_ranked_8 : decode cX10_ranked 8 = .ok (.aload_n 0, 1) := by decide +kernel
theorem dX10_ranked_9 : decode cX10_ranked 9 = .ok (.getfield 7, 3) := by decide +kernel
theorem dX10_ranked_12 : decode cX10_ranked 12 = .ok (.iconst 0, 1) := by decide +kernel
theorem dX10_ranked_13 : decode cX10_ranked 13 = .ok (.iaload, 1) := by decide +kernel
theorem dX10_ranked_14 : decode cX10_ranked 14 = .ok (.if_icmp .ge 21, 3) := by decide +kernel
theorem dX10_ranked_17 : decode cX10_ranked 17 = .ok (.aload_n 0, 1) := by decide +kernel
theorem dX10_ranked_18 : decode cX10_ranked 18 = .ok (.getfield 67, 3) := by decide +kernel
theorem dX10_ranked_21 : decode cX10_ranked 21 = .ok (.iload_n 2, 1) := by decide +kernel
theorem dX10_ranked_22 : decode cX10_ranked 22 = .ok (.aload_n 0, 1) := by decide +kernel
theorem dX10_ranked_23 : decode cX10_ranked 23 = .ok (.iload_n 2, 1) := by decide +kernel
theorem dX10_ranked_24 : decode cX10_ranked 24 = .ok (.iconst 0, 1) := by decide +kernel
theorem dX10_ranked_25 : decode cX10_ranked 25 = .ok (.invokevirtual 279, 3) := by decide +kernel
theorem dX10_ranked_28 : decode cX10_ranked 28 = .ok (.iastore, 1) := by decide +kernel
theorem dX10_ranked_29 : decode cX10_ranked 29 = .ok (.iinc 2 1, 3) := by decide +kernel
theorem dX10_ranked_32 : decode cX10_ranked 32 = .ok (.goto (-25), 3) := by decide +kernel
theorem dX10_ranked_35 : decode cX10_ranked 35 = .ok (.iconst 0, 1) := by decide +kernel
theorem dX10_ranked_36 : decode cX10_ranked 36 = .ok (.istore_n 2, 1) := by decide +kernel
theorem dX10_ranked_37 : decode cX10_ranked 37 = .ok (.iload_n 2, 1) := by decide +kernel
theorem dX10_ranked_38 : decode cX10_ranked 38 = .ok (.aload_n 0, 1) := by decide +kernel
theorem dX10_ranked_39 : decode cX10_ranked 39 = .ok (.getfield 7, 3) := by decide +kernel
theorem dX10_ranked_42 : decode cX10_ranked 42 = .ok (.iconst 0, 1) := by decide +kernel
theorem dX10_ranked_43 : decode cX10_ranked 43 = .ok (.iaload, 1) := by decide +kernel
theorem dX10_ranked_44 : decode cX10_ranked 44 = .ok (.if_icmp .ge 56, 3) := by decide +kernel
theorem dX10_ranked_47 : decode cX10_ranked 47 = .ok (.iconst 0, 1) := by decide +kernel
theorem dX10_ranked_48 : decode cX10_ranked 48 = .ok (.istore_n 3, 1) := by decide +kernel
theorem dX10_ranked_49 : decode cX10_ranked 49 = .ok (.iconst 0, 1) := by decide +kernel
theorem dX10_ranked_50 : decode cX10_ranked 50 = .ok (.istore 4, 2) := by decide +kernel
theorem dX10_ranked_52 : decode cX10_ranked 52 = .ok (.iload 4, 2) := by decide +kernel
theorem dX10_ranked_54 : decode cX10_ranked 54 = .ok (.aload_n 0, 1) := by decide +kernel
theorem dX10_ranked_55 : decode cX10_ranked 55 = .ok (.getfield 7, 3) := by decide +kernel
theorem dX10_ranked_58 : decode cX10_ranked 58 = .ok (.iconst 0, 1) := by decide +kernel
theorem dX10_ranked_59 : decode cX10_ranked 59 = .ok (.iaload, 1) := by decide +kernel
theorem dX10_ranked_60 : decode cX10_ranked 60 = .ok (.if_icmp .ge 27, 3) := by decide +kernel
theorem dX10_ranked_63 : decode cX10_ranked 63 = .ok (.iload_n 3, 1) := by decide +kernel
theorem dX10_ranked_64 : decode cX10_ranked 64 = .ok (.aload_n 0, 1) := by decide +kernel
theorem dX10_ranked_65 : decode cX10_ranked 65 = .ok (.iload 4, 2) := by decide +kernel
theorem dX10_ranked_67 : decode cX10_ranked 67 = .ok (.iload_n 2, 1) := by decide +kernel
theorem dX10_ranked_68 : decode cX10_ranked 68 = .ok (.invokevirtual 285, 3) := by decide +kernel
theorem dX10_ranked_71 : decode cX10_ranked 71 = .ok (.ifCond .eq 7, 3) := by decide +kernel
theorem dX10_ranked_74 : decode cX10_ranked 74 = .ok (.iconst 1, 1) := by decide +kernel
theorem dX10_ranked_75 : decode cX10_ranked 75 = .ok (.goto 4, 3) := by decide +kernel
theorem dX10_ranked_78 : decode cX10_ranked 78 = .ok (.iconst 0, 1) := by decide +kernel
theorem dX10_ranked_79 : decode cX10_ranked 79 = .ok (.iadd, 1) := by decide +kernel
theorem dX10_ranked_80 : decode cX10_ranked 80 = .ok (.istore_n 3, 1) := by decide +kernel
theorem dX10_ranked_81 : decode cX10_ranked 81 = .ok (.iinc 4 1, 3) := by decide +kernel
theorem dX10_ranked_84 : decode cX10_ranked 84 = .ok (.goto (-32), 3) := by decide +kernel
theorem dX10_ranked_87 : decode cX10_ranked 87 = .ok (.iload_n 3, 1) := by decide +kernel
theorem dX10_ranked_88 : decode cX10_ranked 88 = .ok (.iload_n 1, 1) := by decide +kernel
theorem dX10_ranked_89 : decode cX10_ranked 89 = .ok (.if_icmp .ne 5, 3) := by decide +kernel
theorem dX10_ranked_92 : decode cX10_ranked 92 = .ok (.iload_n 2, 1) := by decide +kernel
theorem dX10_ranked_93 : decode cX10_ranked 93 = .ok (.ireturn, 1) := by decide +kernel
theorem dX10_ranked_94 : decode cX10_ranked 94 = .ok (.iinc 2 1, 3) := by decide +kernel
theorem dX10_ranked_97 : decode cX10_ranked 97 = .ok (.goto (-60), 3) := by decide +kernel
theorem dX10_ranked_100 : decode cX10_ranked 100 = .ok (.aload_n 0, 1) := by decide +kernel
theorem dX10_ranked_101 : decode cX10_ranked 101 = .ok (.iconst 1, 1) := by decide +kernel
theorem dX10_ranked_102 : decode cX10_ranked 102 = .ok (.invokevirtual 103, 3) := by decide +kernel
theorem dX10_ranked_105 : decode cX10_ranked 105 = .ok (.ireturn, 1) := by decide +kernel
theorem dX10_nextLit_0 : decode cX10_nextLit 0 = .ok (.aload_n 0, 1) := by decide +kernel
theorem dX10_nextLit_1 : decode cX10_nextLit 1 = .ok (.aload_n 0, 1) := by decide +kernel
theorem dX10_nextLit_2 : decode cX10_nextLit 2 = .ok (.getfield 7, 3) := by decide +kernel
theorem dX10_nextLit_5 : decode cX10_nextLit 5 = .ok (.iconst 1, 1) := by decide +kernel
theorem dX10_nextLit_6 : decode cX10_nextLit 6 = .ok (.iaload, 1) := by decide +kernel
theorem dX10_nextLit_7 : decode cX10_nextLit 7 = .ok (.ifCond .ne 7, 3) := by decide +kernel
theorem dX10_nextLit_10 : decode cX10_nextLit 10 = .ok (.iconst 1, 1) := by decide +kernel
theorem dX10_nextLit_11 : decode cX10_nextLit 11 = .ok (.goto 4, 3) := by decide +kernel
theorem dX10_nextLit_14 : decode cX10_nextLit 14 = .ok (.iconst 0, 1) := by decide +kernel
theorem dX10_nextLit_15 : decode cX10_nextLit 15 = .ok (.putfield 22, 3) := by decide +kernel
theorem dX10_nextLit_18 : decode cX10_nextLit 18 = .ok (.bipush 9, 2) := by decide +kernel
theorem dX10_nextLit_20 : decode cX10_nextLit 20 = .ok (.istore_n 1, 1) := by decide +kernel
theorem dX10_nextLit_21 : decode cX10_nextLit 21 = .ok (.iconst 0, 1) := by decide +kernel
theorem dX10_nextLit_22 : decode cX10_nextLit 22 = .ok (.istore_n 2, 1) := by decide +kernel
theorem dX10_nextLit_23 : decode cX10_nextLit 23 = .ok (.iload_n 2, 1) := by decide +kernel
theorem dX10_nextLit_24 : decode cX10_nextLit 24 = .ok (.aload_n 0, 1) := by decide +kernel
theorem dX10_nextLit_25 : decode cX10_nextLit 25 = .ok (.getfield 7, 3) := by decide +kernel
theorem dX10_nextLit_28 : decode cX10_nextLit 28 = .ok (.iconst 1, 1) := by decide +kernel
theorem dX10_nextLit_29 : decode cX10_nextLit 29 = .ok (.iaload, 1) := by decide +kernel
theorem dX10_nextLit_30 : decode cX10_nextLit 30 = .ok (.if_icmp .ge 28, 3) := by decide +kernel
theorem dX10_nextLit_33 : decode cX10_nextLit 33 = .ok (.aload_n 0, 1) := by decide +kernel
theorem dX10_nextLit_34 : decode cX10_nextLit 34 = .ok (.iload_n 2, 1) := by decide +kernel
theorem dX10_nextLit_35 : decode cX10_nextLit 35 = .ok (.invokevirtual 282, 3) := by decide +kernel
theorem dX10_nextLit_38 : decode cX10_nextLit 38 = .ok (.iload_n 1, 1) := by decide +kernel
theorem dX10_nextLit_39 : decode cX10_nextLit 39 = .ok (.if_icmp .ge 11, 3) := by decide +kernel
theorem dX10_nextLit_42 : decode cX10_nextLit 42 = .ok (.aload_n 0, 1) := by decide +kernel
theorem dX10_nextLit_43 : decode cX10_nextLit 43 = .ok (.iload_n 2, 1) := by decide +kernel
theorem dX10_nextLit_44 : decode cX10_nextLit 44 = .ok (.invokevirtual 282, 3) := by decide +kernel
theorem dX10_nextLit_47 : decode cX10_nextLit 47 = .ok (.goto 4, 3) := by decide +kernel
theorem dX10_nextLit_50 : decode cX10_nextLit 50 = .ok (.iload_n 1, 1) := by decide +kernel
theorem dX10_nextLit_51 : decode cX10_nextLit 51 = .ok (.istore_n 1, 1) := by decide +kernel
theorem dX10_nextLit_52 : decode cX10_nextLit 52 = .ok (.iinc 2 1, 3) := by decide +kernel
theorem dX10_nextLit_55 : decode cX10_nextLit 55 = .ok (.goto (-32), 3) := by decide +kernel
theorem dX10_nextLit_58 : decode cX10_nextLit 58 = .ok (.aload_n 0, 1) := by decide +kernel
theorem dX10_nextLit_59 : decode cX10_nextLit 59 = .ok (.getfield 22, 3) := by decide +kernel
theorem dX10_nextLit_62 : decode cX10_nextLit 62 = .ok (.ifCond .le 7, 3) := by decide +kernel
theorem dX10_nextLit_65 : decode cX10_nextLit 65 = .ok (.iconst 0, 1) := by decide +kernel
theorem dX10_nextLit_66 : decode cX10_nextLit 66 = .ok (.goto 11, 3) := by decide +kernel
theorem dX10_nextLit_69 : decode cX10_nextLit 69 = .ok (.aload_n 0, 1) := by decide +kernel
theorem dX10_nextLit_70 : decode cX10_nextLit 70 = .ok (.getfield 7, 3) := by decide +kernel
theorem dX10_nextLit_73 : decode cX10_nextLit 73 = .ok (.iconst 2, 1) := by decide +kernel
theorem dX10_nextLit_74 : decode cX10_nextLit 74 = .ok (.iaload, 1) := by decide +kernel
theorem dX10_nextLit_75 : decode cX10_nextLit 75 = .ok (.iload_n 1, 1) := by decide +kernel
theorem dX10_nextLit_76 : decode cX10_nextLit 76 = .ok (.iadd, 1) := by decide +kernel
theorem dX10_nextLit_77 : decode cX10_nextLit 77 = .ok (.ireturn, 1) := by decide +kernel
theorem dX10_isWell_0 : decode cX10_isWell 0 = .ok (.aload_n 0, 1) := by decide +kernel
theorem dX10_isWell_1 : decode cX10_isWell 1 = .ok (.iconst 0, 1) := by decide +kernel
theorem dX10_isWell_2 : decode cX10_isWell 2 = .ok (.putfield 22, 3) := by decide +kernel
theorem dX10_isWell_5 : decode cX10_isWell 5 = .ok (.iconst 1, 1) := by decide +kernel
theorem dX10_isWell_6 : decode cX10_isWell 6 = .ok (.ireturn, 1) := by decide +kernel
theorem dX10_type_0 : decode cX10_type 0 = .ok (.aload_n 0, 1) := by decide +kernel
theorem dX10_type_1 : decode cX10_type 1 = .ok (.iconst 0, 1) := by decide +kernel
theorem dX10_type_2 : decode cX10_type 2 = .ok (.putfield 22, 3) := by decide +kernel
theorem dX10_type_5 : decode cX10_type 5 = .ok (.aload_n 0, 1) := by decide +kernel
theorem dX10_type_6 : decode cX10_type 6 = .ok (.getfield 79, 3) := by decide +kernel
theorem dX10_type_9 : decode cX10_type 9 = .ok (.bipush 60, 2) := by decide +kernel
theorem dX10_type_11 : decode cX10_type 11 = .ok (.if_icmp .ne 9, 3) := by decide +kernel
theorem dX10_type_14 : decode cX10_type 14 = .ok (.aload_n 0, 1) := by decide +kernel
theorem dX10_type_15 : decode cX10_type 15 = .ok (.iconst 1, 1) := by decide +kernel
theorem dX10_type_16 : decode cX10_type 16 = .ok (.invokevirtual 103, 3) := by decide +kernel
theorem dX10_type_19 : decode cX10_type 19 = .ok (.ireturn, 1) := by decide +kernel
theorem dX10_type_20 : decode cX10_type 20 = .ok (.aload_n 0, 1) := by decide +kernel
theorem dX10_type_21 : decode cX10_type 21 = .ok (.getfield 70, 3) := by decide +kernel
theorem dX10_type_24 : decode cX10_type 24 = .ok (.aload_n 0, 1) := by decide +kernel
theorem dX10_type_25 : decode cX10_type 25 = .ok (.getfield 79, 3) := by decide +kernel
theorem dX10_type_28 : decode cX10_type 28 = .ok (.iload_n 1, 1) := by decide +kernel
theorem dX10_type_29 : decode cX10_type 29 = .ok (.iastore, 1) := by decide +kernel
theorem dX10_type_30 : decode cX10_type 30 = .ok (.aload_n 0, 1) := by decide +kernel
theorem dX10_type_31 : decode cX10_type 31 = .ok (.dup, 1) := by decide +kernel
theorem dX10_type_32 : decode cX10_type 32 = .ok (.getfield 79, 3) := by decide +kernel
theorem dX10_type_35 : decode cX10_type 35 = .ok (.iconst 1, 1) := by decide +kernel
theorem dX10_type_36 : decode cX10_type 36 = .ok (.iadd, 1) := by decide +kernel
theorem dX10_type_37 : decode cX10_type 37 = .ok (.putfield 79, 3) := by decide +kernel
theorem dX10_type_40 : decode cX10_type 40 = .ok (.aload_n 0, 1) := by decide +kernel
theorem dX10_type_41 : decode cX10_type 41 = .ok (.getfield 79, 3) := by decide +kernel
theorem dX10_type_44 : decode cX10_type 44 = .ok (.ireturn, 1) := by decide +kernel
theorem dX10_mark_0 : decode cX10_mark 0 = .ok (.aload_n 0, 1) := by decide +kernel
theorem dX10_mark_1 : decode cX10_mark 1 = .ok (.getfield 91, 3) := by decide +kernel
theorem dX10_mark_4 : decode cX10_mark 4 = .ok (.ifCond .ne 26, 3) := by decide +kernel
theorem dX10_mark_7 : decode cX10_mark 7 = .ok (.aload_n 0, 1) := by decide +kernel
theorem dX10_mark_8 : decode cX10_mark 8 = .ok (.getfield 85, 3) := by decide +kernel
theorem dX10_mark_11 : decode cX10_mark 11 = .ok (.aload_n 0, 1) := by decide +kernel
theorem dX10_mark_12 : decode cX10_mark 12 = .ok (.getfield 82, 3) := by decide +kernel
theorem dX10_mark_15 : decode cX10_mark 15 = .ok (.if_icmp .ge 15, 3) := by decide +kernel
theorem dX10_mark_18 : decode cX10_mark 18 = .ok (.aload_n 0, 1) := by decide +kernel
theorem dX10_mark_19 : decode cX10_mark 19 = .ok (.getfield 70, 3) := by decide +kernel
theorem dX10_mark_22 : decode cX10_mark 22 = .ok (.aload_n 0, 1) := by decide +kernel
theorem dX10_mark_23 : decode cX10_mark 23 = .ok (.getfield 85, 3) := by decide +kernel
theorem dX10_mark_26 : decode cX10_mark 26 = .ok (.iaload, 1) := by decide +kernel
theorem dX10_mark_27 : decode cX10_mark 27 = .ok (.goto 4, 3) := by decide +kernel
theorem dX10_mark_30 : decode cX10_mark 30 = .ok (.iconst (-1), 1) := by decide +kernel
theorem dX10_mark_31 : decode cX10_mark 31 = .ok (.ireturn, 1) := by decide +kernel
theorem dX10_isDigit_0 : decode cX10_isDigit 0 = .ok (.aload_n 0, 1) := by decide +kernel
theorem dX10_isDigit_1 : decode cX10_isDigit 1 = .ok (.invokevirtual 288, 3) := by decide +kernel
theorem dX10_isDigit_4 : decode cX10_isDigit 4 = .ok (.bipush 48, 2) := by decide +kernel
theorem dX10_isDigit_6 : decode cX10_isDigit 6 = .ok (.bipush 57, 2) := by decide +kernel
theorem dX10_isDigit_8 : decode cX10_isDigit 8 = .ok (.invokestatic 115, 3) := by decide +kernel
theorem dX10_isDigit_11 : decode cX10_isDigit 11 = .ok (.ireturn, 1) := by decide +kernel
theorem dX10_blank_0 : decode cX10_blank 0 = .ok (.aload_n 0, 1) := by decide +kernel
theorem dX10_blank_1 : decode cX10_blank 1 = .ok (.dup, 1) := by decide +kernel
theorem dX10_blank_2 : decode cX10_blank 2 = .ok (.getfield 91, 3) := by decide +kernel
theorem dX10_blank_5 : decode cX10_blank 5 = .ok (.aload_n 0, 1) := by decide +kernel
theorem dX10_blank_6 : decode cX10_blank 6 = .ok (.invokevirtual 288, 3) := by decide +kernel
theorem dX10_blank_9 : decode cX10_blank 9 = .ok (.bipush 32, 2) := by decide +kernel
theorem dX10_blank_11 : decode cX10_blank 11 = .ok (.if_icmp .eq 7, 3) := by decide +kernel
theorem dX10_blank_14 : decode cX10_blank 14 = .ok (.iconst 1, 1) := by decide +kernel
theorem dX10_blank_15 : decode cX10_blank 15 = .ok (.goto 4, 3) := by decide +kernel
theorem dX10_blank_18 : decode cX10_blank 18 = .ok (.iconst 0, 1) := by decide +kernel
theorem dX10_blank_19 : decode cX10_blank 19 = .ok (.ior, 1) := by decide +kernel
theorem dX10_blank_20 : decode cX10_blank 20 = .ok (.putfield 91, 3) := by decide +kernel
theorem dX10_blank_23 : decode cX10_blank 23 = .ok (.aload_n 0, 1) := by decide +kernel
theorem dX10_blank_24 : decode cX10_blank 24 = .ok (.dup, 1) := by decide +kernel
theorem dX10_blank_25 : decode cX10_blank 25 = .ok (.getfield 85, 3) := by decide +kernel
theorem dX10_blank_28 : decode cX10_blank 28 = .ok (.aload_n 0, 1) := by decide +kernel
theorem dX10_blank_29 : decode cX10_blank 29 = .ok (.getfield 91, 3) := by decide +kernel
theorem dX10_blank_32 : decode cX10_blank 32 = .ok (.ifCond .eq 7, 3) := by decide +kernel
theorem dX10_blank_35 : decode cX10_blank 35 = .ok (.iconst 0, 1) := by decide +kernel
theorem dX10_blank_36 : decode cX10_blank 36 = .ok (.goto 4, 3) := by decide +kernel
theorem dX10_blank_39 : decode cX10_blank 39 = .ok (.iconst 1, 1) := by decide +kernel
theorem dX10_blank_40 : decode cX10_blank 40 = .ok (.iadd, 1) := by decide +kernel
theorem dX10_blank_41 : decode cX10_blank 41 = .ok (.putfield 85, 3) := by decide +kernel
theorem dX10_blank_44 : decode cX10_blank 44 = .ok (.return_, 1) := by decide +kernel
theorem dX10_digits_0 : decode cX10_digits 0 = .ok (.aload_n 0, 1) := by decide +kernel
theorem dX10_digits_1 : decode cX10_digits 1 = .ok (.dup, 1) := by decide +kernel
theorem dX10_digits_2 : decode cX10_digits 2 = .ok (.getfield 91, 3) := by decide +kernel
theorem dX10_digits_5 : decode cX10_digits 5 = .ok (.aload_n 0, 1) := by decide +kernel
theorem dX10_digits_6 : decode cX10_digits 6 = .ok (.invokevirtual 292, 3) := by decide +kernel
theorem dX10_digits_9 : decode cX10_digits 9 = .ok (.ifCond .ne 7, 3) := by decide +kernel
theorem dX10_digits_12 : decode cX10_digits 12 = .ok (.iconst 1, 1) := by decide +kernel
theorem dX10_digits_13 : decode cX10_digits 13 = .ok (.goto 4, 3) := by decide +kernel
theorem dX10_digits_16 : decode cX10_digits 16 = .ok (.iconst 0, 1) := by decide +kernel
theorem dX10_digits_17 : decode cX10_digits 17 = .ok (.ior, 1) := by decide +kernel
theorem dX10_digits_18 : decode cX10_digits 18 = .ok (.putfield 91, 3) := by decide +kernel
theorem dX10_digits_21 : decode cX10_digits 21 = .ok (.iconst 0, 1) := by decide +kernel
theorem dX10_digits_22 : decode cX10_digits 22 = .ok (.istore_n 2, 1) := by decide +kernel
theorem dX10_digits_23 : decode cX10_digits 23 = .ok (.iconst 0, 1) := by decide +kernel
theorem dX10_digits_24 : decode cX10_digits 24 = .ok (.istore_n 3, 1) := by decide +kernel
theorem dX10_digits_25 : decode cX10_digits 25 = .ok (.iload_n 3, 1) := by decide +kernel
theorem dX10_digits_26 : decode cX10_digits 26 = .ok (.iload_n 1, 1) := by decide +kernel
theorem dX10_digits_27 : decode cX10_digits 27 = .ok (.if_icmp .ge 44, 3) := by decide +kernel
theorem dX10_digits_30 : decode cX10_digits 30 = .ok (.aload_n 0, 1) := by decide +kernel
theorem dX10_digits_31 : decode cX10_digits 31 = .ok (.invokevirtual 292, 3) := by decide +kernel
theorem dX10_digits_34 : decode cX10_digits 34 = .ok (.ifCond .eq 37, 3) := by decide +kernel
theorem dX10_digits_37 : decode cX10_digits 37 = .ok (.bipush 10, 2) := by decide +kernel
theorem dX10_digits_39 : decode cX10_digits 39 = .ok (.iload_n 2, 1) := by decide +kernel
theorem dX10_digits_40 : decode cX10_digits 40 = .ok (.imul, 1) := by decide +kernel
theorem dX10_digits_41 : decode cX10_digits 41 = .ok (.aload_n 0, 1) := by decide +kernel
theorem dX10_digits_42 : decode cX10_digits 42 = .ok (.getfield 70, 3) := by decide +kernel
theorem dX10_digits_45 : decode cX10_digits 45 = .ok (.aload_n 0, 1) := by decide +kernel
theorem dX10_digits_46 : decode cX10_digits 46 = .ok (.getfield 85, 3) := by decide +kernel
theorem dX10_digits_49 : decode cX10_digits 49 = .ok (.iaload, 1) := by decide +kernel
theorem dX10_digits_50 : decode cX10_digits 50 = .ok (.iadd, 1) := by decide +kernel
theorem dX10_digits_51 : decode cX10_digits 51 = .ok (.bipush 48, 2) := by decide +kernel
theorem dX10_digits_53 : decode cX10_digits 53 = .ok (.isub, 1) := by decide +kernel
theorem dX10_digits_54 : decode cX10_digits 54 = .ok (.istore_n 2, 1) := by decide +kernel
theorem dX10_digits_55 : decode cX10_digits 55 = .ok (.aload_n 0, 1) := by decide +kernel
theorem dX10_digits_56 : decode cX10_digits 56 = .ok (.dup, 1) := by decide +kernel
theorem dX10_digits_57 : decode cX10_digits 57 = .ok (.getfield 85, 3) := by decide +kernel
theorem dX10_digits_60 : decode cX10_digits 60 = .ok (.iconst 1, 1) := by decide +kernel
theorem dX10_digits_61 : decode cX10_digits 61 = .ok (.iadd, 1) := by decide +kernel
theorem dX10_digits_62 : decode cX10_digits 62 = .ok (.putfield 85, 3) := by decide +kernel
theorem dX10_digits_65 : decode cX10_digits 65 = .ok (.iinc 3 1, 3) := by decide +kernel
theorem dX10_digits_68 : decode cX10_digits 68 = .ok (.goto (-43), 3) := by decide +kernel
theorem dX10_digits_71 : decode cX10_digits 71 = .ok (.iload_n 2, 1) := by decide +kernel
theorem dX10_digits_72 : decode cX10_digits 72 = .ok (.ireturn, 1) := by decide +kernel
theorem dX10_behindBlank_0 : decode cX10_behindBlank 0 = .ok (.aload_n 0, 1) := by decide +kernel
theorem dX10_behindBlank_1 : decode cX10_behindBlank 1 = .ok (.invokevirtual 295, 3) := by decide +kernel
theorem dX10_behindBlank_4 : decode cX10_behindBlank 4 = .ok (.aload_n 0, 1) := by decide +kernel
theorem dX10_behindBlank_5 : decode cX10_behindBlank 5 = .ok (.iload_n 1, 1) := by decide +kernel
theorem dX10_behindBlank_6 : decode cX10_behindBlank 6 = .ok (.invokevirtual 298, 3) := by decide +kernel
theorem dX10_behindBlank_9 : decode cX10_behindBlank 9 = .ok (.ireturn, 1) := by decide +kernel
theorem dX10_takesDirection_0 : decode cX10_takesDirection 0 = .ok (.aload_n 0, 1) := by decide +kernel
theorem dX10_takesDirection_1 : decode cX10_takesDirection 1 = .ok (.invokevirtual 288, 3) := by decide +kernel
theorem dX10_takesDirection_4 : decode cX10_takesDirection 4 = .ok (.invokestatic 204, 3) := by decide +kernel
theorem dX10_takesDirection_7 : decode cX10_takesDirection 7 = .ok (.istore_n 1, 1) := by decide +kernel
theorem dX10_takesDirection_8 : decode cX10_takesDirection 8 = .ok (.aload_n 0, 1) := by decide +kernel
theorem dX10_takesDirection_9 : decode cX10_takesDirection 9 = .ok (.dup, 1) := by decide +kernel
theorem dX10_takesDirection_10 : decode cX10_takesDirection 10 = .ok (.getfield 91, 3) := by decide +kernel
theorem dX10_takesDirection_13 : decode cX10_takesDirection 13 = .ok (.iload_n 1, 1) := by decide +kernel
theorem dX10_takesDirection_14 : decode cX10_takesDirection 14 = .ok (.ifCond .ge 7, 3) := by decide +kernel
theorem dX10_takesDirection_17 : decode cX10_takesDirection 17 = .ok (.iconst 1, 1) := by decide +kernel
theorem dX10_takesDirection_18 : decode cX10_takesDirection 18 = .ok (.goto 4, 3) := by decide +kernel
theorem dX10_takesDirection_21 : decode cX10_takesDirection 21 = .ok (.iconst 0, 1) := by decide +kernel
theorem dX10_takesDirection_22 : decode cX10_takesDirection 22 = .ok (.ior, 1) := by decide +kernel
theorem dX10_takesDirection_23 : decode cX10_takesDirection 23 = .ok (.putfield 91, 3) := by decide +kernel
theorem dX10_takesDirection_26 : decode cX10_takesDirection 26 = .ok (.aload_n 0, 1) := by decide +kernel
theorem dX10_takesDirection_27 : decode cX10_takesDirection 27 = .ok (.dup, 1) := by decide +kernel
theorem dX10_takesDirection_28 : decode cX10_takesDirection 28 = .ok (.getfield 85, 3) := by decide +kernel
theorem dX10_takesDirection_31 : decode cX10_takesDirection 31 = .ok (.aload_n 0, 1) := by decide +kernel
theorem dX10_takesDirection_32 : decode cX10_takesDirection 32 = .ok (.getfield 91, 3) := by decide +kernel
theorem dX10_takesDirection_35 : decode cX10_takesDirection 35 = .ok (.ifCond .eq 7, 3) := by decide +kernel
theorem dX10_takesDirection_38 : decode cX10_takesDirection 38 = .ok (.iconst 0, 1) := by decide +kernel
theorem dX10_takesDirection_39 : decode cX10_takesDirection 39 = .ok (.goto 4, 3) := by decide +kernel
theorem dX10_takesDirection_42 : decode cX10_takesDirection 42 = .ok (.iconst 1, 1) := by decide +kernel
theorem dX10_takesDirection_43 : decode cX10_takesDirection 43 = .ok (.iadd, 1) := by decide +kernel
theorem dX10_takesDirection_44 : decode cX10_takesDirection 44 = .ok (.putfield 85, 3) := by decide +kernel
theorem dX10_takesDirection_47 : decode cX10_takesDirection 47 = .ok (.iload_n 1, 1) := by decide +kernel
theorem dX10_takesDirection_48 : decode cX10_takesDirection 48 = .ok (.ireturn, 1) := by decide +kernel
theorem dX10_takesSign_0 : decode cX10_takesSign 0 = .ok (.aload_n 0, 1) := by decide +kernel
theorem dX10_takesSign_1 : decode cX10_takesSign 1 = .ok (.invokevirtual 288, 3) := by decide +kernel
theorem dX10_takesSign_4 : decode cX10_takesSign 4 = .ok (.istore_n 1, 1) := by decide +kernel
theorem dX10_takesSign_5 : decode cX10_takesSign 5 = .ok (.aload_n 0, 1) := by decide +kernel
theorem dX10_takesSign_6 : decode cX10_takesSign 6 = .ok (.dup, 1) := by decide +kernel
theorem dX10_takesSign_7 : decode cX10_takesSign 7 = .ok (.getfield 91, 3) := by decide +kernel
theorem dX10_takesSign_10 : decode cX10_takesSign 10 = .ok (.iload_n 1, 1) := by decide +kernel
theorem dX10_takesSign_11 : decode cX10_takesSign 11 = .ok (.bipush 43, 2) := by decide +kernel
theorem dX10_takesSign_13 : decode cX10_takesSign 13 = .ok (.if_icmp .eq 13, 3) := by decide +kernel
theorem dX10_takesSign_16 : decode cX10_takesSign 16 = .ok (.iload_n 1, 1) := by decide +kernel
theorem dX10_takesSign_17 : decode cX10_takesSign 17 = .ok (.bipush 45, 2) := by decide +kernel
theorem dX10_takesSign_19 : decode cX10_takesSign 19 = .ok (.if_icmp .eq 7, 3) := by decide +kernel
theorem dX10_takesSign_22 : decode cX10_takesSign 22 = .ok (.iconst 1, 1) := by decide +kernel
theorem dX10_takesSign_23 : decode cX10_takesSign 23 = .ok (.goto 4, 3) := by decide +kernel
theorem dX10_takesSign_26 : decode cX10_takesSign 26 = .ok (.iconst 0, 1) := by decide +kernel
theorem dX10_takesSign_27 : decode cX10_takesSign 27 = .ok (.ior, 1) := by decide +kernel
theorem dX10_takesSign_28 : decode cX10_takesSign 28 = .ok (.putfield 91, 3) := by decide +kernel
theorem dX10_takesSign_31 : decode cX10_takesSign 31 = .ok (.aload_n 0, 1) := by decide +kernel
theorem dX10_takesSign_32 : decode cX10_takesSign 32 = .ok (.dup, 1) := by decide +kernel
theorem dX10_takesSign_33 : decode cX10_takesSign 33 = .ok (.getfield 85, 3) := by decide +kernel
theorem dX10_takesSign_36 : decode cX10_takesSign 36 = .ok (.aload_n 0, 1) := by decide +kernel
theorem dX10_takesSign_37 : decode cX10_takesSign 37 = .ok (.getfield 91, 3) := by decide +kernel
theorem dX10_takesSign_40 : decode cX10_takesSign 40 = .ok (.ifCond .eq 7, 3) := by decide +kernel
theorem dX10_takesSign_43 : decode cX10_takesSign 43 = .ok (.iconst 0, 1) := by decide +kernel
theorem dX10_takesSign_44 : decode cX10_takesSign 44 = .ok (.goto 4, 3) := by decide +kernel
theorem dX10_takesSign_47 : decode cX10_takesSign 47 = .ok (.iconst 1, 1) := by decide +kernel
theorem dX10_takesSign_48 : decode cX10_takesSign 48 = .ok (.iadd, 1) := by decide +kernel
theorem dX10_takesSign_49 : decode cX10_takesSign 49 = .ok (.putfield 85, 3) := by decide +kernel
theorem dX10_takesSign_52 : decode cX10_takesSign 52 = .ok (.iload_n 1, 1) := by decide +kernel
theorem dX10_takesSign_53 : decode cX10_takesSign 53 = .ok (.bipush 45, 2) := by decide +kernel
theorem dX10_takesSign_55 : decode cX10_takesSign 55 = .ok (.if_icmp .ne 7, 3) := by decide +kernel
theorem dX10_takesSign_58 : decode cX10_takesSign 58 = .ok (.iconst (-1), 1) := by decide +kernel
theorem dX10_takesSign_59 : decode cX10_takesSign 59 = .ok (.goto 4, 3) := by decide +kernel
theorem dX10_takesSign_62 : decode cX10_takesSign 62 = .ok (.iconst 1, 1) := by decide +kernel
theorem dX10_takesSign_63 : decode cX10_takesSign 63 = .ok (.ireturn, 1) := by decide +kernel
theorem dX10_inWord_0 : decode cX10_inWord 0 = .ok (.iload_n 0, 1) := by decide +kernel
theorem dX10_inWord_1 : decode cX10_inWord 1 = .ok (.tableswitch 40 0 3 #[31, 33, 35, 37], 31) := by decide +kernel
theorem dX10_inWord_32 : decode cX10_inWord 32 = .ok (.iload_n 1, 1) := by decide +kernel
theorem dX10_inWord_33 : decode cX10_inWord 33 = .ok (.ireturn, 1) := by decide +kernel
theorem dX10_inWord_34 : decode cX10_inWord 34 = .ok (.iload_n 2, 1) := by decide +kernel
theorem dX10_inWord_35 : decode cX10_inWord 35 = .ok (.ireturn, 1) := by decide +kernel
theorem dX10_inWord_36 : decode cX10_inWord 36 = .ok (.iload_n 3, 1) := by decide +kernel
theorem dX10_inWord_37 : decode cX10_inWord 37 = .ok (.ireturn, 1) := by decide +kernel
theorem dX10_inWord_38 : decode cX10_inWord 38 = .ok (.iload 4, 2) := by decide +kernel
theorem dX10_inWord_40 : decode cX10_inWord 40 = .ok (.ireturn, 1) := by decide +kernel
theorem dX10_inWord_41 : decode cX10_inWord 41 = .ok (.iconst 0, 1) := by decide +kernel
theorem dX10_inWord_42 : decode cX10_inWord 42 = .ok (.ireturn, 1) := by decide +kernel
theorem dX10_letter_0 : decode cX10_letter 0 = .ok (.iload_n 0, 1) := by decide +kernel
theorem dX10_letter_1 : decode cX10_letter 1 = .ok (.tableswitch 131 0 6 #[43, 55, 67, 80, 92, 105, 118], 43) := by decide +kernel
theorem dX10_letter_44 : decode cX10_letter 44 = .ok (.iload_n 1, 1) := by decide +kernel
theorem dX10_letter_45 : decode cX10_letter 45 = .ok (.bipush 110, 2) := by decide +kernel
theorem dX10_letter_47 : decode cX10_letter 47 = .ok (.bipush 101, 2) := by decide +kernel
theorem dX10_letter_49 : decode cX10_letter 49 = .ok (.bipush 119, 2) := by decide +kernel
theorem dX10_letter_51 : decode cX10_letter 51 = .ok (.iconst 0, 1) := by decide +kernel
theorem dX10_letter_52 : decode cX10_letter 52 = .ok (.invokestatic 301, 3) := by decide +kernel
theorem dX10_letter_55 : decode cX10_letter 55 = .ok (.ireturn, 1) := by decide +kernel
theorem dX10_letter_56 : decode cX10_letter 56 = .ok (.iload_n 1, 1) := by decide +kernel
theorem dX10_letter_57 : decode cX10_letter 57 = .ok (.bipush 112, 2) := by decide +kernel
theorem dX10_letter_59 : decode cX10_letter 59 = .ok (.bipush 101, 2) := by decide +kernel
theorem dX10_letter_61 : decode cX10_letter 61 = .ok (.bipush 103, 2) := by decide +kernel
theorem dX10_letter_63 : decode cX10_letter 63 = .ok (.iconst 0, 1) := by decide +kernel
theorem dX10_letter_64 : decode cX10_letter 64 = .ok (.invokestatic 301, 3) := by decide +kernel
theorem dX10_letter_67 : decode cX10_letter 67 = .ok (.ireturn, 1) := by decide +kernel
theorem dX10_letter_68 : decode cX10_letter 68 = .ok (.iload_n 1, 1) := by decide +kernel
theorem dX10_letter_69 : decode cX10_letter 69 = .ok (.bipush 112, 2) := by decide +kernel
theorem dX10_letter_71 : decode cX10_letter 71 = .ok (.bipush 108, 2) := by decide +kernel
theorem dX10_letter_73 : decode cX10_letter 73 = .ok (.bipush 111, 2) := by decide +kernel
theorem dX10_letter_75 : decode cX10_letter 75 = .ok (.bipush 116, 2) := by decide +kernel
theorem dX10_letter_77 : decode cX10_letter 77 = .ok (.invokestatic 301, 3) := by decide +kernel
theorem dX10_letter_80 : decode cX10_letter 80 = .ok (.ireturn, 1) := by decide +kernel
theorem dX10_letter_81 : decode cX10_letter 81 = .ok (.iload_n 1, 1) := by decide +kernel
theorem dX10_letter_82 : decode cX10_letter 82 = .ok (.bipush 108, 2) := by decide +kernel
theorem dX10_letter_84 : decode cX10_letter 84 = .ok (.bipush 97, 2) := by decide +kernel
theorem dX10_letter_86 : decode cX10_letter 86 = .ok (.bipush 121, 2) := by decide +kernel
theorem dX10_letter_88 : decode cX10_letter 88 = .ok (.iconst 0, 1) := by decide +kernel
theorem dX10_letter_89 : decode cX10_letter 89 = .ok (.invokestatic 301, 3) := by decide +kernel
theorem dX10_letter_92 : decode cX10_letter 92 = .ok (.ireturn, 1) := by decide +kernel
theorem dX10_letter_93 : decode cX10_letter 93 = .ok (.iload_n 1, 1) := by decide +kernel
theorem dX10_letter_94 : decode cX10_letter 94 = .ok (.bipush 98, 2) := by decide +kernel
theorem dX10_letter_96 : decode cX10_letter 96 = .ok (.bipush 101, 2) := by decide +kernel
theorem dX10_letter_98 : decode cX10_letter 98 = .ok (.bipush 110, 2) := by decide +kernel
theorem dX10_letter_100 : decode cX10_letter 100 = .ok (.bipush 100, 2) := by decide +kernel
theorem dX10_letter_102 : decode cX10_letter 102 = .ok (.invokestatic 301, 3) := by decide +kernel
theorem dX10_letter_105 : decode cX10_letter 105 = .ok (.ireturn, 1) := by decide +kernel
theorem dX10_letter_106 : decode cX10_letter 106 = .ok (.iload_n 1, 1) := by decide +kernel
theorem dX10_letter_107 : decode cX10_letter 107 = .ok (.bipush 100, 2) := by decide +kernel
theorem dX10_letter_109 : decode cX10_letter 109 = .ok (.bipush 114, 2) := by decide +kernel
theorem dX10_letter_111 : decode cX10_letter 111 = .ok (.bipush 111, 2) := by decide +kernel
theorem dX10_letter_113 : decode cX10_letter 113 = .ok (.bipush 112, 2) := by decide +kernel
theorem dX10_letter_115 : decode cX10_letter 115 = .ok (.invokestatic 301, 3) := by decide +kernel
theorem dX10_letter_118 : decode cX10_letter 118 = .ok (.ireturn, 1) := by decide +kernel
theorem dX10_letter_119 : decode cX10_letter 119 = .ok (.iload_n 1, 1) := by decide +kernel
theorem dX10_letter_120 : decode cX10_letter 120 = .ok (.bipush 100, 2) := by decide +kernel
theorem dX10_letter_122 : decode cX10_letter 122 = .ok (.bipush 101, 2) := by decide +kernel
theorem dX10_letter_124 : decode cX10_letter 124 = .ok (.bipush 101, 2) := by decide +kernel
theorem dX10_letter_126 : decode cX10_letter 126 = .ok (.bipush 112, 2) := by decide +kernel
theorem dX10_letter_128 : decode cX10_letter 128 = .ok (.invokestatic 301, 3) := by decide +kernel
theorem dX10_letter_131 : decode cX10_letter 131 = .ok (.ireturn, 1) := by decide +kernel
theorem dX10_letter_132 : decode cX10_letter 132 = .ok (.iload_n 1, 1) := by decide +kernel
theorem dX10_letter_133 : decode cX10_letter 133 = .ok (.bipush 100, 2) := by decide +kernel
theorem dX10_letter_135 : decode cX10_letter 135 = .ok (.bipush 117, 2) := by decide +kernel
theorem dX10_letter_137 : decode cX10_letter 137 = .ok (.bipush 115, 2) := by decide +kernel
theorem dX10_letter_139 : decode cX10_letter 139 = .ok (.bipush 107, 2) := by decide +kernel
theorem dX10_letter_141 : decode cX10_letter 141 = .ok (.invokestatic 301, 3) := by decide +kernel
theorem dX10_letter_144 : decode cX10_letter 144 = .ok (.ireturn, 1) := by decide +kernel
theorem dX10_kindHere_0 : decode cX10_kindHere 0 = .ok (.iconst 0, 1) := by decide +kernel
theorem dX10_kindHere_1 : decode cX10_kindHere 1 = .ok (.istore_n 1, 1) := by decide +kernel
theorem dX10_kindHere_2 : decode cX10_kindHere 2 = .ok (.iconst 0, 1) := by decide +kernel
theorem dX10_kindHere_3 : decode cX10_kindHere 3 = .ok (.istore_n 2, 1) := by decide +kernel
theorem dX10_kindHere_4 : decode cX10_kindHere 4 = .ok (.iload_n 2, 1) := by decide +kernel
theorem dX10_kindHere_5 : decode cX10_kindHere 5 = .ok (.bipush 8, 2) := by decide +kernel
theorem dX10_kindHere_7 : decode cX10_kindHere 7 = .ok (.if_icmp .ge 88, 3) := by decide +kernel
theorem dX10_kindHere_10 : decode cX10_kindHere 10 = .ok (.iconst 0, 1) := by decide +kernel
theorem dX10_kindHere_11 : decode cX10_kindHere 11 = .ok (.istore_n 3, 1) := by decide +kernel
theorem dX10_kindHere_12 : decode cX10_kindHere 12 = .ok (.iload_n 2, 1) := by decide +kernel
theorem dX10_kindHere_13 : decode cX10_kindHere 13 = .ok (.iload_n 3, 1) := by decide +kernel
theorem dX10_kindHere_14 : decode cX10_kindHere 14 = .ok (.invokestatic 305, 3) := by decide +kernel
theorem dX10_kindHere_17 : decode cX10_kindHere 17 = .ok (.ifCond .le 41, 3) := by decide +kernel
theorem dX10_kindHere_20 : decode cX10_kindHere 20 = .ok (.aload_n 0, 1) := by decide +kernel
theorem dX10_kindHere_21 : decode cX10_kindHere 21 = .ok (.getfield 85, 3) := by decide +kernel
theorem dX10_kindHere_24 : decode cX10_kindHere 24 = .ok (.iload_n 3, 1) := by decide +kernel
theorem dX10_kindHere_25 : decode cX10_kindHere 25 = .ok (.iadd, 1) := by decide +kernel
theorem dX10_kindHere_26 : decode cX10_kindHere 26 = .ok (.aload_n 0, 1) := by decide +kernel
theorem dX10_kindHere_27 : decode cX10_kindHere 27 = .ok (.getfield 82, 3) := by decide +kernel
theorem dX10_kindHere_30 : decode cX10_kindHere 30 = .ok (.if_icmp .ge 28, 3) := by decide +kernel
theorem dX10_kindHere_33 : decode cX10_kindHere 33 = .ok (.aload_n 0, 1) := by decide +kernel
theorem dX10_kindHere_34 : decode cX10_kindHere 34 = .ok (.getfield 70, 3) := by decide +kernel
theorem dX10_kindHere_37 : decode cX10_kindHere 37 = .ok (.aload_n 0, 1) := by decide +kernel
theorem dX10_kindHere_38 : decode cX10_kindHere 38 = .ok (.getfield 85, 3) := by decide +kernel
theorem dX10_kindHere_41 : decode cX10_kindHere 41 = .ok (.iload_n 3, 1) := by decide +kernel
theorem dX10_kindHere_42 : decode cX10_kindHere 42 = .ok (.iadd, 1) := by decide +kernel
theorem dX10_kindHere_43 : decode cX10_kindHere 43 = .ok (.iaload, 1) := by decide +kernel
theorem dX10_kindHere_44 : decode cX10_kindHere 44 = .ok (.iload_n 2, 1) := by decide +kernel
theorem dX10_kindHere_45 : decode cX10_kindHere 45 = .ok (.iload_n 3, 1) := by decide +kernel
theorem dX10_kindHere_46 : decode cX10_kindHere 46 = .ok (.invokestatic 305, 3) := by decide +kernel
theorem dX10_kindHere_49 : decode cX10_kindHere 49 = .ok (.if_icmp .ne 9, 3) := by decide +kernel
theorem dX10_kindHere_52 : decode cX10_kindHere 52 = .ok (.iinc 3 1, 3) := by decide +kernel
theorem dX10_kindHere_55 : decode cX10_kindHere 55 = .ok (.goto (-43), 3) := by decide +kernel
theorem dX10_kindHere_58 : decode cX10_kindHere 58 = .ok (.iload_n 2, 1) := by decide +kernel
theorem dX10_kindHere_59 : decode cX10_kindHere 59 = .ok (.iload_n 3, 1) := by decide +kernel
theorem dX10_kindHere_60 : decode cX10_kindHere 60 = .ok (.invokestatic 305, 3) := by decide +kernel
theorem dX10_kindHere_63 : decode cX10_kindHere 63 = .ok (.ifCond .ne 15, 3) := by decide +kernel
theorem dX10_kindHere_66 : decode cX10_kindHere 66 = .ok (.aload_n 0, 1) := by decide +kernel
theorem dX10_kindHere_67 : decode cX10_kindHere 67 = .ok (.dup, 1) := by decide +kernel
theorem dX10_kindHere_68 : decode cX10_kindHere 68 = .ok (.getfield 85, 3) := by decide +kernel
theorem dX10_kindHere_71 : decode cX10_kindHere 71 = .ok (.iload_n 3, 1) := by decide +kernel
theorem dX10_kindHere_72 : decode cX10_kindHere 72 = .ok (.iadd, 1) := by decide +kernel
theorem dX10_kindHere_73 : decode cX10_kindHere 73 = .ok (.putfield 85, 3) := by decide +kernel
theorem dX10_kindHere_76 : decode cX10_kindHere 76 = .ok (.iload_n 2, 1) := by decide +kernel
theorem dX10_kindHere_77 : decode cX10_kindHere 77 = .ok (.ireturn, 1) := by decide +kernel
theorem dX10_kindHere_78 : decode cX10_kindHere 78 = .ok (.iload_n 3, 1) := by decide +kernel
theorem dX10_kindHere_79 : decode cX10_kindHere 79 = .ok (.iload_n 1, 1) := by decide +kernel
theorem dX10_kindHere_80 : decode cX10_kindHere 80 = .ok (.if_icmp .le 7, 3) := by decide +kernel
theorem dX10_kindHere_83 : decode cX10_kindHere 83 = .ok (.iload_n 3, 1) := by decide +kernel
theorem dX10_kindHere_84 : decode cX10_kindHere 84 = .ok (.goto 4, 3) := by decide +kernel
theorem dX10_kindHere_87 : decode cX10_kindHere 87 = .ok (.iload_n 1, 1) := by decide +kernel
theorem dX10_kindHere_88 : decode cX10_kindHere 88 = .ok (.istore_n 1, 1) := by decide +kernel
theorem dX10_kindHere_89 : decode cX10_kindHere 89 = .ok (.iinc 2 1, 3) := by decide +kernel
theorem dX10_kindHere_92 : decode cX10_kindHere 92 = .ok (.goto (-88), 3) := by decide +kernel
theorem dX10_kindHere_95 : decode cX10_kindHere 95 = .ok (.aload_n 0, 1) := by decide +kernel
theorem dX10_kindHere_96 : decode cX10_kindHere 96 = .ok (.dup, 1) := by decide +kernel
theorem dX10_kindHere_97 : decode cX10_kindHere 97 = .ok (.getfield 85, 3) := by decide +kernel
theorem dX10_kindHere_100 : decode cX10_kindHere 100 = .ok (.iload_n 1, 1) := by decide +kernel
theorem dX10_kindHere_101 : decode cX10_kindHere 101 = .ok (.iadd, 1) := by decide +kernel
theorem dX10_kindHere_102 : decode cX10_kindHere 102 = .ok (.putfield 85, 3) := by decide +kernel
theorem dX10_kindHere_105 : decode cX10_kindHere 105 = .ok (.aload_n 0, 1) := by decide +kernel
theorem dX10_kindHere_106 : decode cX10_kindHere 106 = .ok (.iconst 1, 1) := by decide +kernel
theorem dX10_kindHere_107 : decode cX10_kindHere 107 = .ok (.putfield 91, 3) := by decide +kernel
theorem dX10_kindHere_110 : decode cX10_kindHere 110 = .ok (.iconst 0, 1) := by decide +kernel
theorem dX10_kindHere_111 : decode cX10_kindHere 111 = .ok (.ireturn, 1) := by decide +kernel
theorem dX10_command_0 : decode cX10_command 0 = .ok (.aload_n 0, 1) := by decide +kernel
theorem dX10_command_1 : decode cX10_command 1 = .ok (.invokevirtual 308, 3) := by decide +kernel
theorem dX10_command_4 : decode cX10_command 4 = .ok (.istore_n 1, 1) := by decide +kernel
theorem dX10_command_5 : decode cX10_command 5 = .ok (.aload_n 0, 1) := by decide +kernel
theorem dX10_command_6 : decode cX10_command 6 = .ok (.iload_n 1, 1) := by decide +kernel
theorem dX10_command_7 : decode cX10_command 7 = .ok (.iconst 1, 1) := by decide +kernel
theorem dX10_command_8 : decode cX10_command 8 = .ok (.if_icmp .eq 9, 3) := by decide +kernel
theorem dX10_command_11 : decode cX10_command 11 = .ok (.iload_n 1, 1) := by decide +kernel
theorem dX10_command_12 : decode cX10_command 12 = .ok (.bipush 7, 2) := by decide +kernel
theorem dX10_command_14 : decode cX10_command 14 = .ok (.if_icmp .ne 7, 3) := by decide +kernel
theorem dX10_command_17 : decode cX10_command 17 = .ok (.iconst 2, 1) := by decide +kernel
theorem dX10_command_18 : decode cX10_command 18 = .ok (.goto 4, 3) := by decide +kernel
theorem dX10_command_21 : decode cX10_command 21 = .ok (.iconst 1, 1) := by decide +kernel
theorem dX10_command_22 : decode cX10_command 22 = .ok (.invokevirtual 311, 3) := by decide +kernel
theorem dX10_command_25 : decode cX10_command 25 = .ok (.istore_n 2, 1) := by decide +kernel
theorem dX10_command_26 : decode cX10_command 26 = .ok (.iconst 0, 1) := by decide +kernel
theorem dX10_command_27 : decode cX10_command 27 = .ok (.istore_n 3, 1) := by decide +kernel
theorem dX10_command_28 : decode cX10_command 28 = .ok (.iconst 0, 1) := by decide +kernel
theorem dX10_command_29 : decode cX10_command 29 = .ok (.istore 4, 2) := by decide +kernel
theorem dX10_command_31 : decode cX10_command 31 = .ok (.iload_n 1, 1) := by decide +kernel
theorem dX10_command_32 : decode cX10_command 32 = .ok (.iconst 1, 1) := by decide +kernel
theorem dX10_command_33 : decode cX10_command 33 = .ok (.if_icmp .eq 9, 3) := by decide +kernel
theorem dX10_command_36 : decode cX10_command 36 = .ok (.iload_n 1, 1) := by decide +kernel
theorem dX10_command_37 : decode cX10_command 37 = .ok (.bipush 6, 2) := by decide +kernel
theorem dX10_command_39 : decode cX10_command 39 = .ok (.if_icmp .ne 9, 3) := by decide +kernel
theorem dX10_command_42 : decode cX10_command 42 = .ok (.aload_n 0, 1) := by decide +kernel
theorem dX10_command_43 : decode cX10_command 43 = .ok (.iconst 1, 1) := by decide +kernel
theorem dX10_command_44 : decode cX10_command 44 = .ok (.invokevirtual 311, 3) := by decide +kernel
theorem dX10_command_47 : decode cX10_command 47 = .ok (.istore_n 3, 1) := by decide +kernel
theorem dX10_command_48 : decode cX10_command 48 = .ok (.iload_n 1, 1) := by decide +kernel
theorem dX10_command_49 : decode cX10_command 49 = .ok (.iconst 2, 1) := by decide +kernel
theorem dX10_command_50 : decode cX10_command 50 = .ok (.if_icmp .eq 8, 3) := by decide +kernel
theorem dX10_command_53 : decode cX10_command 53 = .ok (.iload_n 1, 1) := by decide +kernel
theorem dX10_command_54 : decode cX10_command 54 = .ok (.iconst 4, 1) := by decide +kernel
theorem dX10_command_55 : decode cX10_command 55 = .ok (.if_icmp .ne 9, 3) := by decide +kernel
theorem dX10_command_58 : decode cX10_command 58 = .ok (.aload_n 0, 1) := by decide +kernel
theorem dX10_command_59 : decode cX10_command 59 = .ok (.iconst 2, 1) := by decide +kernel
theorem dX10_command_60 : decode cX10_command 60 = .ok (.invokevirtual 311, 3) := by decide +kernel
theorem dX10_command_63 : decode cX10_command 63 = .ok (.istore_n 3, 1) := by decide +kernel
theorem dX10_command_64 : decode cX10_command 64 = .ok (.iload_n 1, 1) := by decide +kernel
theorem dX10_command_65 : decode cX10_command 65 = .ok (.iconst 1, 1) := by decide +kernel
theorem dX10_command_66 : decode cX10_command 66 = .ok (.if_icmp .eq 8, 3) := by decide +kernel
theorem dX10_command_69 : decode cX10_command 69 = .ok (.iload_n 1, 1) := by decide +kernel
theorem dX10_command_70 : decode cX10_command 70 = .ok (.iconst 2, 1) := by decide +kernel
theorem dX10_command_71 : decode cX10_command 71 = .ok (.if_icmp .ne 10, 3) := by decide +kernel
theorem dX10_command_74 : decode cX10_command 74 = .ok (.aload_n 0, 1) := by decide +kernel
theorem dX10_command_75 : decode cX10_command 75 = .ok (.iconst 1, 1) := by decide +kernel
theorem dX10_command_76 : decode cX10_command 76 = .ok (.invokevirtual 311, 3) := by decide +kernel
theorem dX10_command_79 : decode cX10_command 79 = .ok (.istore 4, 2) := by decide +kernel
theorem dX10_command_81 : decode cX10_command 81 = .ok (.iload_n 1, 1) := by decide +kernel
theorem dX10_command_82 : decode cX10_command 82 = .ok (.iconst 3, 1) := by decide +kernel
theorem dX10_command_83 : decode cX10_command 83 = .ok (.if_icmp .ne 15, 3) := by decide +kernel
theorem dX10_command_86 : decode cX10_command 86 = .ok (.aload_n 0, 1) := by decide +kernel
theorem dX10_command_87 : decode cX10_command 87 = .ok (.invokevirtual 314, 3) := by decide +kernel
theorem dX10_command_90 : decode cX10_command 90 = .ok (.istore_n 3, 1) := by decide +kernel
theorem dX10_command_91 : decode cX10_command 91 = .ok (.aload_n 0, 1) := by decide +kernel
theorem dX10_command_92 : decode cX10_command 92 = .ok (.iconst 1, 1) := by decide +kernel
theorem dX10_command_93 : decode cX10_command 93 = .ok (.invokevirtual 298, 3) := by decide +kernel
theorem dX10_command_96 : decode cX10_command 96 = .ok (.istore 4, 2) := by decide +kernel
theorem dX10_command_98 : decode cX10_command 98 = .ok (.iload_n 1, 1) := by decide +kernel
theorem dX10_command_99 : decode cX10_command 99 = .ok (.iconst 4, 1) := by decide +kernel
theorem dX10_command_100 : decode cX10_command 100 = .ok (.if_icmp .ne 19, 3) := by decide +kernel
theorem dX10_command_103 : decode cX10_command 103 = .ok (.aload_n 0, 1) := by decide +kernel
theorem dX10_command_104 : decode cX10_command 104 = .ok (.invokevirtual 317, 3) := by decide +kernel
theorem dX10_command_107 : decode cX10_command 107 = .ok (.istore 5, 2) := by decide +kernel
theorem dX10_command_109 : decode cX10_command 109 = .ok (.iload 5, 2) := by decide +kernel
theorem dX10_command_111 : decode cX10_command 111 = .ok (.aload_n 0, 1) := by decide +kernel
theorem dX10_command_112 : decode cX10_command 112 = .ok (.iconst 1, 1) := by decide +kernel
theorem dX10_command_113 : decode cX10_command 113 = .ok (.invokevirtual 298, 3) := by decide +kernel
theorem dX10_command_116 : decode cX10_command 116 = .ok (.imul, 1) := by decide +kernel
theorem dX10_command_117 : decode cX10_command 117 = .ok (.istore 4, 2) := by decide +kernel
theorem dX10_command_119 : decode cX10_command 119 = .ok (.aload_n 0, 1) := by decide +kernel
theorem dX10_command_120 : decode cX10_command 120 = .ok (.getfield 91, 3) := by decide +kernel
theorem dX10_command_123 : decode cX10_command 123 = .ok (.ifCond .eq 4, 3) := by decide +kernel
theorem dX10_command_126 : decode cX10_command 126 = .ok (.return_, 1) := by decide +kernel
theorem dX10_command_127 : decode cX10_command 127 = .ok (.aload_n 0, 1) := by decide +kernel
theorem dX10_command_128 : decode cX10_command 128 = .ok (.getfield 73, 3) := by decide +kernel
theorem dX10_command_131 : decode cX10_command 131 = .ok (.aload_n 0, 1) := by decide +kernel
theorem dX10_command_132 : decode cX10_command 132 = .ok (.getfield 88, 3) := by decide +kernel
theorem dX10_command_135 : decode cX10_command 135 = .ok (.iload_n 1, 1) := by decide +kernel
theorem dX10_command_136 : decode cX10_command 136 = .ok (.iastore, 1) := by decide +kernel
theorem dX10_command_137 : decode cX10_command 137 = .ok (.aload_n 0, 1) := by decide +kernel
theorem dX10_command_138 : decode cX10_command 138 = .ok (.getfield 76, 3) := by decide +kernel
theorem dX10_command_141 : decode cX10_command 141 = .ok (.iconst 3, 1) := by decide +kernel
theorem dX10_command_142 : decode cX10_command 142 = .ok (.aload_n 0, 1) := by decide +kernel
theorem dX10_command_143 : decode cX10_command 143 = .ok (.getfield 88, 3) := by decide +kernel
theorem dX10_command_146 : decode cX10_command 146 = .ok (.imul, 1) := by decide +kernel
theorem dX10_command_147 : decode cX10_command 147 = .ok (.iload_n 2, 1) := by decide +kernel
theorem dX10_command_148 : decode cX10_command 148 = .ok (.iastore, 1) := by decide +kernel
theorem dX10_command_149 : decode cX10_command 149 = .ok (.aload_n 0, 1) := by decide +kernel
theorem dX10_command_150 : decode cX10_command 150 = .ok (.getfield 76, 3) := by decide +kernel
theorem dX10_command_153 : decode cX10_command 153 = .ok (.iconst 3, 1) := by decide +kernel
theorem dX10_command_154 : decode cX10_command 154 = .ok (.aload_n 0, 1) := by decide +kernel
theorem dX10_command_155 : decode cX10_command 155 = .ok (.getfield 88, 3) := by decide +kernel
theorem dX10_command_158 : decode cX10_command 158 = .ok (.imul, 1) := by decide +kernel
theorem dX10_command_159 : decode cX10_command 159 = .ok (.iconst 1, 1) := by decide +kernel
theorem dX10_command_160 : decode cX10_command 160 = .ok (.iadd, 1) := by decide +kernel
theorem dX10_command_161 : decode cX10_command 161 = .ok (.iload_n 3, 1) := by decide +kernel
theorem dX10_command_162 : decode cX10_command 162 = .ok (.iastore, 1) := by decide +kernel
theorem dX10_command_163 : decode cX10_command 163 = .ok (.aload_n 0, 1) := by decide +kernel
theorem dX10_command_164 : decode cX10_command 164 = .ok (.getfield 76, 3) := by decide +kernel
theorem dX10_command_167 : decode cX10_command 167 = .ok (.iconst 3, 1) := by decide +kernel
theorem dX10_command_168 : decode cX10_command 168 = .ok (.aload_n 0, 1) := by decide +kernel
theorem dX10_command_169 : decode cX10_command 169 = .ok (.getfield 88, 3) := by decide +kernel
theorem dX10_command_172 : decode cX10_command 172 = .ok (.imul, 1) := by decide +kernel
theorem dX10_command_173 : decode cX10_command 173 = .ok (.iconst 2, 1) := by decide +kernel
theorem dX10_command_174 : decode cX10_command 174 = .ok (.iadd, 1) := by decide +kernel
theorem dX10_command_175 : decode cX10_command 175 = .ok (.iload 4, 2) := by decide +kernel
theorem dX10_command_177 : decode cX10_command 177 = .ok (.iastore, 1) := by decide +kernel
theorem dX10_command_178 : decode cX10_command 178 = .ok (.aload_n 0, 1) := by decide +kernel
theorem dX10_command_179 : decode cX10_command 179 = .ok (.dup, 1) := by decide +kernel
theorem dX10_command_180 : decode cX10_command 180 = .ok (.getfield 88, 3) := by decide +kernel
theorem dX10_command_183 : decode cX10_command 183 = .ok (.iconst 1, 1) := by decide +kernel
theorem dX10_command_184 : decode cX10_command 184 = .ok (.iadd, 1) := by decide +kernel
theorem dX10_command_185 : decode cX10_command 185 = .ok (.putfield 88, 3) := by decide +kernel
theorem dX10_command_188 : decode cX10_command 188 = .ok (.return_, 1) := by decide +kernel
theorem dX10_reads_0 : decode cX10_reads 0 = .ok (.aload_n 0, 1) := by decide +kernel
theorem dX10_reads_1 : decode cX10_reads 1 = .ok (.aload_n 0, 1) := by decide +kernel
theorem dX10_reads_2 : decode cX10_reads 2 = .ok (.getfield 79, 3) := by decide +kernel
theorem dX10_reads_5 : decode cX10_reads 5 = .ok (.putfield 82, 3) := by decide +kernel
theorem dX10_reads_8 : decode cX10_reads 8 = .ok (.aload_n 0, 1) := by decide +kernel
theorem dX10_reads_9 : decode cX10_reads 9 = .ok (.iconst 0, 1) := by decide +kernel
theorem dX10_reads_10 : decode cX10_reads 10 = .ok (.putfield 79, 3) := by decide +kernel
theorem dX10_reads_13 : decode cX10_reads 13 = .ok (.aload_n 0, 1) := by decide +kernel
theorem dX10_reads_14 : decode cX10_reads 14 = .ok (.iconst 0, 1) := by decide +kernel
theorem dX10_reads_15 : decode cX10_reads 15 = .ok (.putfield 85, 3) := by decide +kernel
theorem dX10_reads_18 : decode cX10_reads 18 = .ok (.aload_n 0, 1) := by decide +kernel
theorem dX10_reads_19 : decode cX10_reads 19 = .ok (.iconst 0, 1) := by decide +kernel
theorem dX10_reads_20 : decode cX10_reads 20 = .ok (.putfield 88, 3) := by decide +kernel
theorem dX10_reads_23 : decode cX10_reads 23 = .ok (.aload_n 0, 1) := by decide +kernel
theorem dX10_reads_24 : decode cX10_reads 24 = .ok (.iconst 0, 1) := by decide +kernel
theorem dX10_reads_25 : decode cX10_reads 25 = .ok (.putfield 91, 3) := by decide +kernel
theorem dX10_reads_28 : decode cX10_reads 28 = .ok (.aload_n 0, 1) := by decide +kernel
theorem dX10_reads_29 : decode cX10_reads 29 = .ok (.invokevirtual 320, 3) := by decide +kernel
theorem dX10_reads_32 : decode cX10_reads 32 = .ok (.aload_n 0, 1) := by decide +kernel
theorem dX10_reads_33 : decode cX10_reads 33 = .ok (.invokevirtual 288, 3) := by decide +kernel
theorem dX10_reads_36 : decode cX10_reads 36 = .ok (.bipush 59, 2) := by decide +kernel
theorem dX10_reads_38 : decode cX10_reads 38 = .ok (.if_icmp .ne 20, 3) := by decide +kernel
theorem dX10_reads_41 : decode cX10_reads 41 = .ok (.aload_n 0, 1) := by decide +kernel
theorem dX10_reads_42 : decode cX10_reads 42 = .ok (.dup, 1) := by decide +kernel
theorem dX10_reads_43 : decode cX10_reads 43 = .ok (.getfield 85, 3) := by decide +kernel
theorem dX10_reads_46 : decode cX10_reads 46 = .ok (.iconst 1, 1) := by decide +kernel
theorem dX10_reads_47 : decode cX10_reads 47 = .ok (.iadd, 1) := by decide +kernel
theorem dX10_reads_48 : decode cX10_reads 48 = .ok (.putfield 85, 3) := by decide +kernel
theorem dX10_reads_51 : decode cX10_reads 51 = .ok (.aload_n 0, 1) := by decide +kernel
theorem dX10_reads_52 : decode cX10_reads 52 = .ok (.invokevirtual 320, 3) := by decide +kernel
theorem dX10_reads_55 : decode cX10_reads 55 = .ok (.goto (-23), 3) := by decide +kernel
theorem dX10_reads_58 : decode cX10_reads 58 = .ok (.aload_n 0, 1) := by decide +kernel
theorem dX10_reads_59 : decode cX10_reads 59 = .ok (.dup, 1) := by decide +kernel
theorem dX10_reads_60 : decode cX10_reads 60 = .ok (.getfield 91, 3) := by decide +kernel
theorem dX10_reads_63 : decode cX10_reads 63 = .ok (.aload_n 0, 1) := by decide +kernel
theorem dX10_reads_64 : decode cX10_reads 64 = .ok (.getfield 85, 3) := by decide +kernel
theorem dX10_reads_67 : decode cX10_reads 67 = .ok (.aload_n 0, 1) := by decide +kernel
theorem dX10_reads_68 : decode cX10_reads 68 = .ok (.getfield 82, 3) := by decide +kernel
theorem dX10_reads_71 : decode cX10_reads 71 = .ok (.if_icmp .ge 7, 3) := by decide +kernel
theorem dX10_reads_74 : decode cX10_reads 74 = .ok (.iconst 1, 1) := by decide +kernel
theorem dX10_reads_75 : decode cX10_reads 75 = .ok (.goto 4, 3) := by decide +kernel
theorem dX10_reads_78 : decode cX10_reads 78 = .ok (.iconst 0, 1) := by decide +kernel
theorem dX10_reads_79 : decode cX10_reads 79 = .ok (.ior, 1) := by decide +kernel
theorem dX10_reads_80 : decode cX10_reads 80 = .ok (.putfield 91, 3) := by decide +kernel
theorem dX10_reads_83 : decode cX10_reads 83 = .ok (.return_, 1) := by decide +kernel
theorem dX10_isNot_0 : decode cX10_isNot 0 = .ok (.aload_n 0, 1) := by decide +kernel
theorem dX10_isNot_1 : decode cX10_isNot 1 = .ok (.iload_n 1, 1) := by decide +kernel
theorem dX10_isNot_2 : decode cX10_isNot 2 = .ok (.ifCond .ne 7, 3) := by decide +kernel
theorem dX10_isNot_5 : decode cX10_isNot 5 = .ok (.iconst 1, 1) := by decide +kernel
theorem dX10_isNot_6 : decode cX10_isNot 6 = .ok (.goto 4, 3) := by decide +kernel
theorem dX10_isNot_9 : decode cX10_isNot 9 = .ok (.iconst 0, 1) := by decide +kernel
theorem dX10_isNot_10 : decode cX10_isNot 10 = .ok (.putfield 94, 3) := by decide +kernel
theorem dX10_isNot_13 : decode cX10_isNot 13 = .ok (.aload_n 0, 1) := by decide +kernel
theorem dX10_isNot_14 : decode cX10_isNot 14 = .ok (.getfield 94, 3) := by decide +kernel
theorem dX10_isNot_17 : decode cX10_isNot 17 = .ok (.ireturn, 1) := by decide +kernel
theorem dX10_cannot_0 : decode cX10_cannot 0 = .ok (.iconst 0, 1) := by decide +kernel
theorem dX10_cannot_1 : decode cX10_cannot 1 = .ok (.istore_n 2, 1) := by decide +kernel
theorem dX10_cannot_2 : decode cX10_cannot 2 = .ok (.aload_n 0, 1) := by decide +kernel
theorem dX10_cannot_3 : decode cX10_cannot 3 = .ok (.getfield 76, 3) := by decide +kernel
theorem dX10_cannot_6 : decode cX10_cannot 6 = .ok (.iconst 3, 1) := by decide +kernel
theorem dX10_cannot_7 : decode cX10_cannot 7 = .ok (.iload_n 1, 1) := by decide +kernel
theorem dX10_cannot_8 : decode cX10_cannot 8 = .ok (.imul, 1) := by decide +kernel
theorem dX10_cannot_9 : decode cX10_cannot 9 = .ok (.iaload, 1) := by decide +kernel
theorem dX10_cannot_10 : decode cX10_cannot 10 = .ok (.istore_n 3, 1) := by decide +kernel
theorem dX10_cannot_11 : decode cX10_cannot 11 = .ok (.aload_n 0, 1) := by decide +kernel
theorem dX10_cannot_12 : decode cX10_cannot 12 = .ok (.getfield 76, 3) := by decide +kernel
theorem dX10_cannot_15 : decode cX10_cannot 15 = .ok (.iconst 3, 1) := by decide +kernel
theorem dX10_cannot_16 : decode cX10_cannot 16 = .ok (.iload_n 1, 1) := by decide +kernel
theorem dX10_cannot_17 : decode cX10_cannot 17 = .ok (.imul, 1) := by decide +kernel
theorem dX10_cannot_18 : decode cX10_cannot 18 = .ok (.iconst 1, 1) := by decide +kernel
theorem dX10_cannot_19 : decode cX10_cannot 19 = .ok (.iadd, 1) := by decide +kernel
theorem dX10_cannot_20 : decode cX10_cannot 20 = .ok (.iaload, 1) := by decide +kernel
theorem dX10_cannot_21 : decode cX10_cannot 21 = .ok (.istore 4, 2) := by decide +kernel
theorem dX10_cannot_23 : decode cX10_cannot 23 = .ok (.aload_n 0, 1) := by decide +kernel
theorem dX10_cannot_24 : decode cX10_cannot 24 = .ok (.getfield 76, 3) := by decide +kernel
theorem dX10_cannot_27 : decode cX10_cannot 27 = .ok (.iconst 3, 1) := by decide +kernel
theorem dX10_cannot_28 : decode cX10_cannot 28 = .ok (.iload_n 1, 1) := by decide +kernel
theorem dX10_cannot_29 : decode cX10_cannot 29 = .ok (.imul, 1) := by decide +kernel
theorem dX10_cannot_30 : decode cX10_cannot 30 = .ok (.iconst 2, 1) := by decide +kernel
theorem dX10_cannot_31 : decode cX10_cannot 31 = .ok (.iadd, 1) := by decide +kernel
theorem dX10_cannot_32 : decode cX10_cannot 32 = .ok (.iaload, 1) := by decide +kernel
theorem dX10_cannot_33 : decode cX10_cannot 33 = .ok (.istore 5, 2) := by decide +kernel
theorem dX10_cannot_35 : decode cX10_cannot 35 = .ok (.aload_n 0, 1) := by decide +kernel
theorem dX10_cannot_36 : decode cX10_cannot 36 = .ok (.iconst 0, 1) := by decide +kernel
theorem dX10_cannot_37 : decode cX10_cannot 37 = .ok (.putfield 94, 3) := by decide +kernel
theorem dX10_cannot_40 : decode cX10_cannot 40 = .ok (.aload_n 0, 1) := by decide +kernel
theorem dX10_cannot_41 : decode cX10_cannot 41 = .ok (.getfield 73, 3) := by decide +kernel
theorem dX10_cannot_44 : decode cX10_cannot 44 = .ok (.iload_n 1, 1) := by decide +kernel
theorem dX10_cannot_45 : decode cX10_cannot 45 = .ok (.iaload, 1) := by decide +kernel
theorem dX10_cannot_46 : decode cX10_cannot 46 = .ok (.tableswitch 368 0 6 #[42, 73, 126, 178, 232, 288, 318], 42) := by decide +kernel
theorem dX10_cannot_88 : decode cX10_cannot 88 = .ok (.aload_n 0, 1) := by decide +kernel
theorem dX10_cannot_89 : decode cX10_cannot 89 = .ok (.iload_n 3, 1) := by decide +kernel
theorem dX10_cannot_90 : decode cX10_cannot 90 = .ok (.iconst 1, 1) := by decide +kernel
theorem dX10_cannot_91 : decode cX10_cannot 91 = .ok (.bipush 9, 2) := by decide +kernel
theorem dX10_cannot_93 : decode cX10_cannot 93 = .ok (.invokestatic 115, 3) := by decide +kernel
theorem dX10_cannot_96 : decode cX10_cannot 96 = .ok (.invokevirtual 323, 3) := by decide +kernel
theorem dX10_cannot_99 : decode cX10_cannot 99 = .ok (.ifCond .ne 10, 3) := by decide +kernel
theorem dX10_cannot_102 : decode cX10_cannot 102 = .ok (.aload_n 0, 1) := by decide +kernel
theorem dX10_cannot_103 : decode cX10_cannot 103 = .ok (.invokevirtual 130, 3) := by decide +kernel
theorem dX10_cannot_106 : decode cX10_cannot 106 = .ok (.ifCond .eq 5, 3) := by decide +kernel
theorem dX10_cannot_109 : decode cX10_cannot 109 = .ok (.iconst 1, 1) := by decide +kernel
theorem dX10_cannot_110 : decode cX10_cannot 110 = .ok (.ireturn, 1) := by decide +kernel
theorem dX10_cannot_111 : decode cX10_cannot 111 = .ok (.aload_n 0, 1) := by decide +kernel
theorem dX10_cannot_112 : decode cX10_cannot 112 = .ok (.iload_n 3, 1) := by decide +kernel
theorem dX10_cannot_113 : decode cX10_cannot 113 = .ok (.invokevirtual 137, 3) := by decide +kernel
theorem dX10_cannot_116 : decode cX10_cannot 116 = .ok (.istore_n 2, 1) := by decide +kernel
theorem dX10_cannot_117 : decode cX10_cannot 117 = .ok (.iconst 0, 1) := by decide +kernel
theorem dX10_cannot_118 : decode cX10_cannot 118 = .ok (.ireturn, 1) := by decide +kernel
theorem dX10_cannot_119 : decode cX10_cannot 119 = .ok (.aload_n 0, 1) := by decide +kernel
theorem dX10_cannot_120 : decode cX10_cannot 120 = .ok (.iload_n 3, 1) := by decide +kernel
theorem dX10_cannot_121 : decode cX10_cannot 121 = .ok (.iload 4, 2) := by decide +kernel
theorem dX10_cannot_123 : decode cX10_cannot 123 = .ok (.invokestatic 149, 3) := by decide +kernel
theorem dX10_cannot_126 : decode cX10_cannot 126 = .ok (.ifCond .eq 15, 3) := by decide +kernel
theorem dX10_cannot_129 : decode cX10_cannot 129 = .ok (.iload 5, 2) := by decide +kernel
theorem dX10_cannot_131 : decode cX10_cannot 131 = .ok (.invokestatic 152, 3) := by decide +kernel
theorem dX10_cannot_134 : decode cX10_cannot 134 = .ok (.ifCond .eq 7, 3) := by decide +kernel
theorem dX10_cannot_137 : decode cX10_cannot 137 = .ok (.iconst 1, 1) := by decide +kernel
theorem dX10_cannot_138 : decode cX10_cannot 138 = .ok (.goto 4, 3) := by decide +kernel
theorem dX10_cannot_141 : decode cX10_cannot 141 = .ok (.iconst 0, 1) := by decide +kernel
theorem dX10_cannot_142 : decode cX10_cannot 142 = .ok (.invokevirtual 323, 3) := by decide +kernel
theorem dX10_cannot_145 : decode cX10_cannot 145 = .ok (.ifCond .ne 13, 3) := by decide +kernel
theorem dX10_cannot_148 : decode cX10_cannot 148 = .ok (.aload_n 0, 1) := by decide +kernel
theorem dX10_cannot_149 : decode cX10_cannot 149 = .ok (.iload_n 3, 1) := by decide +kernel
theorem dX10_cannot_150 : decode cX10_cannot 150 = .ok (.iload 4, 2) := by decide +kernel
theorem dX10_cannot_152 : decode cX10_cannot 152 = .ok (.invokevirtual 156, 3) := by decide +kernel
theorem dX10_cannot_155 : decode cX10_cannot 155 = .ok (.ifCond .eq 5, 3) := by decide +kernel
theorem dX10_cannot_158 : decode cX10_cannot 158 = .ok (.iconst 1, 1) := by decide +kernel
theorem dX10_cannot_159 : decode cX10_cannot 159 = .ok (.ireturn, 1) := by decide +kernel
theorem dX10_cannot_160 : decode cX10_cannot 160 = .ok (.aload_n 0, 1) := by decide +kernel
theorem dX10_cannot_161 : decode cX10_cannot 161 = .ok (.iload_n 3, 1) := by decide +kernel
theorem dX10_cannot_162 : decode cX10_cannot 162 = .ok (.iload 4, 2) := by decide +kernel
theorem dX10_cannot_164 : decode cX10_cannot 164 = .ok (.iload 5, 2) := by decide +kernel
theorem dX10_cannot_166 : decode cX10_cannot 166 = .ok (.invokevirtual 159, 3) := by decide +kernel
theorem dX10_cannot_169 : decode cX10_cannot 169 = .ok (.istore_n 2, 1) := by decide +kernel
theorem dX10_cannot_170 : decode cX10_cannot 170 = .ok (.iconst 0, 1) := by decide +kernel
theorem dX10_cannot_171 : decode cX10_cannot 171 = .ok (.ireturn, 1) := by decide +kernel
theorem dX10_cannot_172 : decode cX10_cannot 172 = .ok (.aload_n 0, 1) := by decide +kernel
theorem dX10_cannot_173 : decode cX10_cannot 173 = .ok (.aload_n 0, 1) := by decide +kernel
theorem dX10_cannot_174 : decode cX10_cannot 174 = .ok (.iload_n 3, 1) := by decide +kernel
theorem dX10_cannot_175 : decode cX10_cannot 175 = .ok (.invokevirtual 166, 3) := by decide +kernel
theorem dX10_cannot_178 : decode cX10_cannot 178 = .ok (.ifCond .eq 17, 3) := by decide +kernel
theorem dX10_cannot_181 : decode cX10_cannot 181 = .ok (.iload 4, 2) := by decide +kernel
theorem dX10_cannot_183 : decode cX10_cannot 183 = .ok (.iload 5, 2) := by decide +kernel
theorem dX10_cannot_185 : decode cX10_cannot 185 = .ok (.invokestatic 149, 3) := by decide +kernel
theorem dX10_cannot_188 : decode cX10_cannot 188 = .ok (.ifCond .eq 7, 3) := by decide +kernel
theorem dX10_cannot_191 : decode cX10_cannot 191 = .ok (.iconst 1, 1) := by decide +kernel
theorem dX10_cannot_192 : decode cX10_cannot 192 = .ok (.goto 4, 3) := by decide +kernel
theorem dX10_cannot_195 : decode cX10_cannot 195 = .ok (.iconst 0, 1) := by decide +kernel
theorem dX10_cannot_196 : decode cX10_cannot 196 = .ok (.invokevirtual 323, 3) := by decide +kernel
theorem dX10_cannot_199 : decode cX10_cannot 199 = .ok (.ifCond .ne 11, 3) := by decide +kernel
theorem dX10_cannot_202 : decode cX10_cannot 202 = .ok (.aload_n 0, 1) := by decide +kernel
theorem dX10_cannot_203 : decode cX10_cannot 203 = .ok (.iload_n 3, 1) := by decide +kernel
theorem dX10_cannot_204 : decode cX10_cannot 204 = .ok (.invokevirtual 169, 3) := by decide +kernel
theorem dX10_cannot_207 : decode cX10_cannot 207 = .ok (.ifCond .eq 5, 3) := by decide +kernel
theorem dX10_cannot_210 : decode cX10_cannot 210 = .ok (.iconst 1, 1) := by decide +kernel
theorem dX10_cannot_211 : decode cX10_cannot 211 = .ok (.ireturn, 1) := by decide +kernel
theorem dX10_cannot_212 : decode cX10_cannot 212 = .ok (.aload_n 0, 1) := by decide +kernel
theorem dX10_cannot_213 : decode cX10_cannot 213 = .ok (.iload_n 3, 1) := by decide +kernel
theorem dX10_cannot_214 : decode cX10_cannot 214 = .ok (.iload 4, 2) := by decide +kernel
theorem dX10_cannot_216 : decode cX10_cannot 216 = .ok (.iload 5, 2) := by decide +kernel
theorem dX10_cannot_218 : decode cX10_cannot 218 = .ok (.invokevirtual 172, 3) := by decide +kernel
theorem dX10_cannot_221 : decode cX10_cannot 221 = .ok (.istore_n 2, 1) := by decide +kernel
theorem dX10_cannot_222 : decode cX10_cannot 222 = .ok (.iconst 0, 1) := by decide +kernel
theorem dX10_cannot_223 : decode cX10_cannot 223 = .ok (.ireturn, 1) := by decide +kernel
theorem dX10_cannot_224 : decode cX10_cannot 224 = .ok (.aload_n 0, 1) := by decide +kernel
theorem dX10_cannot_225 : decode cX10_cannot 225 = .ok (.aload_n 0, 1) := by decide +kernel
theorem dX10_cannot_226 : decode cX10_cannot 226 = .ok (.iload_n 3, 1) := by decide +kernel
theorem dX10_cannot_227 : decode cX10_cannot 227 = .ok (.invokevirtual 166, 3) := by decide +kernel
theorem dX10_cannot_230 : decode cX10_cannot 230 = .ok (.ifCond .eq 15, 3) := by decide +kernel
theorem dX10_cannot_233 : decode cX10_cannot 233 = .ok (.iload 5, 2) := by decide +kernel
theorem dX10_cannot_235 : decode cX10_cannot 235 = .ok (.invokestatic 207, 3) := by decide +kernel
theorem dX10_cannot_238 : decode cX10_cannot 238 = .ok (.ifCond .eq 7, 3) := by decide +kernel
theorem dX10_cannot_241 : decode cX10_cannot 241 = .ok (.iconst 1, 1) := by decide +kernel
theorem dX10_cannot_242 : decode cX10_cannot 242 = .ok (.goto 4, 3) := by decide +kernel
theorem dX10_cannot_245 : decode cX10_cannot 245 = .ok (.iconst 0, 1) := by decide +kernel
theorem dX10_cannot_246 : decode cX10_cannot 246 = .ok (.invokevirtual 323, 3) := by decide +kernel
theorem dX10_cannot_249 : decode cX10_cannot 249 = .ok (.ifCond .ne 15, 3) := by decide +kernel
theorem dX10_cannot_252 : decode cX10_cannot 252 = .ok (.aload_n 0, 1) := by decide +kernel
theorem dX10_cannot_253 : decode cX10_cannot 253 = .ok (.iload_n 3, 1) := by decide +kernel
theorem dX10_cannot_254 : decode cX10_cannot 254 = .ok (.iload 4, 2) := by decide +kernel
theorem dX10_cannot_256 : decode cX10_cannot 256 = .ok (.iload 5, 2) := by decide +kernel
theorem dX10_cannot_258 : decode cX10_cannot 258 = .ok (.invokevirtual 210, 3) := by decide +kernel
theorem dX10_cannot_261 : decode cX10_cannot 261 = .ok (.ifCond .eq 5, 3) := by decide +kernel
theorem dX10_cannot_264 : decode cX10_cannot 264 = .ok (.iconst 1, 1) := by decide +kernel
theorem dX10_cannot_265 : decode cX10_cannot 265 = .ok (.ireturn, 1) := by decide +kernel
theorem dX10_cannot_266 : decode cX10_cannot 266 = .ok (.aload_n 0, 1) := by decide +kernel
theorem dX10_cannot_267 : decode cX10_cannot 267 = .ok (.iload_n 3, 1) := by decide +kernel
theorem dX10_cannot_268 : decode cX10_cannot 268 = .ok (.iload 4, 2) := by decide +kernel
theorem dX10_cannot_270 : decode cX10_cannot 270 = .ok (.iload 5, 2) := by decide +kernel
theorem dX10_cannot_272 : decode cX10_cannot 272 = .ok (.invokevirtual 213, 3) := by decide +kernel
theorem dX10_cannot_275 : decode cX10_cannot 275 = .ok (.istore_n 2, 1) := by decide +kernel
theorem dX10_cannot_276 : decode cX10_cannot 276 = .ok (.iconst 0, 1) := by decide +kernel
theorem dX10_cannot_277 : decode cX10_cannot 277 = .ok (.ireturn, 1) := by decide +kernel
theorem dX10_cannot_278 : decode cX10_cannot 278 = .ok (.aload_n 0, 1) := by decide +kernel
theorem dX10_cannot_279 : decode cX10_cannot 279 = .ok (.aload_n 0, 1) := by decide +kernel
theorem dX10_cannot_280 : decode cX10_cannot 280 = .ok (.iload_n 3, 1) := by decide +kernel
theorem dX10_cannot_281 : decode cX10_cannot 281 = .ok (.iload 4, 2) := by decide +kernel
theorem dX10_cannot_283 : decode cX10_cannot 283 = .ok (.invokevirtual 222, 3) := by decide +kernel
theorem dX10_cannot_286 : decode cX10_cannot 286 = .ok (.ifCond .eq 15, 3) := by decide +kernel
theorem dX10_cannot_289 : decode cX10_cannot 289 = .ok (.iload 5, 2) := by decide +kernel
theorem dX10_cannot_291 : decode cX10_cannot 291 = .ok (.invokestatic 225, 3) := by decide +kernel
theorem dX10_cannot_294 : decode cX10_cannot 294 = .ok (.ifCond .eq 7, 3) := by decide +kernel
theorem dX10_cannot_297 : decode cX10_cannot 297 = .ok (.iconst 1, 1) := by decide +kernel
theorem dX10_cannot_298 : decode cX10_cannot 298 = .ok (.goto 4, 3) := by decide +kernel
theorem dX10_cannot_301 : decode cX10_cannot 301 = .ok (.iconst 0, 1) := by decide +kernel
theorem dX10_cannot_302 : decode cX10_cannot 302 = .ok (.invokevirtual 323, 3) := by decide +kernel
theorem dX10_cannot_305 : decode cX10_cannot 305 = .ok (.ifCond .ne 15, 3) := by decide +kernel
theorem dX10_cannot_308 : decode cX10_cannot 308 = .ok (.aload_n 0, 1) := by decide +kernel
theorem dX10_cannot_309 : decode cX10_cannot 309 = .ok (.iload_n 3, 1) := by decide +kernel
theorem dX10_cannot_310 : decode cX10_cannot 310 = .ok (.iload 4, 2) := by decide +kernel
theorem dX10_cannot_312 : decode cX10_cannot 312 = .ok (.iload 5, 2) := by decide +kernel
theorem dX10_cannot_314 : decode cX10_cannot 314 = .ok (.invokevirtual 228, 3) := by decide +kernel
theorem dX10_cannot_317 : decode cX10_cannot 317 = .ok (.ifCond .eq 5, 3) := by decide +kernel
theorem dX10_cannot_320 : decode cX10_cannot 320 = .ok (.iconst 1, 1) := by decide +kernel
theorem dX10_cannot_321 : decode cX10_cannot 321 = .ok (.ireturn, 1) := by decide +kernel
theorem dX10_cannot_322 : decode cX10_cannot 322 = .ok (.aload_n 0, 1) := by decide +kernel
theorem dX10_cannot_323 : decode cX10_cannot 323 = .ok (.iload_n 3, 1) := by decide +kernel
theorem dX10_cannot_324 : decode cX10_cannot 324 = .ok (.iload 4, 2) := by decide +kernel
theorem dX10_cannot_326 : decode cX10_cannot 326 = .ok (.iload 5, 2) := by decide +kernel
theorem dX10_cannot_328 : decode cX10_cannot 328 = .ok (.invokevirtual 231, 3) := by decide +kernel
theorem dX10_cannot_331 : decode cX10_cannot 331 = .ok (.istore_n 2, 1) := by decide +kernel
theorem dX10_cannot_332 : decode cX10_cannot 332 = .ok (.iconst 0, 1) := by decide +kernel
theorem dX10_cannot_333 : decode cX10_cannot 333 = .ok (.ireturn, 1) := by decide +kernel
theorem dX10_cannot_334 : decode cX10_cannot 334 = .ok (.aload_n 0, 1) := by decide +kernel
theorem dX10_cannot_335 : decode cX10_cannot 335 = .ok (.aload_n 0, 1) := by decide +kernel
theorem dX10_cannot_336 : decode cX10_cannot 336 = .ok (.iload_n 3, 1) := by decide +kernel
theorem dX10_cannot_337 : decode cX10_cannot 337 = .ok (.invokevirtual 166, 3) := by decide +kernel
theorem dX10_cannot_340 : decode cX10_cannot 340 = .ok (.invokevirtual 323, 3) := by decide +kernel
theorem dX10_cannot_343 : decode cX10_cannot 343 = .ok (.ifCond .ne 11, 3) := by decide +kernel
theorem dX10_cannot_346 : decode cX10_cannot 346 = .ok (.aload_n 0, 1) := by decide +kernel
theorem dX10_cannot_347 : decode cX10_cannot 347 = .ok (.iload_n 3, 1) := by decide +kernel
theorem dX10_cannot_348 : decode cX10_cannot 348 = .ok (.invokevirtual 234, 3) := by decide +kernel
theorem dX10_cannot_351 : decode cX10_cannot 351 = .ok (.ifCond .eq 5, 3) := by decide +kernel
theorem dX10_cannot_354 : decode cX10_cannot 354 = .ok (.iconst 1, 1) := by decide +kernel
theorem dX10_cannot_355 : decode cX10_cannot 355 = .ok (.ireturn, 1) := by decide +kernel
theorem dX10_cannot_356 : decode cX10_cannot 356 = .ok (.aload_n 0, 1) := by decide +kernel
theorem dX10_cannot_357 : decode cX10_cannot 357 = .ok (.iload_n 3, 1) := by decide +kernel
theorem dX10_cannot_358 : decode cX10_cannot 358 = .ok (.invokevirtual 237, 3) := by decide +kernel
theorem dX10_cannot_361 : decode cX10_cannot 361 = .ok (.istore_n 2, 1) := by decide +kernel
theorem dX10_cannot_362 : decode cX10_cannot 362 = .ok (.iconst 0, 1) := by decide +kernel
theorem dX10_cannot_363 : decode cX10_cannot 363 = .ok (.ireturn, 1) := by decide +kernel
theorem dX10_cannot_364 : decode cX10_cannot 364 = .ok (.aload_n 0, 1) := by decide +kernel
theorem dX10_cannot_365 : decode cX10_cannot 365 = .ok (.aload_n 0, 1) := by decide +kernel
theorem dX10_cannot_366 : decode cX10_cannot 366 = .ok (.iload_n 3, 1) := by decide +kernel
theorem dX10_cannot_367 : decode cX10_cannot 367 = .ok (.invokevirtual 166, 3) := by decide +kernel
theorem dX10_cannot_370 : decode cX10_cannot 370 = .ok (.ifCond .eq 15, 3) := by decide +kernel
theorem dX10_cannot_373 : decode cX10_cannot 373 = .ok (.iload 4, 2) := by decide +kernel
theorem dX10_cannot_375 : decode cX10_cannot 375 = .ok (.invokestatic 240, 3) := by decide +kernel
theorem dX10_cannot_378 : decode cX10_cannot 378 = .ok (.ifCond .eq 7, 3) := by decide +kernel
theorem dX10_cannot_381 : decode cX10_cannot 381 = .ok (.iconst 1, 1) := by decide +kernel
theorem dX10_cannot_382 : decode cX10_cannot 382 = .ok (.goto 4, 3) := by decide +kernel
theorem dX10_cannot_385 : decode cX10_cannot 385 = .ok (.iconst 0, 1) := by decide +kernel
theorem dX10_cannot_386 : decode cX10_cannot 386 = .ok (.invokevirtual 323, 3) := by decide +kernel
theorem dX10_cannot_389 : decode cX10_cannot 389 = .ok (.ifCond .ne 13, 3) := by decide +kernel
theorem dX10_cannot_392 : decode cX10_cannot 392 = .ok (.aload_n 0, 1) := by decide +kernel
theorem dX10_cannot_393 : decode cX10_cannot 393 = .ok (.iload_n 3, 1) := by decide +kernel
theorem dX10_cannot_394 : decode cX10_cannot 394 = .ok (.iload 4, 2) := by decide +kernel
theorem dX10_cannot_396 : decode cX10_cannot 396 = .ok (.invokevirtual 243, 3) := by decide +kernel
theorem dX10_cannot_399 : decode cX10_cannot 399 = .ok (.ifCond .eq 5, 3) := by decide +kernel
theorem dX10_cannot_402 : decode cX10_cannot 402 = .ok (.iconst 1, 1) := by decide +kernel
theorem dX10_cannot_403 : decode cX10_cannot 403 = .ok (.ireturn, 1) := by decide +kernel
theorem dX10_cannot_404 : decode cX10_cannot 404 = .ok (.aload_n 0, 1) := by decide +kernel
theorem dX10_cannot_405 : decode cX10_cannot 405 = .ok (.iload_n 3, 1) := by decide +kernel
theorem dX10_cannot_406 : decode cX10_cannot 406 = .ok (.iload 4, 2) := by decide +kernel
theorem dX10_cannot_408 : decode cX10_cannot 408 = .ok (.invokevirtual 246, 3) := by decide +kernel
theorem dX10_cannot_411 : decode cX10_cannot 411 = .ok (.istore_n 2, 1) := by decide +kernel
theorem dX10_cannot_412 : decode cX10_cannot 412 = .ok (.iconst 0, 1) := by decide +kernel
theorem dX10_cannot_413 : decode cX10_cannot 413 = .ok (.ireturn, 1) := by decide +kernel
theorem dX10_cannot_414 : decode cX10_cannot 414 = .ok (.aload_n 0, 1) := by decide +kernel
theorem dX10_cannot_415 : decode cX10_cannot 415 = .ok (.iload_n 3, 1) := by decide +kernel
theorem dX10_cannot_416 : decode cX10_cannot 416 = .ok (.invokestatic 252, 3) := by decide +kernel
theorem dX10_cannot_419 : decode cX10_cannot 419 = .ok (.invokevirtual 323, 3) := by decide +kernel
theorem dX10_cannot_422 : decode cX10_cannot 422 = .ok (.ifCond .eq 5, 3) := by decide +kernel
theorem dX10_cannot_425 : decode cX10_cannot 425 = .ok (.iconst 1, 1) := by decide +kernel
theorem dX10_cannot_426 : decode cX10_cannot 426 = .ok (.ireturn, 1) := by decide +kernel
theorem dX10_cannot_427 : decode cX10_cannot 427 = .ok (.aload_n 0, 1) := by decide +kernel
theorem dX10_cannot_428 : decode cX10_cannot 428 = .ok (.iload_n 3, 1) := by decide +kernel
theorem dX10_cannot_429 : decode cX10_cannot 429 = .ok (.invokevirtual 255, 3) := by decide +kernel
theorem dX10_cannot_432 : decode cX10_cannot 432 = .ok (.istore_n 2, 1) := by decide +kernel
theorem dX10_cannot_433 : decode cX10_cannot 433 = .ok (.iconst 0, 1) := by decide +kernel
theorem dX10_cannot_434 : decode cX10_cannot 434 = .ok (.ireturn, 1) := by decide +kernel
theorem dX10_read_0 : decode cX10_read 0 = .ok (.aload_n 0, 1) := by decide +kernel
theorem dX10_read_1 : decode cX10_read 1 = .ok (.invokevirtual 127, 3) := by decide +kernel
theorem dX10_read_4 : decode cX10_read 4 = .ok (.aload_n 0, 1) := by decide +kernel
theorem dX10_read_5 : decode cX10_read 5 = .ok (.invokevirtual 327, 3) := by decide +kernel
theorem dX10_read_8 : decode cX10_read 8 = .ok (.aload_n 0, 1) := by decide +kernel
theorem dX10_read_9 : decode cX10_read 9 = .ok (.getfield 91, 3) := by decide +kernel
theorem dX10_read_12 : decode cX10_read 12 = .ok (.ifCond .eq 17, 3) := by decide +kernel
theorem dX10_read_15 : decode cX10_read 15 = .ok (.aload_n 0, 1) := by decide +kernel
theorem dX10_read_16 : decode cX10_read 16 = .ok (.aload_n 0, 1) := by decide +kernel
theorem dX10_read_17 : decode cX10_read 17 = .ok (.getfield 85, 3) := by decide +kernel
theorem dX10_read_20 : decode cX10_read 20 = .ok (.putfield 47, 3) := by decide +kernel
theorem dX10_read_23 : decode cX10_read 23 = .ok (.aload_n 0, 1) := by decide +kernel
theorem dX10_read_24 : decode cX10_read 24 = .ok (.iconst 1, 1) := by decide +kernel
theorem dX10_read_25 : decode cX10_read 25 = .ok (.invokevirtual 103, 3) := by decide +kernel
theorem dX10_read_28 : decode cX10_read 28 = .ok (.ireturn, 1) := by decide +kernel
theorem dX10_read_29 : decode cX10_read 29 = .ok (.iconst 0, 1) := by decide +kernel
theorem dX10_read_30 : decode cX10_read 30 = .ok (.istore_n 1, 1) := by decide +kernel
theorem dX10_read_31 : decode cX10_read 31 = .ok (.iload_n 1, 1) := by decide +kernel
theorem dX10_read_32 : decode cX10_read 32 = .ok (.aload_n 0, 1) := by decide +kernel
theorem dX10_read_33 : decode cX10_read 33 = .ok (.getfield 88, 3) := by decide +kernel
theorem dX10_read_36 : decode cX10_read 36 = .ok (.if_icmp .ge 77, 3) := by decide +kernel
theorem dX10_read_39 : decode cX10_read 39 = .ok (.aload_n 0, 1) := by decide +kernel
theorem dX10_read_40 : decode cX10_read 40 = .ok (.iload_n 1, 1) := by decide +kernel
theorem dX10_read_41 : decode cX10_read 41 = .ok (.invokevirtual 330, 3) := by decide +kernel
theorem dX10_read_44 : decode cX10_read 44 = .ok (.ifCond .ne 6, 3) := by decide +kernel
theorem dX10_read_47 : decode cX10_read 47 = .ok (.goto 60, 3) := by decide +kernel
theorem dX10_read_50 : decode cX10_read 50 = .ok (.aload_n 0, 1) := by decide +kernel
theorem dX10_read_51 : decode cX10_read 51 = .ok (.getfield 13, 3) := by decide +kernel
theorem dX10_read_54 : decode cX10_read 54 = .ok (.iconst 0, 1) := by decide +kernel
theorem dX10_read_55 : decode cX10_read 55 = .ok (.aload_n 0, 1) := by decide +kernel
theorem dX10_read_56 : decode cX10_read 56 = .ok (.getfield 7, 3) := by decide +kernel
theorem dX10_read_59 : decode cX10_read 59 = .ok (.iconst 0, 1) := by decide +kernel
theorem dX10_read_60 : decode cX10_read 60 = .ok (.invokestatic 107, 3) := by decide +kernel
theorem dX10_read_63 : decode cX10_read 63 = .ok (.aload_n 0, 1) := by decide +kernel
theorem dX10_read_64 : decode cX10_read 64 = .ok (.aload_n 0, 1) := by decide +kernel
theorem dX10_read_65 : decode cX10_read 65 = .ok (.getfield 94, 3) := by decide +kernel
theorem dX10_read_68 : decode cX10_read 68 = .ok (.ifCond .eq 7, 3) := by decide +kernel
theorem dX10_read_71 : decode cX10_read 71 = .ok (.iconst 0, 1) := by decide +kernel
theorem dX10_read_72 : decode cX10_read 72 = .ok (.goto 7, 3) := by decide +kernel
theorem dX10_read_75 : decode cX10_read 75 = .ok (.aload_n 0, 1) := by decide +kernel
theorem dX10_read_76 : decode cX10_read 76 = .ok (.getfield 29, 3) := by decide +kernel
theorem dX10_read_79 : decode cX10_read 79 = .ok (.putfield 41, 3) := by decide +kernel
theorem dX10_read_82 : decode cX10_read 82 = .ok (.aload_n 0, 1) := by decide +kernel
theorem dX10_read_83 : decode cX10_read 83 = .ok (.aload_n 0, 1) := by decide +kernel
theorem dX10_read_84 : decode cX10_read 84 = .ok (.getfield 32, 3) := by decide +kernel
theorem dX10_read_87 : decode cX10_read 87 = .ok (.putfield 44, 3) := by decide +kernel
theorem dX10_read_90 : decode cX10_read 90 = .ok (.aload_n 0, 1) := by decide +kernel
theorem dX10_read_91 : decode cX10_read 91 = .ok (.bipush 11, 2) := by decide +kernel
theorem dX10_read_93 : decode cX10_read 93 = .ok (.putfield 35, 3) := by decide +kernel
theorem dX10_read_96 : decode cX10_read 96 = .ok (.aload_n 0, 1) := by decide +kernel
theorem dX10_read_97 : decode cX10_read 97 = .ok (.iload_n 1, 1) := by decide +kernel
theorem dX10_read_98 : decode cX10_read 98 = .ok (.putfield 38, 3) := by decide +kernel
theorem dX10_read_101 : decode cX10_read 101 = .ok (.aload_n 0, 1) := by decide +kernel
theorem dX10_read_102 : decode cX10_read 102 = .ok (.iconst 2, 1) := by decide +kernel
theorem dX10_read_103 : decode cX10_read 103 = .ok (.invokevirtual 103, 3) := by decide +kernel
theorem dX10_read_106 : decode cX10_read 106 = .ok (.ireturn, 1) := by decide +kernel
theorem dX10_read_107 : decode cX10_read 107 = .ok (.iinc 1 1, 3) := by decide +kernel
theorem dX10_read_110 : decode cX10_read 110 = .ok (.goto (-79), 3) := by decide +kernel
theorem dX10_read_113 : decode cX10_read 113 = .ok (.aload_n 0, 1) := by decide +kernel
theorem dX10_read_114 : decode cX10_read 114 = .ok (.aload_n 0, 1) := by decide +kernel
theorem dX10_read_115 : decode cX10_read 115 = .ok (.getfield 88, 3) := by decide +kernel
theorem dX10_read_118 : decode cX10_read 118 = .ok (.invokevirtual 140, 3) := by decide +kernel
theorem dX10_read_121 : decode cX10_read 121 = .ok (.ireturn, 1) := by decide +kernel
theorem dX10_errorPosition_0 : decode cX10_errorPosition 0 = .ok (.aload_n 0, 1) := by decide +kernel
theorem dX10_errorPosition_1 : decode cX10_errorPosition 1 = .ok (.aload_n 0, 1) := by decide +kernel
theorem dX10_errorPosition_2 : decode cX10_errorPosition 2 = .ok (.getfield 47, 3) := by decide +kernel
theorem dX10_errorPosition_5 : decode cX10_errorPosition 5 = .ok (.ifCond .ge 7, 3) := by decide +kernel
theorem dX10_errorPosition_8 : decode cX10_errorPosition 8 = .ok (.iconst 1, 1) := by decide +kernel
theorem dX10_errorPosition_9 : decode cX10_errorPosition 9 = .ok (.goto 4, 3) := by decide +kernel
theorem dX10_errorPosition_12 : decode cX10_errorPosition 12 = .ok (.iconst 0, 1) := by decide +kernel
theorem dX10_errorPosition_13 : decode cX10_errorPosition 13 = .ok (.putfield 22, 3) := by decide +kernel
theorem dX10_errorPosition_16 : decode cX10_errorPosition 16 = .ok (.aload_n 0, 1) := by decide +kernel
theorem dX10_errorPosition_17 : decode cX10_errorPosition 17 = .ok (.getfield 22, 3) := by decide +kernel
theorem dX10_errorPosition_20 : decode cX10_errorPosition 20 = .ok (.ifCond .le 7, 3) := by decide +kernel
theorem dX10_errorPosition_23 : decode cX10_errorPosition 23 = .ok (.iconst 0, 1) := by decide +kernel
theorem dX10_errorPosition_24 : decode cX10_errorPosition 24 = .ok (.goto 7, 3) := by decide +kernel
theorem dX10_errorPosition_27 : decode cX10_errorPosition 27 = .ok (.aload_n 0, 1) := by decide +kernel
theorem dX10_errorPosition_28 : decode cX10_errorPosition 28 = .ok (.getfield 47, 3) := by decide +kernel
theorem dX10_errorPosition_31 : decode cX10_errorPosition 31 = .ok (.ireturn, 1) := by decide +kernel
theorem dX10_refusal_0 : decode cX10_refusal 0 = .ok (.aload_n 0, 1) := by decide +kernel
theorem dX10_refusal_1 : decode cX10_refusal 1 = .ok (.iconst 0, 1) := by decide +kernel
theorem dX10_refusal_2 : decode cX10_refusal 2 = .ok (.putfield 22, 3) := by decide +kernel
theorem dX10_refusal_5 : decode cX10_refusal 5 = .ok (.iload_n 1, 1) := by decide +kernel
theorem dX10_refusal_6 : decode cX10_refusal 6 = .ok (.ifCond .eq 10, 3) := by decide +kernel
theorem dX10_refusal_9 : decode cX10_refusal 9 = .ok (.aload_n 0, 1) := by decide +kernel
theorem dX10_refusal_10 : decode cX10_refusal 10 = .ok (.getfield 41, 3) := by decide +kernel
theorem dX10_refusal_13 : decode cX10_refusal 13 = .ok (.goto 7, 3) := by decide +kernel
theorem dX10_refusal_16 : decode cX10_refusal 16 = .ok (.aload_n 0, 1) := by decide +kernel
theorem dX10_refusal_17 : decode cX10_refusal 17 = .ok (.getfield 35, 3) := by decide +kernel
theorem dX10_refusal_20 : decode cX10_refusal 20 = .ok (.istore_n 3, 1) := by decide +kernel
theorem dX10_refusal_21 : decode cX10_refusal 21 = .ok (.iload_n 3, 1) := by decide +kernel
theorem dX10_refusal_22 : decode cX10_refusal 22 = .ok (.ifCond .ne 9, 3) := by decide +kernel
theorem dX10_refusal_25 : decode cX10_refusal 25 = .ok (.aload_n 0, 1) := by decide +kernel
theorem dX10_refusal_26 : decode cX10_refusal 26 = .ok (.iconst 1, 1) := by decide +kernel
theorem dX10_refusal_27 : decode cX10_refusal 27 = .ok (.invokevirtual 103, 3) := by decide +kernel
theorem dX10_refusal_30 : decode cX10_refusal 30 = .ok (.ireturn, 1) := by decide +kernel
theorem dX10_refusal_31 : decode cX10_refusal 31 = .ok (.iload_n 2, 1) := by decide +kernel
theorem dX10_refusal_32 : decode cX10_refusal 32 = .ok (.ifCond .ne 7, 3) := by decide +kernel
theorem dX10_refusal_35 : decode cX10_refusal 35 = .ok (.iload_n 3, 1) := by decide +kernel
theorem dX10_refusal_36 : decode cX10_refusal 36 = .ok (.goto 18, 3) := by decide +kernel
theorem dX10_refusal_39 : decode cX10_refusal 39 = .ok (.iload_n 1, 1) := by decide +kernel
theorem dX10_refusal_40 : decode cX10_refusal 40 = .ok (.ifCond .eq 10, 3) := by decide +kernel
theorem dX10_refusal_43 : decode cX10_refusal 43 = .ok (.aload_n 0, 1) := by decide +kernel
theorem dX10_refusal_44 : decode cX10_refusal 44 = .ok (.getfield 44, 3) := by decide +kernel
theorem dX10_refusal_47 : decode cX10_refusal 47 = .ok (.goto 7, 3) := by decide +kernel
theorem dX10_refusal_50 : decode cX10_refusal 50 = .ok (.aload_n 0, 1) := by decide +kernel
theorem dX10_refusal_51 : decode cX10_refusal 51 = .ok (.getfield 38, 3) := by decide +kernel
theorem dX10_refusal_54 : decode cX10_refusal 54 = .ok (.ireturn, 1) := by decide +kernel
theorem dX10_writes_0 : decode cX10_writes 0 = .ok (.aload_n 0, 1) := by decide +kernel
theorem dX10_writes_1 : decode cX10_writes 1 = .ok (.getfield 97, 3) := by decide +kernel
theorem dX10_writes_4 : decode cX10_writes 4 = .ok (.aload_n 0, 1) := by decide +kernel
theorem dX10_writes_5 : decode cX10_writes 5 = .ok (.getfield 100, 3) := by decide +kernel
theorem dX10_writes_8 : decode cX10_writes 8 = .ok (.iload_n 1, 1) := by decide +kernel
theorem dX10_writes_9 : decode cX10_writes 9 = .ok (.iastore, 1) := by decide +kernel
theorem dX10_writes_10 : decode cX10_writes 10 = .ok (.aload_n 0, 1) := by decide +kernel
theorem dX10_writes_11 : decode cX10_writes 11 = .ok (.dup, 1) := by decide +kernel
theorem dX10_writes_12 : decode cX10_writes 12 = .ok (.getfield 100, 3) := by decide +kernel
theorem dX10_writes_15 : decode cX10_writes 15 = .ok (.iconst 1, 1) := by decide +kernel
theorem dX10_writes_16 : decode cX10_writes 16 = .ok (.iadd, 1) := by decide +kernel
theorem dX10_writes_17 : decode cX10_writes 17 = .ok (.putfield 100, 3) := by decide +kernel
theorem dX10_writes_20 : decode cX10_writes 20 = .ok (.return_, 1) := by decide +kernel
theorem dX10_writesNumber_0 : decode cX10_writesNumber 0 = .ok (.iload_n 1, 1) := by decide +kernel
theorem dX10_writesNumber_1 : decode cX10_writesNumber 1 = .ok (.bipush 9, 2) := by decide +kernel
theorem dX10_writesNumber_3 : decode cX10_writesNumber 3 = .ok (.if_icmp .le 14, 3) := by decide +kernel
theorem dX10_writesNumber_6 : decode cX10_writesNumber 6 = .ok (.aload_n 0, 1) := by decide +kernel
theorem dX10_writesNumber_7 : decode cX10_writesNumber 7 = .ok (.bipush 48, 2) := by decide +kernel
theorem dX10_writesNumber_9 : decode cX10_writesNumber 9 = .ok (.iload_n 1, 1) := by decide +kernel
theorem dX10_writesNumber_10 : decode cX10_writesNumber 10 = .ok (.bipush 10, 2) := by decide +kernel
theorem dX10_writesNumber_12 : decode cX10_writesNumber 12 = .ok (.idiv, 1) := by decide +kernel
theorem dX10_writesNumber_13 : decode cX10_writesNumber 13 = .ok (.iadd, 1) := by decide +kernel
theorem dX10_writesNumber_14 : decode cX10_writesNumber 14 = .ok (.invokevirtual 333, 3) := by decide +kernel
theorem dX10_writesNumber_17 : decode cX10_writesNumber 17 = .ok (.aload_n 0, 1) := by decide +kernel
theorem dX10_writesNumber_18 : decode cX10_writesNumber 18 = .ok (.bipush 48, 2) := by decide +kernel
theorem dX10_writesNumber_20 : decode cX10_writesNumber 20 = .ok (.iload_n 1, 1) := by decide +kernel
theorem dX10_writesNumber_21 : decode cX10_writesNumber 21 = .ok (.bipush 10, 2) := by decide +kernel
theorem dX10_writesNumber_23 : decode cX10_writesNumber 23 = .ok (.irem, 1) := by decide +kernel
theorem dX10_writesNumber_24 : decode cX10_writesNumber 24 = .ok (.iadd, 1) := by decide +kernel
theorem dX10_writesNumber_25 : decode cX10_writesNumber 25 = .ok (.invokevirtual 333, 3) := by decide +kernel
theorem dX10_writesNumber_28 : decode cX10_writesNumber 28 = .ok (.return_, 1) := by decide +kernel
theorem dX10_show_0 : decode cX10_show 0 = .ok (.aload_n 0, 1) := by decide +kernel
theorem dX10_show_1 : decode cX10_show 1 = .ok (.iload_n 1, 1) := by decide +kernel
theorem dX10_show_2 : decode cX10_show 2 = .ok (.iconst 0, 1) := by decide +kernel
theorem dX10_show_3 : decode cX10_show 3 = .ok (.bipush 7, 2) := by decide +kernel
theorem dX10_show_5 : decode cX10_show 5 = .ok (.invokestatic 115, 3) := by decide +kernel
theorem dX10_show_8 : decode cX10_show 8 = .ok (.ifCond .eq 7, 3) := by decide +kernel
theorem dX10_show_11 : decode cX10_show 11 = .ok (.iconst 0, 1) := by decide +kernel
theorem dX10_show_12 : decode cX10_show 12 = .ok (.goto 4, 3) := by decide +kernel
theorem dX10_show_15 : decode cX10_show 15 = .ok (.iconst 1, 1) := by decide +kernel
theorem dX10_show_16 : decode cX10_show 16 = .ok (.putfield 22, 3) := by decide +kernel
theorem dX10_show_19 : decode cX10_show 19 = .ok (.aload_n 0, 1) := by decide +kernel
theorem dX10_show_20 : decode cX10_show 20 = .ok (.getfield 22, 3) := by decide +kernel
theorem dX10_show_23 : decode cX10_show 23 = .ok (.ifCond .le 5, 3) := by decide +kernel
theorem dX10_show_26 : decode cX10_show 26 = .ok (.iconst 0, 1) := by decide +kernel
theorem dX10_show_27 : decode cX10_show 27 = .ok (.ireturn, 1) := by decide +kernel
theorem dX10_show_28 : decode cX10_show 28 = .ok (.aload_n 0, 1) := by decide +kernel
theorem dX10_show_29 : decode cX10_show 29 = .ok (.iconst 0, 1) := by decide +kernel
theorem dX10_show_30 : decode cX10_show 30 = .ok (.putfield 100, 3) := by decide +kernel
theorem dX10_show_33 : decode cX10_show 33 = .ok (.iconst 0, 1) := by decide +kernel
theorem dX10_show_34 : decode cX10_show 34 = .ok (.istore_n 2, 1) := by decide +kernel
theorem dX10_show_35 : decode cX10_show 35 = .ok (.iload_n 2, 1) := by decide +kernel
