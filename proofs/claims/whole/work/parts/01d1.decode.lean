theorem dX9_sleeper_5 : decode cX9_sleeper 5 = .ok (.getfield 20, 3) := by decide +kernel
theorem dX9_sleeper_8 : decode cX9_sleeper 8 = .ok (.invokevirtual 79, 3) := by decide +kernel
theorem dX9_sleeper_11 : decode cX9_sleeper 11 = .ok (.aload_n 0, 1) := by decide +kernel
theorem dX9_sleeper_12 : decode cX9_sleeper 12 = .ok (.getfield 12, 3) := by decide +kernel
theorem dX9_sleeper_15 : decode cX9_sleeper 15 = .ok (.iload_n 1, 1) := by decide +kernel
theorem dX9_sleeper_16 : decode cX9_sleeper 16 = .ok (.invokevirtual 83, 3) := by decide +kernel
theorem dX9_sleeper_19 : decode cX9_sleeper 19 = .ok (.istore_n 2, 1) := by decide +kernel
theorem dX9_sleeper_20 : decode cX9_sleeper 20 = .ok (.iload_n 2, 1) := by decide +kernel
theorem dX9_sleeper_21 : decode cX9_sleeper 21 = .ok (.bipush (-2), 2) := by decide +kernel
theorem dX9_sleeper_23 : decode cX9_sleeper 23 = .ok (.if_icmp .ne 13, 3) := by decide +kernel
theorem dX9_sleeper_26 : decode cX9_sleeper 26 = .ok (.new 87, 3) := by decide +kernel
theorem dX9_sleeper_29 : decode cX9_sleeper 29 = .ok (.dup, 1) := by decide +kernel
theorem dX9_sleeper_30 : decode cX9_sleeper 30 = .ok (.ldc 89, 2) := by decide +kernel
theorem dX9_sleeper_32 : decode cX9_sleeper 32 = .ok (.invokespecial 91, 3) := by decide +kernel
theorem dX9_sleeper_35 : decode cX9_sleeper 35 = .ok (.athrow, 1) := by decide +kernel
theorem dX9_sleeper_36 : decode cX9_sleeper 36 = .ok (.iload_n 2, 1) := by decide +kernel
theorem dX9_sleeper_37 : decode cX9_sleeper 37 = .ok (.ifCond .ge 13, 3) := by decide +kernel
theorem dX9_sleeper_40 : decode cX9_sleeper 40 = .ok (.new 94, 3) := by decide +kernel
theorem dX9_sleeper_43 : decode cX9_sleeper 43 = .ok (.dup, 1) := by decide +kernel
theorem dX9_sleeper_44 : decode cX9_sleeper 44 = .ok (.ldc 96, 2) := by decide +kernel
theorem dX9_sleeper_46 : decode cX9_sleeper 46 = .ok (.invokespecial 98, 3) := by decide +kernel
theorem dX9_sleeper_49 : decode cX9_sleeper 49 = .ok (.athrow, 1) := by decide +kernel
theorem dX9_sleeper_50 : decode cX9_sleeper 50 = .ok (.aload_n 0, 1) := by decide +kernel
theorem dX9_sleeper_51 : decode cX9_sleeper 51 = .ok (.getfield 43, 3) := by decide +kernel
theorem dX9_sleeper_54 : decode cX9_sleeper 54 = .ok (.invokevirtual 99, 3) := by decide +kernel
theorem dX9_sleeper_57 : decode cX9_sleeper 57 = .ok (.iload_n 2, 1) := by decide +kernel
theorem dX9_sleeper_58 : decode cX9_sleeper 58 = .ok (.ireturn, 1) := by decide +kernel
theorem dX9_peg_0 : decode cX9_peg 0 = .ok (.aload_n 0, 1) := by decide +kernel
theorem dX9_peg_1 : decode cX9_peg 1 = .ok (.getfield 43, 3) := by decide +kernel
theorem dX9_peg_4 : decode cX9_peg 4 = .ok (.aload_n 0, 1) := by decide +kernel
theorem dX9_peg_5 : decode cX9_peg 5 = .ok (.getfield 20, 3) := by decide +kernel
theorem dX9_peg_8 : decode cX9_peg 8 = .ok (.invokevirtual 79, 3) := by decide +kernel
theorem dX9_peg_11 : decode cX9_peg 11 = .ok (.aload_n 0, 1) := by decide +kernel
theorem dX9_peg_12 : decode cX9_peg 12 = .ok (.getfield 12, 3) := by decide +kernel
theorem dX9_peg_15 : decode cX9_peg 15 = .ok (.iload_n 1, 1) := by decide +kernel
theorem dX9_peg_16 : decode cX9_peg 16 = .ok (.iload_n 2, 1) := by decide +kernel
theorem dX9_peg_17 : decode cX9_peg 17 = .ok (.iload_n 3, 1) := by decide +kernel
theorem dX9_peg_18 : decode cX9_peg 18 = .ok (.invokevirtual 102, 3) := by decide +kernel
theorem dX9_peg_21 : decode cX9_peg 21 = .ok (.istore 4, 2) := by decide +kernel
theorem dX9_peg_23 : decode cX9_peg 23 = .ok (.iload 4, 2) := by decide +kernel
theorem dX9_peg_25 : decode cX9_peg 25 = .ok (.iconst (-1), 1) := by decide +kernel
theorem dX9_peg_26 : decode cX9_peg 26 = .ok (.if_icmp .ne 13, 3) := by decide +kernel
theorem dX9_peg_29 : decode cX9_peg 29 = .ok (.new 106, 3) := by decide +kernel
theorem dX9_peg_32 : decode cX9_peg 32 = .ok (.dup, 1) := by decide +kernel
theorem dX9_peg_33 : decode cX9_peg 33 = .ok (.ldc 108, 2) := by decide +kernel
theorem dX9_peg_35 : decode cX9_peg 35 = .ok (.invokespecial 110, 3) := by decide +kernel
theorem dX9_peg_38 : decode cX9_peg 38 = .ok (.athrow, 1) := by decide +kernel
theorem dX9_peg_39 : decode cX9_peg 39 = .ok (.iload 4, 2) := by decide +kernel
theorem dX9_peg_41 : decode cX9_peg 41 = .ok (.bipush (-2), 2) := by decide +kernel
theorem dX9_peg_43 : decode cX9_peg 43 = .ok (.if_icmp .ne 13, 3) := by decide +kernel
theorem dX9_peg_46 : decode cX9_peg 46 = .ok (.new 87, 3) := by decide +kernel
theorem dX9_peg_49 : decode cX9_peg 49 = .ok (.dup, 1) := by decide +kernel
theorem dX9_peg_50 : decode cX9_peg 50 = .ok (.ldc 111, 2) := by decide +kernel
theorem dX9_peg_52 : decode cX9_peg 52 = .ok (.invokespecial 91, 3) := by decide +kernel
theorem dX9_peg_55 : decode cX9_peg 55 = .ok (.athrow, 1) := by decide +kernel
theorem dX9_peg_56 : decode cX9_peg 56 = .ok (.iload 4, 2) := by decide +kernel
theorem dX9_peg_58 : decode cX9_peg 58 = .ok (.ifCond .ge 13, 3) := by decide +kernel
theorem dX9_peg_61 : decode cX9_peg 61 = .ok (.new 94, 3) := by decide +kernel
theorem dX9_peg_64 : decode cX9_peg 64 = .ok (.dup, 1) := by decide +kernel
theorem dX9_peg_65 : decode cX9_peg 65 = .ok (.ldc 96, 2) := by decide +kernel
theorem dX9_peg_67 : decode cX9_peg 67 = .ok (.invokespecial 98, 3) := by decide +kernel
theorem dX9_peg_70 : decode cX9_peg 70 = .ok (.athrow, 1) := by decide +kernel
theorem dX9_peg_71 : decode cX9_peg 71 = .ok (.aload_n 0, 1) := by decide +kernel
theorem dX9_peg_72 : decode cX9_peg 72 = .ok (.getfield 43, 3) := by decide +kernel
theorem dX9_peg_75 : decode cX9_peg 75 = .ok (.invokevirtual 99, 3) := by decide +kernel
theorem dX9_peg_78 : decode cX9_peg 78 = .ok (.iload 4, 2) := by decide +kernel
theorem dX9_peg_80 : decode cX9_peg 80 = .ok (.ireturn, 1) := by decide +kernel
theorem dX9_plot_0 : decode cX9_plot 0 = .ok (.aload_n 0, 1) := by decide +kernel
theorem dX9_plot_1 : decode cX9_plot 1 = .ok (.getfield 43, 3) := by decide +kernel
theorem dX9_plot_4 : decode cX9_plot 4 = .ok (.aload_n 0, 1) := by decide +kernel
theorem dX9_plot_5 : decode cX9_plot 5 = .ok (.getfield 20, 3) := by decide +kernel
theorem dX9_plot_8 : decode cX9_plot 8 = .ok (.invokevirtual 79, 3) := by decide +kernel
theorem dX9_plot_11 : decode cX9_plot 11 = .ok (.aload_n 0, 1) := by decide +kernel
theorem dX9_plot_12 : decode cX9_plot 12 = .ok (.getfield 12, 3) := by decide +kernel
theorem dX9_plot_15 : decode cX9_plot 15 = .ok (.iload_n 1, 1) := by decide +kernel
theorem dX9_plot_16 : decode cX9_plot 16 = .ok (.iload_n 2, 1) := by decide +kernel
theorem dX9_plot_17 : decode cX9_plot 17 = .ok (.iload_n 3, 1) := by decide +kernel
theorem dX9_plot_18 : decode cX9_plot 18 = .ok (.invokevirtual 113, 3) := by decide +kernel
theorem dX9_plot_21 : decode cX9_plot 21 = .ok (.istore 4, 2) := by decide +kernel
theorem dX9_plot_23 : decode cX9_plot 23 = .ok (.iload 4, 2) := by decide +kernel
theorem dX9_plot_25 : decode cX9_plot 25 = .ok (.iconst (-1), 1) := by decide +kernel
theorem dX9_plot_26 : decode cX9_plot 26 = .ok (.if_icmp .ne 13, 3) := by decide +kernel
theorem dX9_plot_29 : decode cX9_plot 29 = .ok (.new 106, 3) := by decide +kernel
theorem dX9_plot_32 : decode cX9_plot 32 = .ok (.dup, 1) := by decide +kernel
theorem dX9_plot_33 : decode cX9_plot 33 = .ok (.ldc 116, 2) := by decide +kernel
theorem dX9_plot_35 : decode cX9_plot 35 = .ok (.invokespecial 110, 3) := by decide +kernel
theorem dX9_plot_38 : decode cX9_plot 38 = .ok (.athrow, 1) := by decide +kernel
theorem dX9_plot_39 : decode cX9_plot 39 = .ok (.iload 4, 2) := by decide +kernel
theorem dX9_plot_41 : decode cX9_plot 41 = .ok (.ifCond .ge 13, 3) := by decide +kernel
theorem dX9_plot_44 : decode cX9_plot 44 = .ok (.new 94, 3) := by decide +kernel
theorem dX9_plot_47 : decode cX9_plot 47 = .ok (.dup, 1) := by decide +kernel
theorem dX9_plot_48 : decode cX9_plot 48 = .ok (.ldc 96, 2) := by decide +kernel
theorem dX9_plot_50 : decode cX9_plot 50 = .ok (.invokespecial 98, 3) := by decide +kernel
theorem dX9_plot_53 : decode cX9_plot 53 = .ok (.athrow, 1) := by decide +kernel
theorem dX9_plot_54 : decode cX9_plot 54 = .ok (.aload_n 0, 1) := by decide +kernel
theorem dX9_plot_55 : decode cX9_plot 55 = .ok (.getfield 43, 3) := by decide +kernel
theorem dX9_plot_58 : decode cX9_plot 58 = .ok (.invokevirtual 99, 3) := by decide +kernel
theorem dX9_plot_61 : decode cX9_plot 61 = .ok (.iload 4, 2) := by decide +kernel
theorem dX9_plot_63 : decode cX9_plot 63 = .ok (.ireturn, 1) := by decide +kernel
theorem dX9_chain_0 : decode cX9_chain 0 = .ok (.aload_n 0, 1) := by decide +kernel
theorem dX9_chain_1 : decode cX9_chain 1 = .ok (.getfield 43, 3) := by decide +kernel
theorem dX9_chain_4 : decode cX9_chain 4 = .ok (.aload_n 0, 1) := by decide +kernel
theorem dX9_chain_5 : decode cX9_chain 5 = .ok (.getfield 20, 3) := by decide +kernel
theorem dX9_chain_8 : decode cX9_chain 8 = .ok (.invokevirtual 79, 3) := by decide +kernel
theorem dX9_chain_11 : decode cX9_chain 11 = .ok (.aload_n 0, 1) := by decide +kernel
theorem dX9_chain_12 : decode cX9_chain 12 = .ok (.getfield 12, 3) := by decide +kernel
theorem dX9_chain_15 : decode cX9_chain 15 = .ok (.iload_n 1, 1) := by decide +kernel
theorem dX9_chain_16 : decode cX9_chain 16 = .ok (.iload_n 2, 1) := by decide +kernel
theorem dX9_chain_17 : decode cX9_chain 17 = .ok (.iload_n 3, 1) := by decide +kernel
theorem dX9_chain_18 : decode cX9_chain 18 = .ok (.invokevirtual 118, 3) := by decide +kernel
theorem dX9_chain_21 : decode cX9_chain 21 = .ok (.istore 4, 2) := by decide +kernel
theorem dX9_chain_23 : decode cX9_chain 23 = .ok (.iload 4, 2) := by decide +kernel
theorem dX9_chain_25 : decode cX9_chain 25 = .ok (.iconst (-1), 1) := by decide +kernel
theorem dX9_chain_26 : decode cX9_chain 26 = .ok (.if_icmp .ne 13, 3) := by decide +kernel
theorem dX9_chain_29 : decode cX9_chain 29 = .ok (.new 106, 3) := by decide +kernel
theorem dX9_chain_32 : decode cX9_chain 32 = .ok (.dup, 1) := by decide +kernel
theorem dX9_chain_33 : decode cX9_chain 33 = .ok (.ldc 121, 2) := by decide +kernel
theorem dX9_chain_35 : decode cX9_chain 35 = .ok (.invokespecial 110, 3) := by decide +kernel
theorem dX9_chain_38 : decode cX9_chain 38 = .ok (.athrow, 1) := by decide +kernel
theorem dX9_chain_39 : decode cX9_chain 39 = .ok (.iload 4, 2) := by decide +kernel
theorem dX9_chain_41 : decode cX9_chain 41 = .ok (.bipush (-2), 2) := by decide +kernel
theorem dX9_chain_43 : decode cX9_chain 43 = .ok (.if_icmp .ne 13, 3) := by decide +kernel
theorem dX9_chain_46 : decode cX9_chain 46 = .ok (.new 87, 3) := by decide +kernel
theorem dX9_chain_49 : decode cX9_chain 49 = .ok (.dup, 1) := by decide +kernel
theorem dX9_chain_50 : decode cX9_chain 50 = .ok (.ldc 123, 2) := by decide +kernel
theorem dX9_chain_52 : decode cX9_chain 52 = .ok (.invokespecial 91, 3) := by decide +kernel
theorem dX9_chain_55 : decode cX9_chain 55 = .ok (.athrow, 1) := by decide +kernel
theorem dX9_chain_56 : decode cX9_chain 56 = .ok (.iload 4, 2) := by decide +kernel
theorem dX9_chain_58 : decode cX9_chain 58 = .ok (.ifCond .ge 13, 3) := by decide +kernel
theorem dX9_chain_61 : decode cX9_chain 61 = .ok (.new 94, 3) := by decide +kernel
theorem dX9_chain_64 : decode cX9_chain 64 = .ok (.dup, 1) := by decide +kernel
theorem dX9_chain_65 : decode cX9_chain 65 = .ok (.ldc 96, 2) := by decide +kernel
theorem dX9_chain_67 : decode cX9_chain 67 = .ok (.invokespecial 98, 3) := by decide +kernel
theorem dX9_chain_70 : decode cX9_chain 70 = .ok (.athrow, 1) := by decide +kernel
theorem dX9_chain_71 : decode cX9_chain 71 = .ok (.aload_n 0, 1) := by decide +kernel
theorem dX9_chain_72 : decode cX9_chain 72 = .ok (.getfield 43, 3) := by decide +kernel
theorem dX9_chain_75 : decode cX9_chain 75 = .ok (.invokevirtual 99, 3) := by decide +kernel
theorem dX9_chain_78 : decode cX9_chain 78 = .ok (.iload 4, 2) := by decide +kernel
theorem dX9_chain_80 : decode cX9_chain 80 = .ok (.ireturn, 1) := by decide +kernel
theorem dX9_bend_0 : decode cX9_bend 0 = .ok (.aload_n 0, 1) := by decide +kernel
theorem dX9_bend_1 : decode cX9_bend 1 = .ok (.getfield 43, 3) := by decide +kernel
theorem dX9_bend_4 : decode cX9_bend 4 = .ok (.aload_n 0, 1) := by decide +kernel
theorem dX9_bend_5 : decode cX9_bend 5 = .ok (.getfield 20, 3) := by decide +kernel
theorem dX9_bend_8 : decode cX9_bend 8 = .ok (.invokevirtual 79, 3) := by decide +kernel
theorem dX9_bend_11 : decode cX9_bend 11 = .ok (.aload_n 0, 1) := by decide +kernel
theorem dX9_bend_12 : decode cX9_bend 12 = .ok (.getfield 12, 3) := by decide +kernel
theorem dX9_bend_15 : decode cX9_bend 15 = .ok (.iload_n 1, 1) := by decide +kernel
theorem dX9_bend_16 : decode cX9_bend 16 = .ok (.iload_n 2, 1) := by decide +kernel
theorem dX9_bend_17 : decode cX9_bend 17 = .ok (.iload_n 3, 1) := by decide +kernel
theorem dX9_bend_18 : decode cX9_bend 18 = .ok (.invokevirtual 125, 3) := by decide +kernel
theorem dX9_bend_21 : decode cX9_bend 21 = .ok (.istore 4, 2) := by decide +kernel
theorem dX9_bend_23 : decode cX9_bend 23 = .ok (.iload 4, 2) := by decide +kernel
theorem dX9_bend_25 : decode cX9_bend 25 = .ok (.iconst (-1), 1) := by decide +kernel
theorem dX9_bend_26 : decode cX9_bend 26 = .ok (.if_icmp .ne 13, 3) := by decide +kernel
theorem dX9_bend_29 : decode cX9_bend 29 = .ok (.new 106, 3) := by decide +kernel
theorem dX9_bend_32 : decode cX9_bend 32 = .ok (.dup, 1) := by decide +kernel
theorem dX9_bend_33 : decode cX9_bend 33 = .ok (.ldc 128, 2) := by decide +kernel
theorem dX9_bend_35 : decode cX9_bend 35 = .ok (.invokespecial 110, 3) := by decide +kernel
theorem dX9_bend_38 : decode cX9_bend 38 = .ok (.athrow, 1) := by decide +kernel
theorem dX9_bend_39 : decode cX9_bend 39 = .ok (.iload 4, 2) := by decide +kernel
theorem dX9_bend_41 : decode cX9_bend 41 = .ok (.bipush (-2), 2) := by decide +kernel
theorem dX9_bend_43 : decode cX9_bend 43 = .ok (.if_icmp .ne 13, 3) := by decide +kernel
theorem dX9_bend_46 : decode cX9_bend 46 = .ok (.new 87, 3) := by decide +kernel
theorem dX9_bend_49 : decode cX9_bend 49 = .ok (.dup, 1) := by decide +kernel
theorem dX9_bend_50 : decode cX9_bend 50 = .ok (.ldc 130, 2) := by decide +kernel
theorem dX9_bend_52 : decode cX9_bend 52 = .ok (.invokespecial 91, 3) := by decide +kernel
theorem dX9_bend_55 : decode cX9_bend 55 = .ok (.athrow, 1) := by decide +kernel
theorem dX9_bend_56 : decode cX9_bend 56 = .ok (.iload 4, 2) := by decide +kernel
theorem dX9_bend_58 : decode cX9_bend 58 = .ok (.ifCond .ge 13, 3) := by decide +kernel
theorem dX9_bend_61 : decode cX9_bend 61 = .ok (.new 94, 3) := by decide +kernel
theorem dX9_bend_64 : decode cX9_bend 64 = .ok (.dup, 1) := by decide +kernel
theorem dX9_bend_65 : decode cX9_bend 65 = .ok (.ldc 96, 2) := by decide +kernel
theorem dX9_bend_67 : decode cX9_bend 67 = .ok (.invokespecial 98, 3) := by decide +kernel
theorem dX9_bend_70 : decode cX9_bend 70 = .ok (.athrow, 1) := by decide +kernel
theorem dX9_bend_71 : decode cX9_bend 71 = .ok (.aload_n 0, 1) := by decide +kernel
theorem dX9_bend_72 : decode cX9_bend 72 = .ok (.getfield 43, 3) := by decide +kernel
theorem dX9_bend_75 : decode cX9_bend 75 = .ok (.invokevirtual 99, 3) := by decide +kernel
theorem dX9_bend_78 : decode cX9_bend 78 = .ok (.iload 4, 2) := by decide +kernel
theorem dX9_bend_80 : decode cX9_bend 80 = .ok (.ireturn, 1) := by decide +kernel
theorem dX9_drop_0 : decode cX9_drop 0 = .ok (.aload_n 0, 1) := by decide +kernel
theorem dX9_drop_1 : decode cX9_drop 1 = .ok (.getfield 43, 3) := by decide +kernel
theorem dX9_drop_4 : decode cX9_drop 4 = .ok (.aload_n 0, 1) := by decide +kernel
theorem dX9_drop_5 : decode cX9_drop 5 = .ok (.getfield 20, 3) := by decide +kernel
theorem dX9_drop_8 : decode cX9_drop 8 = .ok (.invokevirtual 79, 3) := by decide +kernel
theorem dX9_drop_11 : decode cX9_drop 11 = .ok (.aload_n 0, 1) := by decide +kernel
theorem dX9_drop_12 : decode cX9_drop 12 = .ok (.getfield 12, 3) := by decide +kernel
theorem dX9_drop_15 : decode cX9_drop 15 = .ok (.iload_n 1, 1) := by decide +kernel
theorem dX9_drop_16 : decode cX9_drop 16 = .ok (.invokevirtual 132, 3) := by decide +kernel
theorem dX9_drop_19 : decode cX9_drop 19 = .ok (.istore_n 2, 1) := by decide +kernel
theorem dX9_drop_20 : decode cX9_drop 20 = .ok (.iload_n 2, 1) := by decide +kernel
theorem dX9_drop_21 : decode cX9_drop 21 = .ok (.iconst (-1), 1) := by decide +kernel
theorem dX9_drop_22 : decode cX9_drop 22 = .ok (.if_icmp .ne 13, 3) := by decide +kernel
theorem dX9_drop_25 : decode cX9_drop 25 = .ok (.new 106, 3) := by decide +kernel
theorem dX9_drop_28 : decode cX9_drop 28 = .ok (.dup, 1) := by decide +kernel
theorem dX9_drop_29 : decode cX9_drop 29 = .ok (.ldc 121, 2) := by decide +kernel
theorem dX9_drop_31 : decode cX9_drop 31 = .ok (.invokespecial 110, 3) := by decide +kernel
theorem dX9_drop_34 : decode cX9_drop 34 = .ok (.athrow, 1) := by decide +kernel
theorem dX9_drop_35 : decode cX9_drop 35 = .ok (.iload_n 2, 1) := by decide +kernel
theorem dX9_drop_36 : decode cX9_drop 36 = .ok (.ifCond .ge 13, 3) := by decide +kernel
theorem dX9_drop_39 : decode cX9_drop 39 = .ok (.new 94, 3) := by decide +kernel
theorem dX9_drop_42 : decode cX9_drop 42 = .ok (.dup, 1) := by decide +kernel
theorem dX9_drop_43 : decode cX9_drop 43 = .ok (.ldc 96, 2) := by decide +kernel
theorem dX9_drop_45 : decode cX9_drop 45 = .ok (.invokespecial 98, 3) := by decide +kernel
theorem dX9_drop_48 : decode cX9_drop 48 = .ok (.athrow, 1) := by decide +kernel
theorem dX9_drop_49 : decode cX9_drop 49 = .ok (.aload_n 0, 1) := by decide +kernel
theorem dX9_drop_50 : decode cX9_drop 50 = .ok (.getfield 43, 3) := by decide +kernel
theorem dX9_drop_53 : decode cX9_drop 53 = .ok (.invokevirtual 99, 3) := by decide +kernel
theorem dX9_drop_56 : decode cX9_drop 56 = .ok (.iload_n 2, 1) := by decide +kernel
theorem dX9_drop_57 : decode cX9_drop 57 = .ok (.ireturn, 1) := by decide +kernel
theorem dX9_deep_0 : decode cX9_deep 0 = .ok (.aload_n 0, 1) := by decide +kernel
theorem dX9_deep_1 : decode cX9_deep 1 = .ok (.getfield 43, 3) := by decide +kernel
theorem dX9_deep_4 : decode cX9_deep 4 = .ok (.aload_n 0, 1) := by decide +kernel
theorem dX9_deep_5 : decode cX9_deep 5 = .ok (.getfield 20, 3) := by decide +kernel
theorem dX9_deep_8 : decode cX9_deep 8 = .ok (.invokevirtual 79, 3) := by decide +kernel
theorem dX9_deep_11 : decode cX9_deep 11 = .ok (.aload_n 0, 1) := by decide +kernel
theorem dX9_deep_12 : decode cX9_deep 12 = .ok (.getfield 12, 3) := by decide +kernel
theorem dX9_deep_15 : decode cX9_deep 15 = .ok (.iload_n 1, 1) := by decide +kernel
theorem dX9_deep_16 : decode cX9_deep 16 = .ok (.iload_n 2, 1) := by decide +kernel
theorem dX9_deep_17 : decode cX9_deep 17 = .ok (.invokevirtual 135, 3) := by decide +kernel
theorem dX9_deep_20 : decode cX9_deep 20 = .ok (.istore_n 3, 1) := by decide +kernel
theorem dX9_deep_21 : decode cX9_deep 21 = .ok (.iload_n 3, 1) := by decide +kernel
theorem dX9_deep_22 : decode cX9_deep 22 = .ok (.iconst (-1), 1) := by decide +kernel
theorem dX9_deep_23 : decode cX9_deep 23 = .ok (.if_icmp .ne 13, 3) := by decide +kernel
theorem dX9_deep_26 : decode cX9_deep 26 = .ok (.new 106, 3) := by decide +kernel
theorem dX9_deep_29 : decode cX9_deep 29 = .ok (.dup, 1) := by decide +kernel
theorem dX9_deep_30 : decode cX9_deep 30 = .ok (.ldc 121, 2) := by decide +kernel
theorem dX9_deep_32 : decode cX9_deep 32 = .ok (.invokespecial 110, 3) := by decide +kernel
theorem dX9_deep_35 : decode cX9_deep 35 = .ok (.athrow, 1) := by decide +kernel
theorem dX9_deep_36 : decode cX9_deep 36 = .ok (.iload_n 3, 1) := by decide +kernel
theorem dX9_deep_37 : decode cX9_deep 37 = .ok (.bipush (-2), 2) := by decide +kernel
theorem dX9_deep_39 : decode cX9_deep 39 = .ok (.if_icmp .ne 13, 3) := by decide +kernel
theorem dX9_deep_42 : decode cX9_deep 42 = .ok (.new 87, 3) := by decide +kernel
theorem dX9_deep_45 : decode cX9_deep 45 = .ok (.dup, 1) := by decide +kernel
theorem dX9_deep_46 : decode cX9_deep 46 = .ok (.ldc 89, 2) := by decide +kernel
theorem dX9_deep_48 : decode cX9_deep 48 = .ok (.invokespecial 91, 3) := by decide +kernel
theorem dX9_deep_51 : decode cX9_deep 51 = .ok (.athrow, 1) := by decide +kernel
theorem dX9_deep_52 : decode cX9_deep 52 = .ok (.iload_n 3, 1) := by decide +kernel
theorem dX9_deep_53 : decode cX9_deep 53 = .ok (.ifCond .ge 13, 3) := by decide +kernel
theorem dX9_deep_56 : decode cX9_deep 56 = .ok (.new 94, 3) := by decide +kernel
theorem dX9_deep_59 : decode cX9_deep 59 = .ok (.dup, 1) := by decide +kernel
theorem dX9_deep_60 : decode cX9_deep 60 = .ok (.ldc 96, 2) := by decide +kernel
theorem dX9_deep_62 : decode cX9_deep 62 = .ok (.invokespecial 98, 3) := by decide +kernel
theorem dX9_deep_65 : decode cX9_deep 65 = .ok (.athrow, 1) := by decide +kernel
theorem dX9_deep_66 : decode cX9_deep 66 = .ok (.aload_n 0, 1) := by decide +kernel
theorem dX9_deep_67 : decode cX9_deep 67 = .ok (.getfield 43, 3) := by decide +kernel
theorem dX9_deep_70 : decode cX9_deep 70 = .ok (.invokevirtual 99, 3) := by decide +kernel
theorem dX9_deep_73 : decode cX9_deep 73 = .ok (.iload_n 3, 1) := by decide +kernel
theorem dX9_deep_74 : decode cX9_deep 74 = .ok (.ireturn, 1) := by decide +kernel
theorem dX9_dusk_0 : decode cX9_dusk 0 = .ok (.aload_n 0, 1) := by decide +kernel
theorem dX9_dusk_1 : decode cX9_dusk 1 = .ok (.getfield 43, 3) := by decide +kernel
theorem dX9_dusk_4 : decode cX9_dusk 4 = .ok (.aload_n 0, 1) := by decide +kernel
theorem dX9_dusk_5 : decode cX9_dusk 5 = .ok (.getfield 20, 3) := by decide +kernel
theorem dX9_dusk_8 : decode cX9_dusk 8 = .ok (.invokevirtual 79, 3) := by decide +kernel
theorem dX9_dusk_11 : decode cX9_dusk 11 = .ok (.aload_n 0, 1) := by decide +kernel
theorem dX9_dusk_12 : decode cX9_dusk 12 = .ok (.getfield 12, 3) := by decide +kernel
theorem dX9_dusk_15 : decode cX9_dusk 15 = .ok (.iload_n 1, 1) := by decide +kernel
theorem dX9_dusk_16 : decode cX9_dusk 16 = .ok (.invokevirtual 139, 3) := by decide +kernel
theorem dX9_dusk_19 : decode cX9_dusk 19 = .ok (.istore_n 2, 1) := by decide +kernel
theorem dX9_dusk_20 : decode cX9_dusk 20 = .ok (.iload_n 2, 1) := by decide +kernel
theorem dX9_dusk_21 : decode cX9_dusk 21 = .ok (.ifCond .ge 13, 3) := by decide +kernel
theorem dX9_dusk_24 : decode cX9_dusk 24 = .ok (.new 87, 3) := by decide +kernel
theorem dX9_dusk_27 : decode cX9_dusk 27 = .ok (.dup, 1) := by decide +kernel
theorem dX9_dusk_28 : decode cX9_dusk 28 = .ok (.ldc 142, 2) := by decide +kernel
theorem dX9_dusk_30 : decode cX9_dusk 30 = .ok (.invokespecial 91, 3) := by decide +kernel
theorem dX9_dusk_33 : decode cX9_dusk 33 = .ok (.athrow, 1) := by decide +kernel
theorem dX9_dusk_34 : decode cX9_dusk 34 = .ok (.aload_n 0, 1) := by decide +kernel
theorem dX9_dusk_35 : decode cX9_dusk 35 = .ok (.getfield 43, 3) := by decide +kernel
theorem dX9_dusk_38 : decode cX9_dusk 38 = .ok (.invokevirtual 99, 3) := by decide +kernel
theorem dX9_dusk_41 : decode cX9_dusk 41 = .ok (.iload_n 2, 1) := by decide +kernel
theorem dX9_dusk_42 : decode cX9_dusk 42 = .ok (.ireturn, 1) := by decide +kernel
theorem dX9_sleeperOf_0 : decode cX9_sleeperOf 0 = .ok (.aload_n 0, 1) := by decide +kernel
theorem dX9_sleeperOf_1 : decode cX9_sleeperOf 1 = .ok (.getfield 20, 3) := by decide +kernel
theorem dX9_sleeperOf_4 : decode cX9_sleeperOf 4 = .ok (.iload_n 1, 1) := by decide +kernel
theorem dX9_sleeperOf_5 : decode cX9_sleeperOf 5 = .ok (.invokevirtual 144, 3) := by decide +kernel
theorem dX9_sleeperOf_8 : decode cX9_sleeperOf 8 = .ok (.ifCond .ne 13, 3) := by decide +kernel
theorem dX9_sleeperOf_11 : decode cX9_sleeperOf 11 = .ok (.new 106, 3) := by decide +kernel
theorem dX9_sleeperOf_14 : decode cX9_sleeperOf 14 = .ok (.dup, 1) := by decide +kernel
theorem dX9_sleeperOf_15 : decode cX9_sleeperOf 15 = .ok (.ldc 121, 2) := by decide +kernel
theorem dX9_sleeperOf_17 : decode cX9_sleeperOf 17 = .ok (.invokespecial 110, 3) := by decide +kernel
theorem dX9_sleeperOf_20 : decode cX9_sleeperOf 20 = .ok (.athrow, 1) := by decide +kernel
theorem dX9_sleeperOf_21 : decode cX9_sleeperOf 21 = .ok (.aload_n 0, 1) := by decide +kernel
theorem dX9_sleeperOf_22 : decode cX9_sleeperOf 22 = .ok (.getfield 20, 3) := by decide +kernel
theorem dX9_sleeperOf_25 : decode cX9_sleeperOf 25 = .ok (.iload_n 1, 1) := by decide +kernel
theorem dX9_sleeperOf_26 : decode cX9_sleeperOf 26 = .ok (.invokevirtual 148, 3) := by decide +kernel
theorem dX9_sleeperOf_29 : decode cX9_sleeperOf 29 = .ok (.astore_n 3, 1) := by decide +kernel
theorem dX9_sleeperOf_30 : decode cX9_sleeperOf 30 = .ok (.iload_n 2, 1) := by decide +kernel
theorem dX9_sleeperOf_31 : decode cX9_sleeperOf 31 = .ok (.tableswitch 137 0 6 #[41, 50, 74, 79, 95, 111, 116], 41) := by decide +kernel
theorem dX9_sleeperOf_72 : decode cX9_sleeperOf 72 = .ok (.aload_n 0, 1) := by decide +kernel
theorem dX9_sleeperOf_73 : decode cX9_sleeperOf 73 = .ok (.getfield 20, 3) := by decide +kernel
theorem dX9_sleeperOf_76 : decode cX9_sleeperOf 76 = .ok (.iload_n 1, 1) := by decide +kernel
theorem dX9_sleeperOf_77 : decode cX9_sleeperOf 77 = .ok (.invokevirtual 152, 3) := by decide +kernel
theorem dX9_sleeperOf_80 : decode cX9_sleeperOf 80 = .ok (.ireturn, 1) := by decide +kernel
theorem dX9_sleeperOf_81 : decode cX9_sleeperOf 81 = .ok (.aload_n 3, 1) := by decide +kernel
theorem dX9_sleeperOf_82 : decode cX9_sleeperOf 82 = .ok (.getfield 155, 3) := by decide +kernel
theorem dX9_sleeperOf_85 : decode cX9_sleeperOf 85 = .ok (.ifCond .eq 7, 3) := by decide +kernel
theorem dX9_sleeperOf_88 : decode cX9_sleeperOf 88 = .ok (.iconst 2, 1) := by decide +kernel
theorem dX9_sleeperOf_89 : decode cX9_sleeperOf 89 = .ok (.goto 15, 3) := by decide +kernel
theorem dX9_sleeperOf_92 : decode cX9_sleeperOf 92 = .ok (.aload_n 3, 1) := by decide +kernel
theorem dX9_sleeperOf_93 : decode cX9_sleeperOf 93 = .ok (.getfield 160, 3) := by decide +kernel
theorem dX9_sleeperOf_96 : decode cX9_sleeperOf 96 = .ok (.ifCond .eq 7, 3) := by decide +kernel
theorem dX9_sleeperOf_99 : decode cX9_sleeperOf 99 = .ok (.iconst 1, 1) := by decide +kernel
theorem dX9_sleeperOf_100 : decode cX9_sleeperOf 100 = .ok (.goto 4, 3) := by decide +kernel
theorem dX9_sleeperOf_103 : decode cX9_sleeperOf 103 = .ok (.iconst 0, 1) := by decide +kernel
theorem dX9_sleeperOf_104 : decode cX9_sleeperOf 104 = .ok (.ireturn, 1) := by decide +kernel
theorem dX9_sleeperOf_105 : decode cX9_sleeperOf 105 = .ok (.aload_n 3, 1) := by decide +kernel
theorem dX9_sleeperOf_106 : decode cX9_sleeperOf 106 = .ok (.getfield 163, 3) := by decide +kernel
theorem dX9_sleeperOf_109 : decode cX9_sleeperOf 109 = .ok (.ireturn, 1) := by decide +kernel
theorem dX9_sleeperOf_110 : decode cX9_sleeperOf 110 = .ok (.aload_n 3, 1) := by decide +kernel
theorem dX9_sleeperOf_111 : decode cX9_sleeperOf 111 = .ok (.getfield 160, 3) := by decide +kernel
theorem dX9_sleeperOf_114 : decode cX9_sleeperOf 114 = .ok (.ifCond .eq 10, 3) := by decide +kernel
theorem dX9_sleeperOf_117 : decode cX9_sleeperOf 117 = .ok (.aload_n 3, 1) := by decide +kernel
theorem dX9_sleeperOf_118 : decode cX9_sleeperOf 118 = .ok (.getfield 166, 3) := by decide +kernel
theorem dX9_sleeperOf_121 : decode cX9_sleeperOf 121 = .ok (.goto 4, 3) := by decide +kernel
theorem dX9_sleeperOf_124 : decode cX9_sleeperOf 124 = .ok (.iconst (-1), 1) := by decide +kernel
theorem dX9_sleeperOf_125 : decode cX9_sleeperOf 125 = .ok (.ireturn, 1) := by decide +kernel
theorem dX9_sleeperOf_126 : decode cX9_sleeperOf 126 = .ok (.aload_n 3, 1) := by decide +kernel
theorem dX9_sleeperOf_127 : decode cX9_sleeperOf 127 = .ok (.getfield 160, 3) := by decide +kernel
theorem dX9_sleeperOf_130 : decode cX9_sleeperOf 130 = .ok (.ifCond .eq 10, 3) := by decide +kernel
theorem dX9_sleeperOf_133 : decode cX9_sleeperOf 133 = .ok (.aload_n 3, 1) := by decide +kernel
theorem dX9_sleeperOf_134 : decode cX9_sleeperOf 134 = .ok (.getfield 169, 3) := by decide +kernel
theorem dX9_sleeperOf_137 : decode cX9_sleeperOf 137 = .ok (.goto 4, 3) := by decide +kernel
theorem dX9_sleeperOf_140 : decode cX9_sleeperOf 140 = .ok (.iconst (-1), 1) := by decide +kernel
theorem dX9_sleeperOf_141 : decode cX9_sleeperOf 141 = .ok (.ireturn, 1) := by decide +kernel
theorem dX9_sleeperOf_142 : decode cX9_sleeperOf 142 = .ok (.aload_n 3, 1) := by decide +kernel
theorem dX9_sleeperOf_143 : decode cX9_sleeperOf 143 = .ok (.invokevirtual 172, 3) := by decide +kernel
theorem dX9_sleeperOf_146 : decode cX9_sleeperOf 146 = .ok (.ireturn, 1) := by decide +kernel
theorem dX9_sleeperOf_147 : decode cX9_sleeperOf 147 = .ok (.aload_n 0, 1) := by decide +kernel
theorem dX9_sleeperOf_148 : decode cX9_sleeperOf 148 = .ok (.getfield 50, 3) := by decide +kernel
theorem dX9_sleeperOf_151 : decode cX9_sleeperOf 151 = .ok (.aload_n 0, 1) := by decide +kernel
theorem dX9_sleeperOf_152 : decode cX9_sleeperOf 152 = .ok (.getfield 20, 3) := by decide +kernel
theorem dX9_sleeperOf_155 : decode cX9_sleeperOf 155 = .ok (.iconst 0, 1) := by decide +kernel
theorem dX9_sleeperOf_156 : decode cX9_sleeperOf 156 = .ok (.invokevirtual 176, 3) := by decide +kernel
theorem dX9_sleeperOf_159 : decode cX9_sleeperOf 159 = .ok (.aload_n 0, 1) := by decide +kernel
theorem dX9_sleeperOf_160 : decode cX9_sleeperOf 160 = .ok (.getfield 50, 3) := by decide +kernel
theorem dX9_sleeperOf_163 : decode cX9_sleeperOf 163 = .ok (.iload_n 1, 1) := by decide +kernel
theorem dX9_sleeperOf_164 : decode cX9_sleeperOf 164 = .ok (.invokevirtual 180, 3) := by decide +kernel
theorem dX9_sleeperOf_167 : decode cX9_sleeperOf 167 = .ok (.ireturn, 1) := by decide +kernel
theorem dX9_sleeperOf_168 : decode cX9_sleeperOf 168 = .ok (.new 87, 3) := by decide +kernel
theorem dX9_sleeperOf_171 : decode cX9_sleeperOf 171 = .ok (.dup, 1) := by decide +kernel
theorem dX9_sleeperOf_172 : decode cX9_sleeperOf 172 = .ok (.ldc 183, 2) := by decide +kernel
theorem dX9_sleeperOf_174 : decode cX9_sleeperOf 174 = .ok (.invokespecial 91, 3) := by decide +kernel
theorem dX9_sleeperOf_177 : decode cX9_sleeperOf 177 = .ok (.athrow, 1) := by decide +kernel
theorem dX9_chainOf_0 : decode cX9_chainOf 0 = .ok (.aload_n 0, 1) := by decide +kernel
theorem dX9_chainOf_1 : decode cX9_chainOf 1 = .ok (.getfield 20, 3) := by decide +kernel
theorem dX9_chainOf_4 : decode cX9_chainOf 4 = .ok (.iload_n 1, 1) := by decide +kernel
theorem dX9_chainOf_5 : decode cX9_chainOf 5 = .ok (.invokevirtual 148, 3) := by decide +kernel
theorem dX9_chainOf_8 : decode cX9_chainOf 8 = .ok (.astore 4, 2) := by decide +kernel
theorem dX9_chainOf_10 : decode cX9_chainOf 10 = .ok (.aload_n 0, 1) := by decide +kernel
theorem dX9_chainOf_11 : decode cX9_chainOf 11 = .ok (.getfield 20, 3) := by decide +kernel
theorem dX9_chainOf_14 : decode cX9_chainOf 14 = .ok (.iload_n 1, 1) := by decide +kernel
theorem dX9_chainOf_15 : decode cX9_chainOf 15 = .ok (.invokevirtual 144, 3) := by decide +kernel
theorem dX9_chainOf_18 : decode cX9_chainOf 18 = .ok (.ifCond .eq 12, 3) := by decide +kernel
theorem dX9_chainOf_21 : decode cX9_chainOf 21 = .ok (.aload 4, 2) := by decide +kernel
theorem dX9_chainOf_23 : decode cX9_chainOf 23 = .ok (.iload_n 2, 1) := by decide +kernel
theorem dX9_chainOf_24 : decode cX9_chainOf 24 = .ok (.invokevirtual 185, 3) := by decide +kernel
theorem dX9_chainOf_27 : decode cX9_chainOf 27 = .ok (.ifCond .ne 13, 3) := by decide +kernel
theorem dX9_chainOf_30 : decode cX9_chainOf 30 = .ok (.new 106, 3) := by decide +kernel
theorem dX9_chainOf_33 : decode cX9_chainOf 33 = .ok (.dup, 1) := by decide +kernel
theorem dX9_chainOf_34 : decode cX9_chainOf 34 = .ok (.ldc 128, 2) := by decide +kernel
theorem dX9_chainOf_36 : decode cX9_chainOf 36 = .ok (.invokespecial 110, 3) := by decide +kernel
theorem dX9_chainOf_39 : decode cX9_chainOf 39 = .ok (.athrow, 1) := by decide +kernel
theorem dX9_chainOf_40 : decode cX9_chainOf 40 = .ok (.iload_n 3, 1) := by decide +kernel
theorem dX9_chainOf_41 : decode cX9_chainOf 41 = .ok (.tableswitch 59 0 3 #[31, 38, 45, 52], 31) := by decide +kernel
theorem dX9_chainOf_72 : decode cX9_chainOf 72 = .ok (.aload 4, 2) := by decide +kernel
theorem dX9_chainOf_74 : decode cX9_chainOf 74 = .ok (.iload_n 2, 1) := by decide +kernel
theorem dX9_chainOf_75 : decode cX9_chainOf 75 = .ok (.invokevirtual 188, 3) := by decide +kernel
theorem dX9_chainOf_78 : decode cX9_chainOf 78 = .ok (.ireturn, 1) := by decide +kernel
theorem dX9_chainOf_79 : decode cX9_chainOf 79 = .ok (.aload 4, 2) := by decide +kernel
theorem dX9_chainOf_81 : decode cX9_chainOf 81 = .ok (.iload_n 2, 1) := by decide +kernel
theorem dX9_chainOf_82 : decode cX9_chainOf 82 = .ok (.invokevirtual 191, 3) := by decide +kernel
theorem dX9_chainOf_85 : decode cX9_chainOf 85 = .ok (.ireturn, 1) := by decide +kernel
theorem dX9_chainOf_86 : decode cX9_chainOf 86 = .ok (.aload 4, 2) := by decide +kernel
theorem dX9_chainOf_88 : decode cX9_chainOf 88 = .ok (.iload_n 2, 1) := by decide +kernel
theorem dX9_chainOf_89 : decode cX9_chainOf 89 = .ok (.invokevirtual 194, 3) := by decide +kernel
theorem dX9_chainOf_92 : decode cX9_chainOf 92 = .ok (.ireturn, 1) := by decide +kernel
theorem dX9_chainOf_93 : decode cX9_chainOf 93 = .ok (.aload 4, 2) := by decide +kernel
theorem dX9_chainOf_95 : decode cX9_chainOf 95 = .ok (.iload_n 2, 1) := by decide +kernel
theorem dX9_chainOf_96 : decode cX9_chainOf 96 = .ok (.invokevirtual 197, 3) := by decide +kernel
theorem dX9_chainOf_99 : decode cX9_chainOf 99 = .ok (.ireturn, 1) := by decide +kernel
theorem dX9_chainOf_100 : decode cX9_chainOf 100 = .ok (.new 87, 3) := by decide +kernel
theorem dX9_chainOf_103 : decode cX9_chainOf 103 = .ok (.dup, 1) := by decide +kernel
theorem dX9_chainOf_104 : decode cX9_chainOf 104 = .ok (.ldc 200, 2) := by decide +kernel
theorem dX9_chainOf_106 : decode cX9_chainOf 106 = .ok (.invokespecial 91, 3) := by decide +kernel
theorem dX9_chainOf_109 : decode cX9_chainOf 109 = .ok (.athrow, 1) := by decide +kernel
theorem dX9_pegOf_0 : decode cX9_pegOf 0 = .ok (.aload_n 0, 1) := by decide +kernel
theorem dX9_pegOf_1 : decode cX9_pegOf 1 = .ok (.getfield 20, 3) := by decide +kernel
theorem dX9_pegOf_4 : decode cX9_pegOf 4 = .ok (.getfield 202, 3) := by decide +kernel
theorem dX9_pegOf_7 : decode cX9_pegOf 7 = .ok (.astore_n 3, 1) := by decide +kernel
theorem dX9_pegOf_8 : decode cX9_pegOf 8 = .ok (.iload_n 1, 1) := by decide +kernel
theorem dX9_pegOf_9 : decode cX9_pegOf 9 = .ok (.ifCond .lt 11, 3) := by decide +kernel
theorem dX9_pegOf_12 : decode cX9_pegOf 12 = .ok (.iload_n 1, 1) := by decide +kernel
theorem dX9_pegOf_13 : decode cX9_pegOf 13 = .ok (.aload_n 3, 1) := by decide +kernel
theorem dX9_pegOf_14 : decode cX9_pegOf 14 = .ok (.getfield 206, 3) := by decide +kernel
theorem dX9_pegOf_17 : decode cX9_pegOf 17 = .ok (.if_icmp .lt 13, 3) := by decide +kernel
theorem dX9_pegOf_20 : decode cX9_pegOf 20 = .ok (.new 106, 3) := by decide +kernel
theorem dX9_pegOf_23 : decode cX9_pegOf 23 = .ok (.dup, 1) := by decide +kernel
theorem dX9_pegOf_24 : decode cX9_pegOf 24 = .ok (.ldc 211, 2) := by decide +kernel
theorem dX9_pegOf_26 : decode cX9_pegOf 26 = .ok (.invokespecial 110, 3) := by decide +kernel
theorem dX9_pegOf_29 : decode cX9_pegOf 29 = .ok (.athrow, 1) := by decide +kernel
theorem dX9_pegOf_30 : decode cX9_pegOf 30 = .ok (.iload_n 2, 1) := by decide +kernel
theorem dX9_pegOf_31 : decode cX9_pegOf 31 = .ok (.tableswitch 69 0 3 #[29, 38, 47, 56], 29) := by decide +kernel
theorem dX9_pegOf_60 : decode cX9_pegOf 60 = .ok (.aload_n 3, 1) := by decide +kernel
theorem dX9_pegOf_61 : decode cX9_pegOf 61 = .ok (.getfield 213, 3) := by decide +kernel
theorem dX9_pegOf_64 : decode cX9_pegOf 64 = .ok (.iload_n 1, 1) := by decide +kernel
theorem dX9_pegOf_65 : decode cX9_pegOf 65 = .ok (.invokestatic 217, 3) := by decide +kernel
theorem dX9_pegOf_68 : decode cX9_pegOf 68 = .ok (.ireturn, 1) := by decide +kernel
theorem dX9_pegOf_69 : decode cX9_pegOf 69 = .ok (.aload_n 3, 1) := by decide +kernel
theorem dX9_pegOf_70 : decode cX9_pegOf 70 = .ok (.getfield 221, 3) := by decide +kernel
theorem dX9_pegOf_73 : decode cX9_pegOf 73 = .ok (.iload_n 1, 1) := by decide +kernel
theorem dX9_pegOf_74 : decode cX9_pegOf 74 = .ok (.invokestatic 217, 3) := by decide +kernel
theorem dX9_pegOf_77 : decode cX9_pegOf 77 = .ok (.ireturn, 1) := by decide +kernel
theorem dX9_pegOf_78 : decode cX9_pegOf 78 = .ok (.aload_n 3, 1) := by decide +kernel
theorem dX9_pegOf_79 : decode cX9_pegOf 79 = .ok (.getfield 224, 3) := by decide +kernel
theorem dX9_pegOf_82 : decode cX9_pegOf 82 = .ok (.iload_n 1, 1) := by decide +kernel
theorem dX9_pegOf_83 : decode cX9_pegOf 83 = .ok (.invokestatic 217, 3) := by decide +kernel
theorem dX9_pegOf_86 : decode cX9_pegOf 86 = .ok (.ireturn, 1) := by decide +kernel
theorem dX9_pegOf_87 : decode cX9_pegOf 87 = .ok (.aload_n 3, 1) := by decide +kernel
theorem dX9_pegOf_88 : decode cX9_pegOf 88 = .ok (.iload_n 1, 1) := by decide +kernel
theorem dX9_pegOf_89 : decode cX9_pegOf 89 = .ok (.aload_n 0, 1) := by decide +kernel
theorem dX9_pegOf_90 : decode cX9_pegOf 90 = .ok (.getfield 20, 3) := by decide +kernel
theorem dX9_pegOf_93 : decode cX9_pegOf 93 = .ok (.getfield 227, 3) := by decide +kernel
theorem dX9_pegOf_96 : decode cX9_pegOf 96 = .ok (.invokevirtual 230, 3) := by decide +kernel
theorem dX9_pegOf_99 : decode cX9_pegOf 99 = .ok (.ireturn, 1) := by decide +kernel
theorem dX9_pegOf_100 : decode cX9_pegOf 100 = .ok (.new 87, 3) := by decide +kernel
theorem dX9_pegOf_103 : decode cX9_pegOf 103 = .ok (.dup, 1) := by decide +kernel
theorem dX9_pegOf_104 : decode cX9_pegOf 104 = .ok (.ldc 200, 2) := by decide +kernel
theorem dX9_pegOf_106 : decode cX9_pegOf 106 = .ok (.invokespecial 91, 3) := by decide +kernel
theorem dX9_pegOf_109 : decode cX9_pegOf 109 = .ok (.athrow, 1) := by decide +kernel
theorem dX9_owner_0 : decode cX9_owner 0 = .ok (.iload_n 1, 1) := by decide +kernel
theorem dX9_owner_1 : decode cX9_owner 1 = .ok (.iload_n 2, 1) := by decide +kernel
theorem dX9_owner_2 : decode cX9_owner 2 = .ok (.invokestatic 233, 3) := by decide +kernel
theorem dX9_owner_5 : decode cX9_owner 5 = .ok (.ifCond .ne 13, 3) := by decide +kernel
theorem dX9_owner_8 : decode cX9_owner 8 = .ok (.new 106, 3) := by decide +kernel
theorem dX9_owner_11 : decode cX9_owner 11 = .ok (.dup, 1) := by decide +kernel
theorem dX9_owner_12 : decode cX9_owner 12 = .ok (.ldc 237, 2) := by decide +kernel
theorem dX9_owner_14 : decode cX9_owner 14 = .ok (.invokespecial 110, 3) := by decide +kernel
theorem dX9_owner_17 : decode cX9_owner 17 = .ok (.athrow, 1) := by decide +kernel
theorem dX9_owner_18 : decode cX9_owner 18 = .ok (.aload_n 0, 1) := by decide +kernel
theorem dX9_owner_19 : decode cX9_owner 19 = .ok (.getfield 20, 3) := by decide +kernel
theorem dX9_owner_22 : decode cX9_owner 22 = .ok (.iload_n 1, 1) := by decide +kernel
theorem dX9_owner_23 : decode cX9_owner 23 = .ok (.iload_n 2, 1) := by decide +kernel
theorem dX9_owner_24 : decode cX9_owner 24 = .ok (.iconst 0, 1) := by decide +kernel
theorem dX9_owner_25 : decode cX9_owner 25 = .ok (.invokevirtual 239, 3) := by decide +kernel
theorem dX9_owner_28 : decode cX9_owner 28 = .ok (.ireturn, 1) := by decide +kernel
theorem dX9_isInside_0 : decode cX9_isInside 0 = .ok (.aload_n 0, 1) := by decide +kernel
theorem dX9_isInside_1 : decode cX9_isInside 1 = .ok (.getfield 20, 3) := by decide +kernel
theorem dX9_isInside_4 : decode cX9_isInside 4 = .ok (.iload_n 1, 1) := by decide +kernel
theorem dX9_isInside_5 : decode cX9_isInside 5 = .ok (.invokevirtual 144, 3) := by decide +kernel
theorem dX9_isInside_8 : decode cX9_isInside 8 = .ok (.ifCond .eq 11, 3) := by decide +kernel
theorem dX9_isInside_11 : decode cX9_isInside 11 = .ok (.iload_n 2, 1) := by decide +kernel
theorem dX9_isInside_12 : decode cX9_isInside 12 = .ok (.iload_n 3, 1) := by decide +kernel
theorem dX9_isInside_13 : decode cX9_isInside 13 = .ok (.invokestatic 233, 3) := by decide +kernel
theorem dX9_isInside_16 : decode cX9_isInside 16 = .ok (.ifCond .ne 13, 3) := by decide +kernel
theorem dX9_isInside_19 : decode cX9_isInside 19 = .ok (.new 106, 3) := by decide +kernel
theorem dX9_isInside_22 : decode cX9_isInside 22 = .ok (.dup, 1) := by decide +kernel
theorem dX9_isInside_23 : decode cX9_isInside 23 = .ok (.ldc 242, 2) := by decide +kernel
theorem dX9_isInside_25 : decode cX9_isInside 25 = .ok (.invokespecial 110, 3) := by decide +kernel
theorem dX9_isInside_28 : decode cX9_isInside 28 = .ok (.athrow, 1) := by decide +kernel
theorem dX9_isInside_29 : decode cX9_isInside 29 = .ok (.aload_n 0, 1) := by decide +kernel
theorem dX9_isInside_30 : decode cX9_isInside 30 = .ok (.getfield 20, 3) := by decide +kernel
theorem dX9_isInside_33 : decode cX9_isInside 33 = .ok (.iload_n 1, 1) := by decide +kernel
theorem dX9_isInside_34 : decode cX9_isInside 34 = .ok (.invokevirtual 148, 3) := by decide +kernel
theorem dX9_isInside_37 : decode cX9_isInside 37 = .ok (.iload_n 2, 1) := by decide +kernel
theorem dX9_isInside_38 : decode cX9_isInside 38 = .ok (.iload_n 3, 1) := by decide +kernel
theorem dX9_isInside_39 : decode cX9_isInside 39 = .ok (.invokevirtual 244, 3) := by decide +kernel
theorem dX9_isInside_42 : decode cX9_isInside 42 = .ok (.ireturn, 1) := by decide +kernel
theorem dX9_area_0 : decode cX9_area 0 = .ok (.aload_n 0, 1) := by decide +kernel
theorem dX9_area_1 : decode cX9_area 1 = .ok (.getfield 20, 3) := by decide +kernel
theorem dX9_area_4 : decode cX9_area 4 = .ok (.iload_n 1, 1) := by decide +kernel
theorem dX9_area_5 : decode cX9_area 5 = .ok (.invokevirtual 144, 3) := by decide +kernel
theorem dX9_area_8 : decode cX9_area 8 = .ok (.ifCond .ne 13, 3) := by decide +kernel
theorem dX9_area_11 : decode cX9_area 11 = .ok (.new 106, 3) := by decide +kernel
theorem dX9_area_14 : decode cX9_area 14 = .ok (.dup, 1) := by decide +kernel
theorem dX9_area_15 : decode cX9_area 15 = .ok (.ldc 121, 2) := by decide +kernel
theorem dX9_area_17 : decode cX9_area 17 = .ok (.invokespecial 110, 3) := by decide +kernel
theorem dX9_area_20 : decode cX9_area 20 = .ok (.athrow, 1) := by decide +kernel
theorem dX9_area_21 : decode cX9_area 21 = .ok (.aload_n 0, 1) := by decide +kernel
theorem dX9_area_22 : decode cX9_area 22 = .ok (.getfield 20, 3) := by decide +kernel
theorem dX9_area_25 : decode cX9_area 25 = .ok (.iload_n 1, 1) := by decide +kernel
theorem dX9_area_26 : decode cX9_area 26 = .ok (.invokevirtual 148, 3) := by decide +kernel
theorem dX9_area_29 : decode cX9_area 29 = .ok (.invokevirtual 247, 3) := by decide +kernel
theorem dX9_area_32 : decode cX9_area 32 = .ok (.ireturn, 1) := by decide +kernel
theorem dX9_areaAgain_0 : decode cX9_areaAgain 0 = .ok (.aload_n 0, 1) := by decide +kernel
theorem dX9_areaAgain_1 : decode cX9_areaAgain 1 = .ok (.getfield 20, 3) := by decide +kernel
theorem dX9_areaAgain_4 : decode cX9_areaAgain 4 = .ok (.iload_n 1, 1) := by decide +kernel
theorem dX9_areaAgain_5 : decode cX9_areaAgain 5 = .ok (.invokevirtual 144, 3) := by decide +kernel
theorem dX9_areaAgain_8 : decode cX9_areaAgain 8 = .ok (.ifCond .ne 13, 3) := by decide +kernel
theorem dX9_areaAgain_11 : decode cX9_areaAgain 11 = .ok (.new 106, 3) := by decide +kernel
theorem dX9_areaAgain_14 : decode cX9_areaAgain 14 = .ok (.dup, 1) := by decide +kernel
theorem dX9_areaAgain_15 : decode cX9_areaAgain 15 = .ok (.ldc 121, 2) := by decide +kernel
theorem dX9_areaAgain_17 : decode cX9_areaAgain 17 = .ok (.invokespecial 110, 3) := by decide +kernel
theorem dX9_areaAgain_20 : decode cX9_areaAgain 20 = .ok (.athrow, 1) := by decide +kernel
theorem dX9_areaAgain_21 : decode cX9_areaAgain 21 = .ok (.aload_n 0, 1) := by decide +kernel
theorem dX9_areaAgain_22 : decode cX9_areaAgain 22 = .ok (.getfield 20, 3) := by decide +kernel
theorem dX9_areaAgain_25 : decode cX9_areaAgain 25 = .ok (.iload_n 1, 1) := by decide +kernel
theorem dX9_areaAgain_26 : decode cX9_areaAgain 26 = .ok (.invokevirtual 148, 3) := by decide +kernel
theorem dX9_areaAgain_29 : decode cX9_areaAgain 29 = .ok (.invokevirtual 250, 3) := by decide +kernel
theorem dX9_areaAgain_32 : decode cX9_areaAgain 32 = .ok (.ireturn, 1) := by decide +kernel
theorem dX9_border_0 : decode cX9_border 0 = .ok (.aload_n 0, 1) := by decide +kernel
theorem dX9_border_1 : decode cX9_border 1 = .ok (.getfield 20, 3) := by decide +kernel
theorem dX9_border_4 : decode cX9_border 4 = .ok (.iload_n 1, 1) := by decide +kernel
theorem dX9_border_5 : decode cX9_border 5 = .ok (.invokevirtual 144, 3) := by decide +kernel
theorem dX9_border_8 : decode cX9_border 8 = .ok (.ifCond .eq 14, 3) := by decide +kernel
theorem dX9_border_11 : decode cX9_border 11 = .ok (.aload_n 0, 1) := by decide +kernel
theorem dX9_border_12 : decode cX9_border 12 = .ok (.getfield 20, 3) := by decide +kernel
theorem dX9_border_15 : decode cX9_border 15 = .ok (.iload_n 2, 1) := by decide +kernel
theorem dX9_border_16 : decode cX9_border 16 = .ok (.invokevirtual 144, 3) := by decide +kernel
theorem dX9_border_19 : decode cX9_border 19 = .ok (.ifCond .ne 13, 3) := by decide +kernel
theorem dX9_border_22 : decode cX9_border 22 = .ok (.new 106, 3) := by decide +kernel
theorem dX9_border_25 : decode cX9_border 25 = .ok (.dup, 1) := by decide +kernel
theorem dX9_border_26 : decode cX9_border 26 = .ok (.ldc 121, 2) := by decide +kernel
theorem dX9_border_28 : decode cX9_border 28 = .ok (.invokespecial 110, 3) := by decide +kernel
theorem dX9_border_31 : decode cX9_border 31 = .ok (.athrow, 1) := by decide +kernel
theorem dX9_border_32 : decode cX9_border 32 = .ok (.aload_n 0, 1) := by decide +kernel
theorem dX9_border_33 : decode cX9_border 33 = .ok (.getfield 50, 3) := by decide +kernel
theorem dX9_border_36 : decode cX9_border 36 = .ok (.aload_n 0, 1) := by decide +kernel
theorem dX9_border_37 : decode cX9_border 37 = .ok (.getfield 20, 3) := by decide +kernel
theorem dX9_border_40 : decode cX9_border 40 = .ok (.iconst 0, 1) := by decide +kernel
theorem dX9_border_41 : decode cX9_border 41 = .ok (.invokevirtual 176, 3) := by decide +kernel
theorem dX9_border_44 : decode cX9_border 44 = .ok (.aload_n 0, 1) := by decide +kernel
theorem dX9_border_45 : decode cX9_border 45 = .ok (.getfield 50, 3) := by decide +kernel
theorem dX9_border_48 : decode cX9_border 48 = .ok (.iload_n 1, 1) := by decide +kernel
theorem dX9_border_49 : decode cX9_border 49 = .ok (.iload_n 2, 1) := by decide +kernel
theorem dX9_border_50 : decode cX9_border 50 = .ok (.invokevirtual 253, 3) := by decide +kernel
theorem dX9_border_53 : decode cX9_border 53 = .ok (.ireturn, 1) := by decide +kernel
theorem dX9_borderAgain_0 : decode cX9_borderAgain 0 = .ok (.aload_n 0, 1) := by decide +kernel
theorem dX9_borderAgain_1 : decode cX9_borderAgain 1 = .ok (.getfield 20, 3) := by decide +kernel
theorem dX9_borderAgain_4 : decode cX9_borderAgain 4 = .ok (.iload_n 1, 1) := by decide +kernel
theorem dX9_borderAgain_5 : decode cX9_borderAgain 5 = .ok (.invokevirtual 144, 3) := by decide +kernel
theorem dX9_borderAgain_8 : decode cX9_borderAgain 8 = .ok (.ifCond .eq 14, 3) := by decide +kernel
theorem dX9_borderAgain_11 : decode cX9_borderAgain 11 = .ok (.aload_n 0, 1) := by decide +kernel
theorem dX9_borderAgain_12 : decode cX9_borderAgain 12 = .ok (.getfield 20, 3) := by decide +kernel
theorem dX9_borderAgain_15 : decode cX9_borderAgain 15 = .ok (.iload_n 2, 1) := by decide +kernel
theorem dX9_borderAgain_16 : decode cX9_borderAgain 16 = .ok (.invokevirtual 144, 3) := by decide +kernel
theorem dX9_borderAgain_19 : decode cX9_borderAgain 19 = .ok (.ifCond .ne 13, 3) := by decide +kernel
theorem dX9_borderAgain_22 : decode cX9_borderAgain 22 = .ok (.new 106, 3) := by decide +kernel
theorem dX9_borderAgain_25 : decode cX9_borderAgain 25 = .ok (.dup, 1) := by decide +kernel
theorem dX9_borderAgain_26 : decode cX9_borderAgain 26 = .ok (.ldc 121, 2) := by decide +kernel
theorem dX9_borderAgain_28 : decode cX9_borderAgain 28 = .ok (.invokespecial 110, 3) := by decide +kernel
theorem dX9_borderAgain_31 : decode cX9_borderAgain 31 = .ok (.athrow, 1) := by decide +kernel
theorem dX9_borderAgain_32 : decode cX9_borderAgain 32 = .ok (.aload_n 0, 1) := by decide +kernel
theorem dX9_borderAgain_33 : decode cX9_borderAgain 33 = .ok (.getfield 50, 3) := by decide +kernel
theorem dX9_borderAgain_36 : decode cX9_borderAgain 36 = .ok (.aload_n 0, 1) := by decide +kernel
theorem dX9_borderAgain_37 : decode cX9_borderAgain 37 = .ok (.getfield 20, 3) := by decide +kernel
theorem dX9_borderAgain_40 : decode cX9_borderAgain 40 = .ok (.iconst 0, 1) := by decide +kernel
theorem dX9_borderAgain_41 : decode cX9_borderAgain 41 = .ok (.invokevirtual 176, 3) := by decide +kernel
theorem dX9_borderAgain_44 : decode cX9_borderAgain 44 = .ok (.aload_n 0, 1) := by decide +kernel
theorem dX9_borderAgain_45 : decode cX9_borderAgain 45 = .ok (.getfield 50, 3) := by decide +kernel
theorem dX9_borderAgain_48 : decode cX9_borderAgain 48 = .ok (.iload_n 1, 1) := by decide +kernel
theorem dX9_borderAgain_49 : decode cX9_borderAgain 49 = .ok (.iload_n 2, 1) := by decide +kernel
theorem dX9_borderAgain_50 : decode cX9_borderAgain 50 = .ok (.invokevirtual 256, 3) := by decide +kernel
theorem dX9_borderAgain_53 : decode cX9_borderAgain 53 = .ok (.ireturn, 1) := by decide +kernel
theorem dX9_fence_0 : decode cX9_fence 0 = .ok (.aload_n 0, 1) := by decide +kernel
theorem dX9_fence_1 : decode cX9_fence 1 = .ok (.getfield 20, 3) := by decide +kernel
theorem dX9_fence_4 : decode cX9_fence 4 = .ok (.iload_n 1, 1) := by decide +kernel
theorem dX9_fence_5 : decode cX9_fence 5 = .ok (.invokevirtual 144, 3) := by decide +kernel
theorem dX9_fence_8 : decode cX9_fence 8 = .ok (.ifCond .ne 13, 3) := by decide +kernel
theorem dX9_fence_11 : decode cX9_fence 11 = .ok (.new 106, 3) := by decide +kernel
theorem dX9_fence_14 : decode cX9_fence 14 = .ok (.dup, 1) := by decide +kernel
theorem dX9_fence_15 : decode cX9_fence 15 = .ok (.ldc 121, 2) := by decide +kernel
theorem dX9_fence_17 : decode cX9_fence 17 = .ok (.invokespecial 110, 3) := by decide +kernel
theorem dX9_fence_20 : decode cX9_fence 20 = .ok (.athrow, 1) := by decide +kernel
theorem dX9_fence_21 : decode cX9_fence 21 = .ok (.aload_n 0, 1) := by decide +kernel
theorem dX9_fence_22 : decode cX9_fence 22 = .ok (.getfield 50, 3) := by decide +kernel
theorem dX9_fence_25 : decode cX9_fence 25 = .ok (.aload_n 0, 1) := by decide +kernel
theorem dX9_fence_26 : decode cX9_fence 26 = .ok (.getfield 20, 3) := by decide +kernel
theorem dX9_fence_29 : decode cX9_fence 29 = .ok (.iconst 0, 1) := by decide +kernel
theorem dX9_fence_30 : decode cX9_fence 30 = .ok (.invokevirtual 176, 3) := by decide +kernel
theorem dX9_fence_33 : decode cX9_fence 33 = .ok (.aload_n 0, 1) := by decide +kernel
theorem dX9_fence_34 : decode cX9_fence 34 = .ok (.getfield 50, 3) := by decide +kernel
theorem dX9_fence_37 : decode cX9_fence 37 = .ok (.iload_n 1, 1) := by decide +kernel
theorem dX9_fence_38 : decode cX9_fence 38 = .ok (.invokevirtual 259, 3) := by decide +kernel
theorem dX9_fence_41 : decode cX9_fence 41 = .ok (.ireturn, 1) := by decide +kernel
theorem dX9_closes_0 : decode cX9_closes 0 = .ok (.aload_n 0, 1) := by decide +kernel
theorem dX9_closes_1 : decode cX9_closes 1 = .ok (.getfield 20, 3) := by decide +kernel
theorem dX9_closes_4 : decode cX9_closes 4 = .ok (.iload_n 1, 1) := by decide +kernel
theorem dX9_closes_5 : decode cX9_closes 5 = .ok (.invokevirtual 144, 3) := by decide +kernel
theorem dX9_closes_8 : decode cX9_closes 8 = .ok (.ifCond .ne 13, 3) := by decide +kernel
theorem dX9_closes_11 : decode cX9_closes 11 = .ok (.new 106, 3) := by decide +kernel
theorem dX9_closes_14 : decode cX9_closes 14 = .ok (.dup, 1) := by decide +kernel
theorem dX9_closes_15 : decode cX9_closes 15 = .ok (.ldc 121, 2) := by decide +kernel
theorem dX9_closes_17 : decode cX9_closes 17 = .ok (.invokespecial 110, 3) := by decide +kernel
theorem dX9_closes_20 : decode cX9_closes 20 = .ok (.athrow, 1) := by decide +kernel
theorem dX9_closes_21 : decode cX9_closes 21 = .ok (.aload_n 0, 1) := by decide +kernel
theorem dX9_closes_22 : decode cX9_closes 22 = .ok (.getfield 20, 3) := by decide +kernel
theorem dX9_closes_25 : decode cX9_closes 25 = .ok (.iload_n 1, 1) := by decide +kernel
theorem dX9_closes_26 : decode cX9_closes 26 = .ok (.invokevirtual 148, 3) := by decide +kernel
theorem dX9_closes_29 : decode cX9_closes 29 = .ok (.astore_n 2, 1) := by decide +kernel
theorem dX9_closes_30 : decode cX9_closes 30 = .ok (.aload_n 2, 1) := by decide +kernel
theorem dX9_closes_31 : decode cX9_closes 31 = .ok (.getfield 160, 3) := by decide +kernel
theorem dX9_closes_34 : decode cX9_closes 34 = .ok (.ifCond .ne 14, 3) := by decide +kernel
theorem dX9_closes_37 : decode cX9_closes 37 = .ok (.new 262, 3) := by decide +kernel
theorem dX9_closes_40 : decode cX9_closes 40 = .ok (.dup, 1) := by decide +kernel
theorem dX9_closes_41 : decode cX9_closes 41 = .ok (.ldc_w 264, 3) := by decide +kernel
theorem dX9_closes_44 : decode cX9_closes 44 = .ok (.invokespecial 266, 3) := by decide +kernel
theorem dX9_closes_47 : decode cX9_closes 47 = .ok (.athrow, 1) := by decide +kernel
theorem dX9_closes_48 : decode cX9_closes 48 = .ok (.aload_n 2, 1) := by decide +kernel
theorem dX9_closes_49 : decode cX9_closes 49 = .ok (.getfield 166, 3) := by decide +kernel
theorem dX9_closes_52 : decode cX9_closes 52 = .ok (.aload_n 2, 1) := by decide +kernel
theorem dX9_closes_53 : decode cX9_closes 53 = .ok (.getfield 267, 3) := by decide +kernel
theorem dX9_closes_56 : decode cX9_closes 56 = .ok (.isub, 1) := by decide +kernel
theorem dX9_closes_57 : decode cX9_closes 57 = .ok (.invokestatic 270, 3) := by decide +kernel
theorem dX9_closes_60 : decode cX9_closes 60 = .ok (.aload_n 2, 1) := by decide +kernel
theorem dX9_closes_61 : decode cX9_closes 61 = .ok (.getfield 169, 3) := by decide +kernel
theorem dX9_closes_64 : decode cX9_closes 64 = .ok (.aload_n 2, 1) := by decide +kernel
theorem dX9_closes_65 : decode cX9_closes 65 = .ok (.getfield 273, 3) := by decide +kernel
theorem dX9_closes_68 : decode cX9_closes 68 = .ok (.isub, 1) := by decide +kernel
theorem dX9_closes_69 : decode cX9_closes 69 = .ok (.invokestatic 270, 3) := by decide +kernel
theorem dX9_closes_72 : decode cX9_closes 72 = .ok (.iadd, 1) := by decide +kernel
theorem dX9_closes_73 : decode cX9_closes 73 = .ok (.ireturn, 1) := by decide +kernel
theorem dX9_would_0 : decode cX9_would 0 = .ok (.aload_n 0, 1) := by decide +kernel
theorem dX9_would_1 : decode cX9_would 1 = .ok (.getfield 20, 3) := by decide +kernel
theorem dX9_would_4 : decode cX9_would 4 = .ok (.iload_n 1, 1) := by decide +kernel
theorem dX9_would_5 : decode cX9_would 5 = .ok (.invokevirtual 144, 3) := by decide +kernel
theorem dX9_would_8 : decode cX9_would 8 = .ok (.ifCond .ne 13, 3) := by decide +kernel
theorem dX9_would_11 : decode cX9_would 11 = .ok (.new 106, 3) := by decide +kernel
theorem dX9_would_14 : decode cX9_would 14 = .ok (.dup, 1) := by decide +kernel
theorem dX9_would_15 : decode cX9_would 15 = .ok (.ldc 121, 2) := by decide +kernel
theorem dX9_would_17 : decode cX9_would 17 = .ok (.invokespecial 110, 3) := by decide +kernel
theorem dX9_would_20 : decode cX9_would 20 = .ok (.athrow, 1) := by decide +kernel
theorem dX9_would_21 : decode cX9_would 21 = .ok (.iload_n 2, 1) := by decide +kernel
theorem dX9_would_22 : decode cX9_would 22 = .ok (.iconst 0, 1) := by decide +kernel
theorem dX9_would_23 : decode cX9_would 23 = .ok (.bipush 20, 2) := by decide +kernel
theorem dX9_would_25 : decode cX9_would 25 = .ok (.invokestatic 276, 3) := by decide +kernel
theorem dX9_would_28 : decode cX9_would 28 = .ok (.ifCond .ne 13, 3) := by decide +kernel
theorem dX9_would_31 : decode cX9_would 31 = .ok (.new 87, 3) := by decide +kernel
theorem dX9_would_34 : decode cX9_would 34 = .ok (.dup, 1) := by decide +kernel
theorem dX9_would_35 : decode cX9_would 35 = .ok (.ldc 142, 2) := by decide +kernel
theorem dX9_would_37 : decode cX9_would 37 = .ok (.invokespecial 91, 3) := by decide +kernel
theorem dX9_would_40 : decode cX9_would 40 = .ok (.athrow, 1) := by decide +kernel
theorem dX9_would_41 : decode cX9_would 41 = .ok (.aload_n 0, 1) := by decide +kernel
theorem dX9_would_42 : decode cX9_would 42 = .ok (.getfield 50, 3) := by decide +kernel
theorem dX9_would_45 : decode cX9_would 45 = .ok (.aload_n 0, 1) := by decide +kernel
theorem dX9_would_46 : decode cX9_would 46 = .ok (.getfield 20, 3) := by decide +kernel
theorem dX9_would_49 : decode cX9_would 49 = .ok (.iload_n 2, 1) := by decide +kernel
theorem dX9_would_50 : decode cX9_would 50 = .ok (.invokevirtual 176, 3) := by decide +kernel
theorem dX9_would_53 : decode cX9_would 53 = .ok (.aload_n 0, 1) := by decide +kernel
theorem dX9_would_54 : decode cX9_would 54 = .ok (.getfield 50, 3) := by decide +kernel
theorem dX9_would_57 : decode cX9_would 57 = .ok (.iload_n 1, 1) := by decide +kernel
theorem dX9_would_58 : decode cX9_would 58 = .ok (.invokevirtual 180, 3) := by decide +kernel
theorem dX9_would_61 : decode cX9_would 61 = .ok (.ireturn, 1) := by decide +kernel
theorem dX9_ranked_0 : decode cX9_ranked 0 = .ok (.iload_n 1, 1) := by decide +kernel
theorem dX9_ranked_1 : decode cX9_ranked 1 = .ok (.ifCond .lt 14, 3) := by decide +kernel
theorem dX9_ranked_4 : decode cX9_ranked 4 = .ok (.iload_n 1, 1) := by decide +kernel
theorem dX9_ranked_5 : decode cX9_ranked 5 = .ok (.aload_n 0, 1) := by decide +kernel
theorem dX9_ranked_6 : decode cX9_ranked 6 = .ok (.getfield 20, 3) := by decide +kernel
theorem dX9_ranked_9 : decode cX9_ranked 9 = .ok (.getfield 280, 3) := by decide +kernel
theorem dX9_ranked_12 : decode cX9_ranked 12 = .ok (.if_icmp .lt 14, 3) := by decide +kernel
theorem dX9_ranked_15 : decode cX9_ranked 15 = .ok (.new 262, 3) := by decide +kernel
theorem dX9_ranked_18 : decode cX9_ranked 18 = .ok (.dup, 1) := by decide +kernel
theorem dX9_ranked_19 : decode cX9_ranked 19 = .ok (.ldc_w 283, 3) := by decide +kernel
theorem dX9_ranked_22 : decode cX9_ranked 22 = .ok (.invokespecial 266, 3) := by decide +kernel
theorem dX9_ranked_25 : decode cX9_ranked 25 = .ok (.athrow, 1) := by decide +kernel
theorem dX9_ranked_26 : decode cX9_ranked 26 = .ok (.aload_n 0, 1) := by decide +kernel
theorem dX9_ranked_27 : decode cX9_ranked 27 = .ok (.getfield 50, 3) := by decide +kernel
theorem dX9_ranked_30 : decode cX9_ranked 30 = .ok (.aload_n 0, 1) := by decide +kernel
theorem dX9_ranked_31 : decode cX9_ranked 31 = .ok (.getfield 20, 3) := by decide +kernel
theorem dX9_ranked_34 : decode cX9_ranked 34 = .ok (.iconst 0, 1) := by decide +kernel
theorem dX9_ranked_35 : decode cX9_ranked 35 = .ok (.invokevirtual 176, 3) := by decide +kernel
theorem dX9_ranked_38 : decode cX9_ranked 38 = .ok (.iconst 0, 1) := by decide +kernel
theorem dX9_ranked_39 : decode cX9_ranked 39 = .ok (.istore_n 2, 1) := by decide +kernel
theorem dX9_ranked_40 : decode cX9_ranked 40 = .ok (.iconst 0, 1) := by decide +kernel
theorem dX9_ranked_41 : decode cX9_ranked 41 = .ok (.istore_n 3, 1) := by decide +kernel
theorem dX9_ranked_42 : decode cX9_ranked 42 = .ok (.iload_n 3, 1) := by decide +kernel
theorem dX9_ranked_43 : decode cX9_ranked 43 = .ok (.aload_n 0, 1) := by decide +kernel
theorem dX9_ranked_44 : decode cX9_ranked 44 = .ok (.getfield 20, 3) := by decide +kernel
theorem dX9_ranked_47 : decode cX9_ranked 47 = .ok (.getfield 280, 3) := by decide +kernel
theorem dX9_ranked_50 : decode cX9_ranked 50 = .ok (.if_icmp .ge 20, 3) := by decide +kernel
theorem dX9_ranked_53 : decode cX9_ranked 53 = .ok (.aload_n 0, 1) := by decide +kernel
theorem dX9_ranked_54 : decode cX9_ranked 54 = .ok (.iload_n 3, 1) := by decide +kernel
theorem dX9_ranked_55 : decode cX9_ranked 55 = .ok (.invokevirtual 285, 3) := by decide +kernel
theorem dX9_ranked_58 : decode cX9_ranked 58 = .ok (.iload_n 1, 1) := by decide +kernel
theorem dX9_ranked_59 : decode cX9_ranked 59 = .ok (.if_icmp .ne 5, 3) := by decide +kernel
theorem dX9_ranked_62 : decode cX9_ranked 62 = .ok (.iload_n 3, 1) := by decide +kernel
theorem dX9_ranked_63 : decode cX9_ranked 63 = .ok (.istore_n 2, 1) := by decide +kernel
theorem dX9_ranked_64 : decode cX9_ranked 64 = .ok (.iinc 3 1, 3) := by decide +kernel
theorem dX9_ranked_67 : decode cX9_ranked 67 = .ok (.goto (-25), 3) := by decide +kernel
theorem dX9_ranked_70 : decode cX9_ranked 70 = .ok (.iload_n 2, 1) := by decide +kernel
theorem dX9_ranked_71 : decode cX9_ranked 71 = .ok (.ireturn, 1) := by decide +kernel
theorem dX9_nextLit_0 : decode cX9_nextLit 0 = .ok (.aload_n 0, 1) := by decide +kernel
theorem dX9_nextLit_1 : decode cX9_nextLit 1 = .ok (.getfield 20, 3) := by decide +kernel
theorem dX9_nextLit_4 : decode cX9_nextLit 4 = .ok (.getfield 202, 3) := by decide +kernel
theorem dX9_nextLit_7 : decode cX9_nextLit 7 = .ok (.getfield 206, 3) := by decide +kernel
theorem dX9_nextLit_10 : decode cX9_nextLit 10 = .ok (.ifCond .ne 14, 3) := by decide +kernel
theorem dX9_nextLit_13 : decode cX9_nextLit 13 = .ok (.new 262, 3) := by decide +kernel
theorem dX9_nextLit_16 : decode cX9_nextLit 16 = .ok (.dup, 1) := by decide +kernel
theorem dX9_nextLit_17 : decode cX9_nextLit 17 = .ok (.ldc_w 288, 3) := by decide +kernel
theorem dX9_nextLit_20 : decode cX9_nextLit 20 = .ok (.invokespecial 266, 3) := by decide +kernel
theorem dX9_nextLit_23 : decode cX9_nextLit 23 = .ok (.athrow, 1) := by decide +kernel
theorem dX9_nextLit_24 : decode cX9_nextLit 24 = .ok (.aload_n 0, 1) := by decide +kernel
theorem dX9_nextLit_25 : decode cX9_nextLit 25 = .ok (.getfield 20, 3) := by decide +kernel
theorem dX9_nextLit_28 : decode cX9_nextLit 28 = .ok (.getfield 227, 3) := by decide +kernel
theorem dX9_nextLit_31 : decode cX9_nextLit 31 = .ok (.aload_n 0, 1) := by decide +kernel
theorem dX9_nextLit_32 : decode cX9_nextLit 32 = .ok (.getfield 20, 3) := by decide +kernel
theorem dX9_nextLit_35 : decode cX9_nextLit 35 = .ok (.getfield 202, 3) := by decide +kernel
theorem dX9_nextLit_38 : decode cX9_nextLit 38 = .ok (.aload_n 0, 1) := by decide +kernel
theorem dX9_nextLit_39 : decode cX9_nextLit 39 = .ok (.getfield 20, 3) := by decide +kernel
theorem dX9_nextLit_42 : decode cX9_nextLit 42 = .ok (.getfield 227, 3) := by decide +kernel
theorem dX9_nextLit_45 : decode cX9_nextLit 45 = .ok (.invokevirtual 290, 3) := by decide +kernel
theorem dX9_nextLit_48 : decode cX9_nextLit 48 = .ok (.iadd, 1) := by decide +kernel
theorem dX9_nextLit_49 : decode cX9_nextLit 49 = .ok (.ireturn, 1) := by decide +kernel
theorem dX9_isWell_0 : decode cX9_isWell 0 = .ok (.aload_n 0, 1) := by decide +kernel
theorem dX9_isWell_1 : decode cX9_isWell 1 = .ok (.getfield 50, 3) := by decide +kernel
theorem dX9_isWell_4 : decode cX9_isWell 4 = .ok (.aload_n 0, 1) := by decide +kernel
theorem dX9_isWell_5 : decode cX9_isWell 5 = .ok (.getfield 20, 3) := by decide +kernel
theorem dX9_isWell_8 : decode cX9_isWell 8 = .ok (.iconst 0, 1) := by decide +kernel
theorem dX9_isWell_9 : decode cX9_isWell 9 = .ok (.invokevirtual 176, 3) := by decide +kernel
theorem dX9_isWell_12 : decode cX9_isWell 12 = .ok (.aload_n 0, 1) := by decide +kernel
theorem dX9_isWell_13 : decode cX9_isWell 13 = .ok (.invokevirtual 293, 3) := by decide +kernel
theorem dX9_isWell_16 : decode cX9_isWell 16 = .ok (.ifCond .eq 21, 3) := by decide +kernel
theorem dX9_isWell_19 : decode cX9_isWell 19 = .ok (.aload_n 0, 1) := by decide +kernel
theorem dX9_isWell_20 : decode cX9_isWell 20 = .ok (.invokevirtual 297, 3) := by decide +kernel
theorem dX9_isWell_23 : decode cX9_isWell 23 = .ok (.ifCond .eq 14, 3) := by decide +kernel
theorem dX9_isWell_26 : decode cX9_isWell 26 = .ok (.aload_n 0, 1) := by decide +kernel
theorem dX9_isWell_27 : decode cX9_isWell 27 = .ok (.invokevirtual 300, 3) := by decide +kernel
theorem dX9_isWell_30 : decode cX9_isWell 30 = .ok (.ifCond .eq 7, 3) := by decide +kernel
theorem dX9_isWell_33 : decode cX9_isWell 33 = .ok (.iconst 1, 1) := by decide +kernel
theorem dX9_isWell_34 : decode cX9_isWell 34 = .ok (.goto 4, 3) := by decide +kernel
theorem dX9_isWell_37 : decode cX9_isWell 37 = .ok (.iconst 0, 1) := by decide +kernel
theorem dX9_isWell_38 : decode cX9_isWell 38 = .ok (.ireturn, 1) := by decide +kernel
theorem dX9_type_0 : decode cX9_type 0 = .ok (.aload_n 0, 1) := by decide +kernel
theorem dX9_type_1 : decode cX9_type 1 = .ok (.getfield 58, 3) := by decide +kernel
theorem dX9_type_4 : decode cX9_type 4 = .ok (.ifCond .lt 15, 3) := by decide +kernel
theorem dX9_type_7 : decode cX9_type 7 = .ok (.aload_n 0, 1) := by decide +kernel
theorem dX9_type_8 : decode cX9_type 8 = .ok (.getfield 58, 3) := by decide +kernel
theorem dX9_type_11 : decode cX9_type 11 = .ok (.aload_n 0, 1) := by decide +kernel
theorem dX9_type_12 : decode cX9_type 12 = .ok (.getfield 54, 3) := by decide +kernel
theorem dX9_type_15 : decode cX9_type 15 = .ok (.arraylength, 1) := by decide +kernel
theorem dX9_type_16 : decode cX9_type 16 = .ok (.if_icmp .lt 14, 3) := by decide +kernel
theorem dX9_type_19 : decode cX9_type 19 = .ok (.new 303, 3) := by decide +kernel
theorem dX9_type_22 : decode cX9_type 22 = .ok (.dup, 1) := by decide +kernel
theorem dX9_type_23 : decode cX9_type 23 = .ok (.ldc_w 305, 3) := by decide +kernel
theorem dX9_type_26 : decode cX9_type 26 = .ok (.invokespecial 307, 3) := by decide +kernel
theorem dX9_type_29 : decode cX9_type 29 = .ok (.athrow, 1) := by decide +kernel
theorem dX9_type_30 : decode cX9_type 30 = .ok (.aload_n 0, 1) := by decide +kernel
theorem dX9_type_31 : decode cX9_type 31 = .ok (.getfield 54, 3) := by decide +kernel
theorem dX9_type_34 : decode cX9_type 34 = .ok (.aload_n 0, 1) := by decide +kernel
theorem dX9_type_35 : decode cX9_type 35 = .ok (.getfield 58, 3) := by decide +kernel
theorem dX9_type_38 : decode cX9_type 38 = .ok (.iload_n 1, 1) := by decide +kernel
theorem dX9_type_39 : decode cX9_type 39 = .ok (.castore, 1) := by decide +kernel
theorem dX9_type_40 : decode cX9_type 40 = .ok (.aload_n 0, 1) := by decide +kernel
theorem dX9_type_41 : decode cX9_type 41 = .ok (.dup, 1) := by decide +kernel
theorem dX9_type_42 : decode cX9_type 42 = .ok (.getfield 58, 3) := by decide +kernel
theorem dX9_type_45 : decode cX9_type 45 = .ok (.iconst 1, 1) := by decide +kernel
theorem dX9_type_46 : decode cX9_type 46 = .ok (.iadd, 1) := by decide +kernel
theorem dX9_type_47 : decode cX9_type 47 = .ok (.putfield 58, 3) := by decide +kernel
theorem dX9_type_50 : decode cX9_type 50 = .ok (.aload_n 0, 1) := by decide +kernel
theorem dX9_type_51 : decode cX9_type 51 = .ok (.getfield 58, 3) := by decide +kernel
theorem dX9_type_54 : decode cX9_type 54 = .ok (.ireturn, 1) := by decide +kernel
theorem dX9_read_0 : decode cX9_read 0 = .ok (.aload_n 0, 1) := by decide +kernel
theorem dX9_read_1 : decode cX9_read 1 = .ok (.getfield 58, 3) := by decide +kernel
theorem dX9_read_4 : decode cX9_read 4 = .ok (.istore_n 1, 1) := by decide +kernel
theorem dX9_read_5 : decode cX9_read 5 = .ok (.aload_n 0, 1) := by decide +kernel
theorem dX9_read_6 : decode cX9_read 6 = .ok (.iconst 0, 1) := by decide +kernel
theorem dX9_read_7 : decode cX9_read 7 = .ok (.putfield 58, 3) := by decide +kernel
theorem dX9_read_10 : decode cX9_read 10 = .ok (.aload_n 0, 1) := by decide +kernel
theorem dX9_read_11 : decode cX9_read 11 = .ok (.getfield 65, 3) := by decide +kernel
theorem dX9_read_14 : decode cX9_read 14 = .ok (.aload_n 0, 1) := by decide +kernel
theorem dX9_read_15 : decode cX9_read 15 = .ok (.getfield 54, 3) := by decide +kernel
theorem dX9_read_18 : decode cX9_read 18 = .ok (.iload_n 1, 1) := by decide +kernel
theorem dX9_read_19 : decode cX9_read 19 = .ok (.invokevirtual 308, 3) := by decide +kernel
theorem dX9_read_22 : decode cX9_read 22 = .ok (.istore_n 2, 1) := by decide +kernel
theorem dX9_read_23 : decode cX9_read 23 = .ok (.iload_n 2, 1) := by decide +kernel
theorem dX9_read_24 : decode cX9_read 24 = .ok (.ifCond .lt 19, 3) := by decide +kernel
theorem dX9_read_27 : decode cX9_read 27 = .ok (.aload_n 0, 1) := by decide +kernel
theorem dX9_read_28 : decode cX9_read 28 = .ok (.iload_n 2, 1) := by decide +kernel
theorem dX9_read_29 : decode cX9_read 29 = .ok (.putfield 69, 3) := by decide +kernel
theorem dX9_read_32 : decode cX9_read 32 = .ok (.new 87, 3) := by decide +kernel
theorem dX9_read_35 : decode cX9_read 35 = .ok (.dup, 1) := by decide +kernel
theorem dX9_read_36 : decode cX9_read 36 = .ok (.ldc_w 312, 3) := by decide +kernel
theorem dX9_read_39 : decode cX9_read 39 = .ok (.invokespecial 91, 3) := by decide +kernel
theorem dX9_read_42 : decode cX9_read 42 = .ok (.athrow, 1) := by decide +kernel
theorem dX9_read_43 : decode cX9_read 43 = .ok (.aload_n 0, 1) := by decide +kernel
theorem dX9_read_44 : decode cX9_read 44 = .ok (.getfield 43, 3) := by decide +kernel
theorem dX9_read_47 : decode cX9_read 47 = .ok (.aload_n 0, 1) := by decide +kernel
theorem dX9_read_48 : decode cX9_read 48 = .ok (.getfield 20, 3) := by decide +kernel
theorem dX9_read_51 : decode cX9_read 51 = .ok (.invokevirtual 79, 3) := by decide +kernel
theorem dX9_read_54 : decode cX9_read 54 = .ok (.iconst 0, 1) := by decide +kernel
theorem dX9_read_55 : decode cX9_read 55 = .ok (.istore_n 3, 1) := by decide +kernel
theorem dX9_read_56 : decode cX9_read 56 = .ok (.iload_n 3, 1) := by decide +kernel
theorem dX9_read_57 : decode cX9_read 57 = .ok (.aload_n 0, 1) := by decide +kernel
theorem dX9_read_58 : decode cX9_read 58 = .ok (.getfield 65, 3) := by decide +kernel
theorem dX9_read_61 : decode cX9_read 61 = .ok (.getfield 314, 3) := by decide +kernel
theorem dX9_read_64 : decode cX9_read 64 = .ok (.if_icmp .ge 62, 3) := by decide +kernel
theorem dX9_read_67 : decode cX9_read 67 = .ok (.aload_n 0, 1) := by decide +kernel
theorem dX9_read_68 : decode cX9_read 68 = .ok (.iload_n 3, 1) := by decide +kernel
theorem dX9_read_69 : decode cX9_read 69 = .ok (.invokevirtual 315, 3) := by decide +kernel
theorem dX9_read_72 : decode cX9_read 72 = .ok (.istore 4, 2) := by decide +kernel
theorem dX9_read_74 : decode cX9_read 74 = .ok (.iload 4, 2) := by decide +kernel
theorem dX9_read_76 : decode cX9_read 76 = .ok (.ifCond .ge 44, 3) := by decide +kernel
theorem dX9_read_79 : decode cX9_read 79 = .ok (.aload_n 0, 1) := by decide +kernel
theorem dX9_read_80 : decode cX9_read 80 = .ok (.getfield 27, 3) := by decide +kernel
theorem dX9_read_83 : decode cX9_read 83 = .ok (.iload_n 3, 1) := by decide +kernel
theorem dX9_read_84 : decode cX9_read 84 = .ok (.iload 4, 2) := by decide +kernel
theorem dX9_read_86 : decode cX9_read 86 = .ok (.bipush (-3), 2) := by decide +kernel
theorem dX9_read_88 : decode cX9_read 88 = .ok (.if_icmp .ne 7, 3) := by decide +kernel
theorem dX9_read_91 : decode cX9_read 91 = .ok (.iconst 1, 1) := by decide +kernel
theorem dX9_read_92 : decode cX9_read 92 = .ok (.goto 4, 3) := by decide +kernel
theorem dX9_read_95 : decode cX9_read 95 = .ok (.iconst 0, 1) := by decide +kernel
theorem dX9_read_96 : decode cX9_read 96 = .ok (.invokevirtual 318, 3) := by decide +kernel
theorem dX9_read_99 : decode cX9_read 99 = .ok (.aload_n 0, 1) := by decide +kernel
theorem dX9_read_100 : decode cX9_read 100 = .ok (.getfield 43, 3) := by decide +kernel
theorem dX9_read_103 : decode cX9_read 103 = .ok (.aload_n 0, 1) := by decide +kernel
theorem dX9_read_104 : decode cX9_read 104 = .ok (.getfield 20, 3) := by decide +kernel
theorem dX9_read_107 : decode cX9_read 107 = .ok (.invokevirtual 324, 3) := by decide +kernel
theorem dX9_read_110 : decode cX9_read 110 = .ok (.new 94, 3) := by decide +kernel
theorem dX9_read_113 : decode cX9_read 113 = .ok (.dup, 1) := by decide +kernel
theorem dX9_read_114 : decode cX9_read 114 = .ok (.ldc 96, 2) := by decide +kernel
theorem dX9_read_116 : decode cX9_read 116 = .ok (.invokespecial 98, 3) := by decide +kernel
theorem dX9_read_119 : decode cX9_read 119 = .ok (.athrow, 1) := by decide +kernel
theorem dX9_read_120 : decode cX9_read 120 = .ok (.iinc 3 1, 3) := by decide +kernel
theorem dX9_read_123 : decode cX9_read 123 = .ok (.goto (-67), 3) := by decide +kernel
theorem dX9_read_126 : decode cX9_read 126 = .ok (.aload_n 0, 1) := by decide +kernel
theorem dX9_read_127 : decode cX9_read 127 = .ok (.getfield 43, 3) := by decide +kernel
theorem dX9_read_130 : decode cX9_read 130 = .ok (.invokevirtual 99, 3) := by decide +kernel
theorem dX9_read_133 : decode cX9_read 133 = .ok (.aload_n 0, 1) := by decide +kernel
theorem dX9_read_134 : decode cX9_read 134 = .ok (.getfield 65, 3) := by decide +kernel
theorem dX9_read_137 : decode cX9_read 137 = .ok (.getfield 314, 3) := by decide +kernel
theorem dX9_read_140 : decode cX9_read 140 = .ok (.ireturn, 1) := by decide +kernel
theorem dX9_errorPosition_0 : decode cX9_errorPosition 0 = .ok (.aload_n 0, 1) := by decide +kernel
theorem dX9_errorPosition_1 : decode cX9_errorPosition 1 = .ok (.getfield 69, 3) := by decide +kernel
theorem dX9_errorPosition_4 : decode cX9_errorPosition 4 = .ok (.ifCond .ge 14, 3) := by decide +kernel
theorem dX9_errorPosition_7 : decode cX9_errorPosition 7 = .ok (.new 262, 3) := by decide +kernel
theorem dX9_errorPosition_10 : decode cX9_errorPosition 10 = .ok (.dup, 1) := by decide +kernel
theorem dX9_errorPosition_11 : decode cX9_errorPosition 11 = .ok (.ldc_w 327, 3) := by decide +kernel
theorem dX9_errorPosition_14 : decode cX9_errorPosition 14 = .ok (.invokespecial 266, 3) := by decide +kernel
theorem dX9_errorPosition_17 : decode cX9_errorPosition 17 = .ok (.athrow, 1) := by decide +kernel
theorem dX9_errorPosition_18 : decode cX9_errorPosition 18 = .ok (.aload_n 0, 1) := by decide +kernel
theorem dX9_errorPosition_19 : decode cX9_errorPosition 19 = .ok (.getfield 69, 3) := by decide +kernel
theorem dX9_errorPosition_22 : decode cX9_errorPosition 22 = .ok (.ireturn, 1) := by decide +kernel
theorem dX9_refusal_0 : decode cX9_refusal 0 = .ok (.iload_n 1, 1) := by decide +kernel
theorem dX9_refusal_1 : decode cX9_refusal 1 = .ok (.ifCond .eq 13, 3) := by decide +kernel
theorem dX9_refusal_4 : decode cX9_refusal 4 = .ok (.aload_n 0, 1) := by decide +kernel
theorem dX9_refusal_5 : decode cX9_refusal 5 = .ok (.getfield 27, 3) := by decide +kernel
theorem dX9_refusal_8 : decode cX9_refusal 8 = .ok (.getfield 329, 3) := by decide +kernel
theorem dX9_refusal_11 : decode cX9_refusal 11 = .ok (.goto 10, 3) := by decide +kernel
theorem dX9_refusal_14 : decode cX9_refusal 14 = .ok (.aload_n 0, 1) := by decide +kernel
theorem dX9_refusal_15 : decode cX9_refusal 15 = .ok (.getfield 27, 3) := by decide +kernel
theorem dX9_refusal_18 : decode cX9_refusal 18 = .ok (.getfield 332, 3) := by decide +kernel
theorem dX9_refusal_21 : decode cX9_refusal 21 = .ok (.istore_n 3, 1) := by decide +kernel
theorem dX9_refusal_22 : decode cX9_refusal 22 = .ok (.iload_n 3, 1) := by decide +kernel
theorem dX9_refusal_23 : decode cX9_refusal 23 = .ok (.ifCond .ne 14, 3) := by decide +kernel
theorem dX9_refusal_26 : decode cX9_refusal 26 = .ok (.new 262, 3) := by decide +kernel
theorem dX9_refusal_29 : decode cX9_refusal 29 = .ok (.dup, 1) := by decide +kernel
theorem dX9_refusal_30 : decode cX9_refusal 30 = .ok (.ldc_w 335, 3) := by decide +kernel
theorem dX9_refusal_33 : decode cX9_refusal 33 = .ok (.invokespecial 266, 3) := by decide +kernel
theorem dX9_refusal_36 : decode cX9_refusal 36 = .ok (.athrow, 1) := by decide +kernel
theorem dX9_refusal_37 : decode cX9_refusal 37 = .ok (.iload_n 2, 1) := by decide +kernel
theorem dX9_refusal_38 : decode cX9_refusal 38 = .ok (.ifCond .ne 5, 3) := by decide +kernel
theorem dX9_refusal_41 : decode cX9_refusal 41 = .ok (.iload_n 3, 1) := by decide +kernel
theorem dX9_refusal_42 : decode cX9_refusal 42 = .ok (.ireturn, 1) := by decide +kernel
theorem dX9_refusal_43 : decode cX9_refusal 43 = .ok (.iload_n 1, 1) := by decide +kernel
theorem dX9_refusal_44 : decode cX9_refusal 44 = .ok (.ifCond .eq 13, 3) := by decide +kernel
theorem dX9_refusal_47 : decode cX9_refusal 47 = .ok (.aload_n 0, 1) := by decide +kernel
theorem dX9_refusal_48 : decode cX9_refusal 48 = .ok (.getfield 27, 3) := by decide +kernel
theorem dX9_refusal_51 : decode cX9_refusal 51 = .ok (.getfield 337, 3) := by decide +kernel
theorem dX9_refusal_54 : decode cX9_refusal 54 = .ok (.goto 10, 3) := by decide +kernel
theorem dX9_refusal_57 : decode cX9_refusal 57 = .ok (.aload_n 0, 1) := by decide +kernel
theorem dX9_refusal_58 : decode cX9_refusal 58 = .ok (.getfield 27, 3) := by decide +kernel
theorem dX9_refusal_61 : decode cX9_refusal 61 = .ok (.getfield 340, 3) := by decide +kernel
theorem dX9_refusal_64 : decode cX9_refusal 64 = .ok (.ireturn, 1) := by decide +kernel
theorem dX9_show_0 : decode cX9_show 0 = .ok (.iconst 0, 1) := by decide +kernel
theorem dX9_show_1 : decode cX9_show 1 = .ok (.iload_n 1, 1) := by decide +kernel
theorem dX9_show_2 : decode cX9_show 2 = .ok (.invokestatic 233, 3) := by decide +kernel
theorem dX9_show_5 : decode cX9_show 5 = .ok (.ifCond .ne 14, 3) := by decide +kernel
theorem dX9_show_8 : decode cX9_show 8 = .ok (.new 106, 3) := by decide +kernel
theorem dX9_show_11 : decode cX9_show 11 = .ok (.dup, 1) := by decide +kernel
theorem dX9_show_12 : decode cX9_show 12 = .ok (.ldc_w 343, 3) := by decide +kernel
theorem dX9_show_15 : decode cX9_show 15 = .ok (.invokespecial 110, 3) := by decide +kernel
theorem dX9_show_18 : decode cX9_show 18 = .ok (.athrow, 1) := by decide +kernel
theorem dX9_show_19 : decode cX9_show 19 = .ok (.aload_n 0, 1) := by decide +kernel
theorem dX9_show_20 : decode cX9_show 20 = .ok (.getfield 50, 3) := by decide +kernel
theorem dX9_show_23 : decode cX9_show 23 = .ok (.aload_n 0, 1) := by decide +kernel
theorem dX9_show_24 : decode cX9_show 24 = .ok (.getfield 20, 3) := by decide +kernel
theorem dX9_show_27 : decode cX9_show 27 = .ok (.iconst 0, 1) := by decide +kernel
theorem dX9_show_28 : decode cX9_show 28 = .ok (.invokevirtual 176, 3) := by decide +kernel
theorem dX9_show_31 : decode cX9_show 31 = .ok (.aload_n 0, 1) := by decide +kernel
theorem dX9_show_32 : decode cX9_show 32 = .ok (.getfield 75, 3) := by decide +kernel
theorem dX9_show_35 : decode cX9_show 35 = .ok (.invokevirtual 345, 3) := by decide +kernel
theorem dX9_show_38 : decode cX9_show 38 = .ok (.iconst 0, 1) := by decide +kernel
theorem dX9_show_39 : decode cX9_show 39 = .ok (.istore_n 2, 1) := by decide +kernel
theorem dX9_show_40 : decode cX9_show 40 = .ok (.iload_n 2, 1) := by decide +kernel
theorem dX9_show_41 : decode cX9_show 41 = .ok (.bipush 12, 2) := by decide +kernel
theorem dX9_show_43 : decode cX9_show 43 = .ok (.if_icmp .ge 44, 3) := by decide +kernel
theorem dX9_show_46 : decode cX9_show 46 = .ok (.aload_n 0, 1) := by decide +kernel
theorem dX9_show_47 : decode cX9_show 47 = .ok (.getfield 50, 3) := by decide +kernel
theorem dX9_show_50 : decode cX9_show 50 = .ok (.iload_n 2, 1) := by decide +kernel
theorem dX9_show_51 : decode cX9_show 51 = .ok (.iload_n 1, 1) := by decide +kernel
theorem dX9_show_52 : decode cX9_show 52 = .ok (.invokevirtual 348, 3) := by decide +kernel
theorem dX9_show_55 : decode cX9_show 55 = .ok (.istore_n 3, 1) := by decide +kernel
theorem dX9_show_56 : decode cX9_show 56 = .ok (.iload_n 3, 1) := by decide +kernel
theorem dX9_show_57 : decode cX9_show 57 = .ok (.iconst (-1), 1) := by decide +kernel
theorem dX9_show_58 : decode cX9_show 58 = .ok (.if_icmp .ne 15, 3) := by decide +kernel
theorem dX9_show_61 : decode cX9_show 61 = .ok (.aload_n 0, 1) := by decide +kernel
theorem dX9_show_62 : decode cX9_show 62 = .ok (.getfield 75, 3) := by decide +kernel
theorem dX9_show_65 : decode cX9_show 65 = .ok (.bipush 46, 2) := by decide +kernel
theorem dX9_show_67 : decode cX9_show 67 = .ok (.invokevirtual 351, 3) := by decide +kernel
theorem dX9_show_70 : decode cX9_show 70 = .ok (.goto 11, 3) := by decide +kernel
theorem dX9_show_73 : decode cX9_show 73 = .ok (.aload_n 0, 1) := by decide +kernel
theorem dX9_show_74 : decode cX9_show 74 = .ok (.getfield 75, 3) := by decide +kernel
theorem dX9_show_77 : decode cX9_show 77 = .ok (.iload_n 3, 1) := by decide +kernel
theorem dX9_show_78 : decode cX9_show 78 = .ok (.invokevirtual 355, 3) := by decide +kernel
theorem dX9_show_81 : decode cX9_show 81 = .ok (.iinc 2 1, 3) := by decide +kernel
theorem dX9_show_84 : decode cX9_show 84 = .ok (.goto (-44), 3) := by decide +kernel
theorem dX9_show_87 : decode cX9_show 87 = .ok (.aload_n 0, 1) := by decide +kernel
theorem dX9_show_88 : decode cX9_show 88 = .ok (.getfield 75, 3) := by decide +kernel
theorem dX9_show_91 : decode cX9_show 91 = .ok (.getfield 359, 3) := by decide +kernel
theorem dX9_show_94 : decode cX9_show 94 = .ok (.ireturn, 1) := by decide +kernel
theorem dX9_tell_0 : decode cX9_tell 0 = .ok (.aload_n 0, 1) := by decide +kernel
theorem dX9_tell_1 : decode cX9_tell 1 = .ok (.getfield 20, 3) := by decide +kernel
theorem dX9_tell_4 : decode cX9_tell 4 = .ok (.iload_n 1, 1) := by decide +kernel
theorem dX9_tell_5 : decode cX9_tell 5 = .ok (.invokevirtual 144, 3) := by decide +kernel
theorem dX9_tell_8 : decode cX9_tell 8 = .ok (.ifCond .ne 13, 3) := by decide +kernel
theorem dX9_tell_11 : decode cX9_tell 11 = .ok (.new 106, 3) := by decide +kernel
theorem dX9_tell_14 : decode cX9_tell 14 = .ok (.dup, 1) := by decide +kernel
theorem dX9_tell_15 : decode cX9_tell 15 = .ok (.ldc 121, 2) := by decide +kernel
theorem dX9_tell_17 : decode cX9_tell 17 = .ok (.invokespecial 110, 3) := by decide +kernel
theorem dX9_tell_20 : decode cX9_tell 20 = .ok (.athrow, 1) := by decide +kernel
theorem dX9_tell_21 : decode cX9_tell 21 = .ok (.aload_n 0, 1) := by decide +kernel
theorem dX9_tell_22 : decode cX9_tell 22 = .ok (.getfield 75, 3) := by decide +kernel
theorem dX9_tell_25 : decode cX9_tell 25 = .ok (.invokevirtual 345, 3) := by decide +kernel
theorem dX9_tell_28 : decode cX9_tell 28 = .ok (.aload_n 0, 1) := by decide +kernel
theorem dX9_tell_29 : decode cX9_tell 29 = .ok (.getfield 20, 3) := by decide +kernel
theorem dX9_tell_32 : decode cX9_tell 32 = .ok (.iload_n 1, 1) := by decide +kernel
theorem dX9_tell_33 : decode cX9_tell 33 = .ok (.invokevirtual 148, 3) := by decide +kernel
theorem dX9_tell_36 : decode cX9_tell 36 = .ok (.astore_n 2, 1) := by decide +kernel
theorem dX9_tell_37 : decode cX9_tell 37 = .ok (.aload_n 2, 1) := by decide +kernel
theorem dX9_tell_38 : decode cX9_tell 38 = .ok (.getfield 160, 3) := by decide +kernel
theorem dX9_tell_41 : decode cX9_tell 41 = .ok (.ifCond .eq 11, 3) := by decide +kernel
theorem dX9_tell_44 : decode cX9_tell 44 = .ok (.aload_n 0, 1) := by decide +kernel
theorem dX9_tell_45 : decode cX9_tell 45 = .ok (.getfield 75, 3) := by decide +kernel
theorem dX9_tell_48 : decode cX9_tell 48 = .ok (.aload_n 2, 1) := by decide +kernel
theorem dX9_tell_49 : decode cX9_tell 49 = .ok (.invokevirtual 362, 3) := by decide +kernel
theorem dX9_tell_52 : decode cX9_tell 52 = .ok (.aload_n 0, 1) := by decide +kernel
theorem dX9_tell_53 : decode cX9_tell 53 = .ok (.getfield 75, 3) := by decide +kernel
theorem dX9_tell_56 : decode cX9_tell 56 = .ok (.getfield 359, 3) := by decide +kernel
theorem dX9_tell_59 : decode cX9_tell 59 = .ok (.ireturn, 1) := by decide +kernel
theorem dX9_written_0 : decode cX9_written 0 = .ok (.iload_n 1, 1) := by decide +kernel
theorem dX9_written_1 : decode cX9_written 1 = .ok (.ifCond .lt 26, 3) := by decide +kernel
theorem dX9_written_4 : decode cX9_written 4 = .ok (.iload_n 1, 1) := by decide +kernel
theorem dX9_written_5 : decode cX9_written 5 = .ok (.aload_n 0, 1) := by decide +kernel
theorem dX9_written_6 : decode cX9_written 6 = .ok (.getfield 75, 3) := by decide +kernel
theorem dX9_written_9 : decode cX9_written 9 = .ok (.getfield 359, 3) := by decide +kernel
theorem dX9_written_12 : decode cX9_written 12 = .ok (.if_icmp .ge 15, 3) := by decide +kernel
theorem dX9_written_15 : decode cX9_written 15 = .ok (.iload_n 1, 1) := by decide +kernel
theorem dX9_written_16 : decode cX9_written 16 = .ok (.aload_n 0, 1) := by decide +kernel
theorem dX9_written_17 : decode cX9_written 17 = .ok (.getfield 75, 3) := by decide +kernel
theorem dX9_written_20 : decode cX9_written 20 = .ok (.getfield 366, 3) := by decide +kernel
theorem dX9_written_23 : decode cX9_written 23 = .ok (.arraylength, 1) := by decide +kernel
theorem dX9_written_24 : decode cX9_written 24 = .ok (.if_icmp .lt 14, 3) := by decide +kernel
theorem dX9_written_27 : decode cX9_written 27 = .ok (.new 262, 3) := by decide +kernel
theorem dX9_written_30 : decode cX9_written 30 = .ok (.dup, 1) := by decide +kernel
theorem dX9_written_31 : decode cX9_written 31 = .ok (.ldc_w 369, 3) := by decide +kernel
theorem dX9_written_34 : decode cX9_written 34 = .ok (.invokespecial 266, 3) := by decide +kernel
theorem dX9_written_37 : decode cX9_written 37 = .ok (.athrow, 1) := by decide +kernel
theorem dX9_written_38 : decode cX9_written 38 = .ok (.aload_n 0, 1) := by decide +kernel
theorem dX9_written_39 : decode cX9_written 39 = .ok (.getfield 75, 3) := by decide +kernel
theorem dX9_written_42 : decode cX9_written 42 = .ok (.getfield 366, 3) := by decide +kernel
theorem dX9_written_45 : decode cX9_written 45 = .ok (.iload_n 1, 1) := by decide +kernel
theorem dX9_written_46 : decode cX9_written 46 = .ok (.caload, 1) := by decide +kernel
theorem dX9_written_47 : decode cX9_written 47 = .ok (.ireturn, 1) := by decide +kernel
theorem dX9_account_0 : decode cX9_account 0 = .ok (.iload_n 1, 1) := by decide +kernel
theorem dX9_account_1 : decode cX9_account 1 = .ok (.tableswitch 181 0 11 #[63, 71, 79, 90, 108, 116, 124, 132, 152, 160, 168, 173], 63) := by decide +kernel
theorem dX9_account_64 : decode cX9_account 64 = .ok (.aload_n 0, 1) := by decide +kernel
theorem dX9_account_65 : decode cX9_account 65 = .ok (.getfield 20, 3) := by decide +kernel
theorem dX9_account_68 : decode cX9_account 68 = .ok (.getfield 280, 3) := by decide +kernel
theorem dX9_account_71 : decode cX9_account 71 = .ok (.ireturn, 1) := by decide +kernel
theorem dX9_account_72 : decode cX9_account 72 = .ok (.aload_n 0, 1) := by decide +kernel
theorem dX9_account_73 : decode cX9_account 73 = .ok (.getfield 20, 3) := by decide +kernel
theorem dX9_account_76 : decode cX9_account 76 = .ok (.invokevirtual 371, 3) := by decide +kernel
theorem dX9_account_79 : decode cX9_account 79 = .ok (.ireturn, 1) := by decide +kernel
theorem dX9_account_80 : decode cX9_account 80 = .ok (.aload_n 0, 1) := by decide +kernel
theorem dX9_account_81 : decode cX9_account 81 = .ok (.getfield 20, 3) := by decide +kernel
theorem dX9_account_84 : decode cX9_account 84 = .ok (.getfield 202, 3) := by decide +kernel
theorem dX9_account_87 : decode cX9_account 87 = .ok (.getfield 206, 3) := by decide +kernel
theorem dX9_account_90 : decode cX9_account 90 = .ok (.ireturn, 1) := by decide +kernel
theorem dX9_account_91 : decode cX9_account 91 = .ok (.aload_n 0, 1) := by decide +kernel
theorem dX9_account_92 : decode cX9_account 92 = .ok (.getfield 20, 3) := by decide +kernel
theorem dX9_account_95 : decode cX9_account 95 = .ok (.getfield 202, 3) := by decide +kernel
theorem dX9_account_98 : decode cX9_account 98 = .ok (.aload_n 0, 1) := by decide +kernel
theorem dX9_account_99 : decode cX9_account 99 = .ok (.getfield 20, 3) := by decide +kernel
theorem dX9_account_102 : decode cX9_account 102 = .ok (.getfield 227, 3) := by decide +kernel
theorem dX9_account_105 : decode cX9_account 105 = .ok (.invokevirtual 374, 3) := by decide +kernel
theorem dX9_account_108 : decode cX9_account 108 = .ok (.ireturn, 1) := by decide +kernel
theorem dX9_account_109 : decode cX9_account 109 = .ok (.aload_n 0, 1) := by decide +kernel
theorem dX9_account_110 : decode cX9_account 110 = .ok (.getfield 20, 3) := by decide +kernel
theorem dX9_account_113 : decode cX9_account 113 = .ok (.invokevirtual 377, 3) := by decide +kernel
theorem dX9_account_116 : decode cX9_account 116 = .ok (.ireturn, 1) := by decide +kernel
theorem dX9_account_117 : decode cX9_account 117 = .ok (.aload_n 0, 1) := by decide +kernel
theorem dX9_account_118 : decode cX9_account 118 = .ok (.getfield 20, 3) := by decide +kernel
theorem dX9_account_121 : decode cX9_account 121 = .ok (.invokevirtual 380, 3) := by decide +kernel
theorem dX9_account_124 : decode cX9_account 124 = .ok (.ireturn, 1) := by decide +kernel
theorem dX9_account_125 : decode cX9_account 125 = .ok (.aload_n 0, 1) := by decide +kernel
theorem dX9_account_126 : decode cX9_account 126 = .ok (.getfield 20, 3) := by decide +kernel
theorem dX9_account_129 : decode cX9_account 129 = .ok (.invokevirtual 383, 3) := by decide +kernel
theorem dX9_account_132 : decode cX9_account 132 = .ok (.ireturn, 1) := by decide +kernel
theorem dX9_account_133 : decode cX9_account 133 = .ok (.aload_n 0, 1) := by decide +kernel
theorem dX9_account_134 : decode cX9_account 134 = .ok (.getfield 50, 3) := by decide +kernel
theorem dX9_account_137 : decode cX9_account 137 = .ok (.aload_n 0, 1) := by decide +kernel
theorem dX9_account_138 : decode cX9_account 138 = .ok (.getfield 20, 3) := by decide +kernel
theorem dX9_account_141 : decode cX9_account 141 = .ok (.iconst 0, 1) := by decide +kernel
theorem dX9_account_142 : decode cX9_account 142 = .ok (.invokevirtual 176, 3) := by decide +kernel
theorem dX9_account_145 : decode cX9_account 145 = .ok (.aload_n 0, 1) := by decide +kernel
theorem dX9_account_146 : decode cX9_account 146 = .ok (.getfield 50, 3) := by decide +kernel
theorem dX9_account_149 : decode cX9_account 149 = .ok (.invokevirtual 386, 3) := by decide +kernel
theorem dX9_account_152 : decode cX9_account 152 = .ok (.ireturn, 1) := by decide +kernel
theorem dX9_account_153 : decode cX9_account 153 = .ok (.aload_n 0, 1) := by decide +kernel
theorem dX9_account_154 : decode cX9_account 154 = .ok (.getfield 20, 3) := by decide +kernel
theorem dX9_account_157 : decode cX9_account 157 = .ok (.getfield 227, 3) := by decide +kernel
theorem dX9_account_160 : decode cX9_account 160 = .ok (.ireturn, 1) := by decide +kernel
theorem dX9_account_161 : decode cX9_account 161 = .ok (.aload_n 0, 1) := by decide +kernel
theorem dX9_account_162 : decode cX9_account 162 = .ok (.getfield 20, 3) := by decide +kernel
theorem dX9_account_165 : decode cX9_account 165 = .ok (.getfield 389, 3) := by decide +kernel
theorem dX9_account_168 : decode cX9_account 168 = .ok (.ireturn, 1) := by decide +kernel
theorem dX9_account_169 : decode cX9_account 169 = .ok (.aload_n 0, 1) := by decide +kernel
theorem dX9_account_170 : decode cX9_account 170 = .ok (.getfield 58, 3) := by decide +kernel
theorem dX9_account_173 : decode cX9_account 173 = .ok (.ireturn, 1) := by decide +kernel
theorem dX9_account_174 : decode cX9_account 174 = .ok (.aload_n 0, 1) := by decide +kernel
theorem dX9_account_175 : decode cX9_account 175 = .ok (.getfield 43, 3) := by decide +kernel
theorem dX9_account_178 : decode cX9_account 178 = .ok (.getfield 392, 3) := by decide +kernel
theorem dX9_account_181 : decode cX9_account 181 = .ok (.ireturn, 1) := by decide +kernel
theorem dX9_account_182 : decode cX9_account 182 = .ok (.new 87, 3) := by decide +kernel
theorem dX9_account_185 : decode cX9_account 185 = .ok (.dup, 1) := by decide +kernel
theorem dX9_account_186 : decode cX9_account 186 = .ok (.ldc_w 393, 3) := by decide +kernel
theorem dX9_account_189 : decode cX9_account 189 = .ok (.invokespecial 91, 3) := by decide +kernel
theorem dX9_account_192 : decode cX9_account 192 = .ok (.athrow, 1) := by decide +kernel
theorem dX9_meanDepth_0 : decode cX9_meanDepth 0 = .ok (.aload_n 0, 1) := by decide +kernel
theorem dX9_meanDepth_1 : decode cX9_meanDepth 1 = .ok (.getfield 20, 3) := by decide +kernel
theorem dX9_meanDepth_4 : decode cX9_meanDepth 4 = .ok (.getfield 280, 3) := by decide +kernel
theorem dX9_meanDepth_7 : decode cX9_meanDepth 7 = .ok (.ifCond .ne 14, 3) := by decide +kernel
theorem dX9_meanDepth_10 : decode cX9_meanDepth 10 = .ok (.new 395, 3) := by decide +kernel
theorem dX9_meanDepth_13 : decode cX9_meanDepth 13 = .ok (.dup, 1) := by decide +kernel
theorem dX9_meanDepth_14 : decode cX9_meanDepth 14 = .ok (.ldc_w 397, 3) := by decide +kernel
theorem dX9_meanDepth_17 : decode cX9_meanDepth 17 = .ok (.invokespecial 399, 3) := by decide +kernel
theorem dX9_meanDepth_20 : decode cX9_meanDepth 20 = .ok (.athrow, 1) := by decide +kernel
theorem dX9_meanDepth_21 : decode cX9_meanDepth 21 = .ok (.aload_n 0, 1) := by decide +kernel
theorem dX9_meanDepth_22 : decode cX9_meanDepth 22 = .ok (.getfield 20, 3) := by decide +kernel
theorem dX9_meanDepth_25 : decode cX9_meanDepth 25 = .ok (.invokevirtual 400, 3) := by decide +kernel
theorem dX9_meanDepth_28 : decode cX9_meanDepth 28 = .ok (.i2d, 1) := by decide +kernel
theorem dX9_meanDepth_29 : decode cX9_meanDepth 29 = .ok (.aload_n 0, 1) := by decide +kernel
theorem dX9_meanDepth_30 : decode cX9_meanDepth 30 = .ok (.getfield 20, 3) := by decide +kernel
theorem dX9_meanDepth_33 : decode cX9_meanDepth 33 = .ok (.getfield 280, 3) := by decide +kernel
theorem dX9_meanDepth_36 : decode cX9_meanDepth 36 = .ok (.i2d, 1) := by decide +kernel
theorem dX9_meanDepth_37 : decode cX9_meanDepth 37 = .ok (.ddiv, 1) := by decide +kernel
theorem dX9_meanDepth_38 : decode cX9_meanDepth 38 = .ok (.dreturn, 1) := by decide +kernel
theorem dX9_ownedShare_0 : decode cX9_ownedShare 0 = .ok (.aload_n 0, 1) := by decide +kernel
theorem dX9_ownedShare_1 : decode cX9_ownedShare 1 = .ok (.getfield 50, 3) := by decide +kernel
theorem dX9_ownedShare_4 : decode cX9_ownedShare 4 = .ok (.aload_n 0, 1) := by decide +kernel
theorem dX9_ownedShare_5 : decode cX9_ownedShare 5 = .ok (.getfield 20, 3) := by decide +kernel
theorem dX9_ownedShare_8 : decode cX9_ownedShare 8 = .ok (.iconst 0, 1) := by decide +kernel
theorem dX9_ownedShare_9 : decode cX9_ownedShare 9 = .ok (.invokevirtual 176, 3) := by decide +kernel
theorem dX9_ownedShare_12 : decode cX9_ownedShare 12 = .ok (.aload_n 0, 1) := by decide +kernel
theorem dX9_ownedShare_13 : decode cX9_ownedShare 13 = .ok (.getfield 50, 3) := by decide +kernel
theorem dX9_ownedShare_16 : decode cX9_ownedShare 16 = .ok (.invokevirtual 386, 3) := by decide +kernel
theorem dX9_ownedShare_19 : decode cX9_ownedShare 19 = .ok (.i2f, 1) := by decide +kernel
theorem dX9_ownedShare_20 : decode cX9_ownedShare 20 = .ok (.ldc_w 403, 3) := by decide +kernel
theorem dX9_ownedShare_23 : decode cX9_ownedShare 23 = .ok (.fdiv, 1) := by decide +kernel
theorem dX9_ownedShare_24 : decode cX9_ownedShare 24 = .ok (.freturn, 1) := by decide +kernel
theorem dX9_undo_0 : decode cX9_undo 0 = .ok (.aload_n 0, 1) := by decide +kernel
theorem dX9_undo_1 : decode cX9_undo 1 = .ok (.getfield 43, 3) := by decide +kernel
theorem dX9_undo_4 : decode cX9_undo 4 = .ok (.getfield 392, 3) := by decide +kernel
theorem dX9_undo_7 : decode cX9_undo 7 = .ok (.ifCond .ne 14, 3) := by decide +kernel
theorem dX9_undo_10 : decode cX9_undo 10 = .ok (.new 303, 3) := by decide +kernel
theorem dX9_undo_13 : decode cX9_undo 13 = .ok (.dup, 1) := by decide +kernel
theorem dX9_undo_14 : decode cX9_undo 14 = .ok (.ldc_w 404, 3) := by decide +kernel
theorem dX9_undo_17 : decode cX9_undo 17 = .ok (.invokespecial 307, 3) := by decide +kernel
theorem dX9_undo_20 : decode cX9_undo 20 = .ok (.athrow, 1) := by decide +kernel
theorem dX9_undo_21 : decode cX9_undo 21 = .ok (.aload_n 0, 1) := by decide +kernel
theorem dX9_undo_22 : decode cX9_undo 22 = .ok (.getfield 43, 3) := by decide +kernel
theorem dX9_undo_25 : decode cX9_undo 25 = .ok (.aload_n 0, 1) := by decide +kernel
theorem dX9_undo_26 : decode cX9_undo 26 = .ok (.getfield 20, 3) := by decide +kernel
theorem dX9_undo_29 : decode cX9_undo 29 = .ok (.invokevirtual 406, 3) := by decide +kernel
theorem dX9_undo_32 : decode cX9_undo 32 = .ok (.aload_n 0, 1) := by decide +kernel
theorem dX9_undo_33 : decode cX9_undo 33 = .ok (.getfield 43, 3) := by decide +kernel
theorem dX9_undo_36 : decode cX9_undo 36 = .ok (.getfield 392, 3) := by decide +kernel
theorem dX9_undo_39 : decode cX9_undo 39 = .ok (.ireturn, 1) := by decide +kernel
theorem dX9_save_0 : decode cX9_save 0 = .ok (.aload_n 0, 1) := by decide +kernel
theorem dX9_save_1 : decode cX9_save 1 = .ok (.getfield 33, 3) := by decide +kernel
theorem dX9_save_4 : decode cX9_save 4 = .ok (.aload_n 0, 1) := by decide +kernel
theorem dX9_save_5 : decode cX9_save 5 = .ok (.getfield 20, 3) := by decide +kernel
theorem dX9_save_8 : decode cX9_save 8 = .ok (.invokevirtual 409, 3) := by decide +kernel
theorem dX9_save_11 : decode cX9_save 11 = .ok (.aload_n 0, 1) := by decide +kernel
theorem dX9_save_12 : decode cX9_save 12 = .ok (.iconst 1, 1) := by decide +kernel
theorem dX9_save_13 : decode cX9_save 13 = .ok (.putfield 36, 3) := by decide +kernel
theorem dX9_save_16 : decode cX9_save 16 = .ok (.aload_n 0, 1) := by decide +kernel
theorem dX9_save_17 : decode cX9_save 17 = .ok (.getfield 20, 3) := by decide +kernel
theorem dX9_save_20 : decode cX9_save 20 = .ok (.getfield 280, 3) := by decide +kernel
theorem dX9_save_23 : decode cX9_save 23 = .ok (.ireturn, 1) := by decide +kernel
theorem dX9_restore_0 : decode cX9_restore 0 = .ok (.aload_n 0, 1) := by decide +kernel
theorem dX9_restore_1 : decode cX9_restore 1 = .ok (.getfield 36, 3) := by decide +kernel
theorem dX9_restore_4 : decode cX9_restore 4 = .ok (.ifCond .ne 14, 3) := by decide +kernel
theorem dX9_restore_7 : decode cX9_restore 7 = .ok (.new 303, 3) := by decide +kernel
theorem dX9_restore_10 : decode cX9_restore 10 = .ok (.dup, 1) := by decide +kernel
theorem dX9_restore_11 : decode cX9_restore 11 = .ok (.ldc_w 412, 3) := by decide +kernel
theorem dX9_restore_14 : decode cX9_restore 14 = .ok (.invokespecial 307, 3) := by decide +kernel
theorem dX9_restore_17 : decode cX9_restore 17 = .ok (.athrow, 1) := by decide +kernel
theorem dX9_restore_18 : decode cX9_restore 18 = .ok (.aload_n 0, 1) := by decide +kernel
theorem dX9_restore_19 : decode cX9_restore 19 = .ok (.getfield 20, 3) := by decide +kernel
theorem dX9_restore_22 : decode cX9_restore 22 = .ok (.aload_n 0, 1) := by decide +kernel
theorem dX9_restore_23 : decode cX9_restore 23 = .ok (.getfield 33, 3) := by decide +kernel
theorem dX9_restore_26 : decode cX9_restore 26 = .ok (.invokevirtual 409, 3) := by decide +kernel
theorem dX9_restore_29 : decode cX9_restore 29 = .ok (.aload_n 0, 1) := by decide +kernel
theorem dX9_restore_30 : decode cX9_restore 30 = .ok (.getfield 43, 3) := by decide +kernel
theorem dX9_restore_33 : decode cX9_restore 33 = .ok (.invokevirtual 414, 3) := by decide +kernel
theorem dX9_restore_36 : decode cX9_restore 36 = .ok (.aload_n 0, 1) := by decide +kernel
theorem dX9_restore_37 : decode cX9_restore 37 = .ok (.getfield 20, 3) := by decide +kernel
theorem dX9_restore_40 : decode cX9_restore 40 = .ok (.getfield 280, 3) := by decide +kernel
theorem dX9_restore_43 : decode cX9_restore 43 = .ok (.ireturn, 1) := by decide +kernel
theorem dX9_carryOut_0 : decode cX9_carryOut 0 = .ok (.aload_n 0, 1) := by decide +kernel
theorem dX9_carryOut_1 : decode cX9_carryOut 1 = .ok (.getfield 65, 3) := by decide +kernel
theorem dX9_carryOut_4 : decode cX9_carryOut 4 = .ok (.getfield 415, 3) := by decide +kernel
theorem dX9_carryOut_7 : decode cX9_carryOut 7 = .ok (.iload_n 1, 1) := by decide +kernel
theorem dX9_carryOut_8 : decode cX9_carryOut 8 = .ok (.invokestatic 217, 3) := by decide +kernel
theorem dX9_carryOut_11 : decode cX9_carryOut 11 = .ok (.istore_n 2, 1) := by decide +kernel
theorem dX9_carryOut_12 : decode cX9_carryOut 12 = .ok (.aload_n 0, 1) := by decide +kernel
theorem dX9_carryOut_13 : decode cX9_carryOut 13 = .ok (.getfield 65, 3) := by decide +kernel
theorem dX9_carryOut_16 : decode cX9_carryOut 16 = .ok (.getfield 418, 3) := by decide +kernel
theorem dX9_carryOut_19 : decode cX9_carryOut 19 = .ok (.iload_n 1, 1) := by decide +kernel
theorem dX9_carryOut_20 : decode cX9_carryOut 20 = .ok (.invokestatic 217, 3) := by decide +kernel
theorem dX9_carryOut_23 : decode cX9_carryOut 23 = .ok (.istore_n 3, 1) := by decide +kernel
theorem dX9_carryOut_24 : decode cX9_carryOut 24 = .ok (.aload_n 0, 1) := by decide +kernel
theorem dX9_carryOut_25 : decode cX9_carryOut 25 = .ok (.getfield 65, 3) := by decide +kernel
theorem dX9_carryOut_28 : decode cX9_carryOut 28 = .ok (.getfield 421, 3) := by decide +kernel
theorem dX9_carryOut_31 : decode cX9_carryOut 31 = .ok (.iload_n 1, 1) := by decide +kernel
theorem dX9_carryOut_32 : decode cX9_carryOut 32 = .ok (.invokestatic 217, 3) := by decide +kernel
theorem dX9_carryOut_35 : decode cX9_carryOut 35 = .ok (.istore 4, 2) := by decide +kernel
theorem dX9_carryOut_37 : decode cX9_carryOut 37 = .ok (.aload_n 0, 1) := by decide +kernel
theorem dX9_carryOut_38 : decode cX9_carryOut 38 = .ok (.getfield 65, 3) := by decide +kernel
theorem dX9_carryOut_41 : decode cX9_carryOut 41 = .ok (.getfield 424, 3) := by decide +kernel
theorem dX9_carryOut_44 : decode cX9_carryOut 44 = .ok (.iload_n 1, 1) := by decide +kernel
theorem dX9_carryOut_45 : decode cX9_carryOut 45 = .ok (.invokestatic 217, 3) := by decide +kernel
theorem dX9_carryOut_48 : decode cX9_carryOut 48 = .ok (.tableswitch 120 0 6 #[44, 53, 65, 77, 89, 101, 110], 44) := by decide +kernel
theorem dX9_carryOut_92 : decode cX9_carryOut 92 = .ok (.aload_n 0, 1) := by decide +kernel
theorem dX9_carryOut_93 : decode cX9_carryOut 93 = .ok (.getfield 12, 3) := by decide +kernel
theorem dX9_carryOut_96 : decode cX9_carryOut 96 = .ok (.iload_n 2, 1) := by decide +kernel
theorem dX9_carryOut_97 : decode cX9_carryOut 97 = .ok (.invokevirtual 83, 3) := by decide +kernel
theorem dX9_carryOut_100 : decode cX9_carryOut 100 = .ok (.ireturn, 1) := by decide +kernel
theorem dX9_carryOut_101 : decode cX9_carryOut 101 = .ok (.aload_n 0, 1) := by decide +kernel
theorem dX9_carryOut_102 : decode cX9_carryOut 102 = .ok (.getfield 12, 3) := by decide +kernel
theorem dX9_carryOut_105 : decode cX9_carryOut 105 = .ok (.iload_n 2, 1) := by decide +kernel
theorem dX9_carryOut_106 : decode cX9_carryOut 106 = .ok (.iload_n 3, 1) := by decide +kernel
theorem dX9_carryOut_107 : decode cX9_carryOut 107 = .ok (.iload 4, 2) := by decide +kernel
theorem dX9_carryOut_109 : decode cX9_carryOut 109 = .ok (.invokevirtual 102, 3) := by decide +kernel
theorem dX9_carryOut_112 : decode cX9_carryOut 112 = .ok (.ireturn, 1) := by decide +kernel
theorem dX9_carryOut_113 : decode cX9_carryOut 113 = .ok (.aload_n 0, 1) := by decide +kernel
theorem dX9_carryOut_114 : decode cX9_carryOut 114 = .ok (.getfield 12, 3) := by decide +kernel
theorem dX9_carryOut_117 : decode cX9_carryOut 117 = .ok (.iload_n 2, 1) := by decide +kernel
theorem dX9_carryOut_118 : decode cX9_carryOut 118 = .ok (.iload_n 3, 1) := by decide +kernel
theorem dX9_carryOut_119 : decode cX9_carryOut 119 = .ok (.iload 4, 2) := by decide +kernel
theorem dX9_carryOut_121 : decode cX9_carryOut 121 = .ok (.invokevirtual 113, 3) := by decide +kernel
theorem dX9_carryOut_124 : decode cX9_carryOut 124 = .ok (.ireturn, 1) := by decide +kernel
theorem dX9_carryOut_125 : decode cX9_carryOut 125 = .ok (.aload_n 0, 1) := by decide +kernel
theorem dX9_carryOut_126 : decode cX9_carryOut 126 = .ok (.getfield 12, 3) := by decide +kernel
theorem dX9_carryOut_129 : decode cX9_carryOut 129 = .ok (.iload_n 2, 1) := by decide +kernel
theorem dX9_carryOut_130 : decode cX9_carryOut 130 = .ok (.iload_n 3, 1) := by decide +kernel
theorem dX9_carryOut_131 : decode cX9_carryOut 131 = .ok (.iload 4, 2) := by decide +kernel
theorem dX9_carryOut_133 : decode cX9_carryOut 133 = .ok (.invokevirtual 118, 3) := by decide +kernel
theorem dX9_carryOut_136 : decode cX9_carryOut 136 = .ok (.ireturn, 1) := by decide +kernel
theorem dX9_carryOut_137 : decode cX9_carryOut 137 = .ok (.aload_n 0, 1) := by decide +kernel
theorem dX9_carryOut_138 : decode cX9_carryOut 138 = .ok (.getfield 12, 3) := by decide +kernel
theorem dX9_carryOut_141 : decode cX9_carryOut 141 = .ok (.iload_n 2, 1) := by decide +kernel
theorem dX9_carryOut_142 : decode cX9_carryOut 142 = .ok (.iload_n 3, 1) := by decide +kernel
theorem dX9_carryOut_143 : decode cX9_carryOut 143 = .ok (.iload 4, 2) := by decide +kernel
theorem dX9_carryOut_145 : decode cX9_carryOut 145 = .ok (.invokevirtual 125, 3) := by decide +kernel
theorem dX9_carryOut_148 : decode cX9_carryOut 148 = .ok (.ireturn, 1) := by decide +kernel
theorem dX9_carryOut_149 : decode cX9_carryOut 149 = .ok (.aload_n 0, 1) := by decide +kernel
theorem dX9_carryOut_150 : decode cX9_carryOut 150 = .ok (.getfield 12, 3) := by decide +kernel
theorem dX9_carryOut_153 : decode cX9_carryOut 153 = .ok (.iload_n 2, 1) := by decide +kernel
theorem dX9_carryOut_154 : decode cX9_carryOut 154 = .ok (.invokevirtual 132, 3) := by decide +kernel
theorem dX9_carryOut_157 : decode cX9_carryOut 157 = .ok (.ireturn, 1) := by decide +kernel
theorem dX9_carryOut_158 : decode cX9_carryOut 158 = .ok (.aload_n 0, 1) := by decide +kernel
theorem dX9_carryOut_159 : decode cX9_carryOut 159 = .ok (.getfield 12, 3) := by decide +kernel
theorem dX9_carryOut_162 : decode cX9_carryOut 162 = .ok (.iload_n 2, 1) := by decide +kernel
theorem dX9_carryOut_163 : decode cX9_carryOut 163 = .ok (.iload_n 3, 1) := by decide +kernel
theorem dX9_carryOut_164 : decode cX9_carryOut 164 = .ok (.invokevirtual 135, 3) := by decide +kernel
theorem dX9_carryOut_167 : decode cX9_carryOut 167 = .ok (.ireturn, 1) := by decide +kernel
theorem dX9_carryOut_168 : decode cX9_carryOut 168 = .ok (.aload_n 0, 1) := by decide +kernel
theorem dX9_carryOut_169 : decode cX9_carryOut 169 = .ok (.getfield 12, 3) := by decide +kernel
theorem dX9_carryOut_172 : decode cX9_carryOut 172 = .ok (.iload_n 2, 1) := by decide +kernel
theorem dX9_carryOut_173 : decode cX9_carryOut 173 = .ok (.invokevirtual 139, 3) := by decide +kernel
theorem dX9_carryOut_176 : decode cX9_carryOut 176 = .ok (.ireturn, 1) := by decide +kernel
theorem dX9_sleepersAheadOf_0 : decode cX9_sleepersAheadOf 0 = .ok (.iconst 0, 1) := by decide +kernel
theorem dX9_sleepersAheadOf_1 : decode cX9_sleepersAheadOf 1 = .ok (.istore_n 2, 1) := by decide +kernel
theorem dX9_sleepersAheadOf_2 : decode cX9_sleepersAheadOf 2 = .ok (.iconst 0, 1) := by decide +kernel
theorem dX9_sleepersAheadOf_3 : decode cX9_sleepersAheadOf 3 = .ok (.istore_n 3, 1) := by decide +kernel
theorem dX9_sleepersAheadOf_4 : decode cX9_sleepersAheadOf 4 = .ok (.iload_n 3, 1) := by decide +kernel
theorem dX9_sleepersAheadOf_5 : decode cX9_sleepersAheadOf 5 = .ok (.aload_n 0, 1) := by decide +kernel
theorem dX9_sleepersAheadOf_6 : decode cX9_sleepersAheadOf 6 = .ok (.getfield 20, 3) := by decide +kernel
theorem dX9_sleepersAheadOf_9 : decode cX9_sleepersAheadOf 9 = .ok (.getfield 280, 3) := by decide +kernel
theorem dX9_sleepersAheadOf_12 : decode cX9_sleepersAheadOf 12 = .ok (.if_icmp .ge 21, 3) := by decide +kernel
theorem dX9_sleepersAheadOf_15 : decode cX9_sleepersAheadOf 15 = .ok (.aload_n 0, 1) := by decide +kernel
theorem dX9_sleepersAheadOf_16 : decode cX9_sleepersAheadOf 16 = .ok (.iload_n 3, 1) := by decide +kernel
theorem dX9_sleepersAheadOf_17 : decode cX9_sleepersAheadOf 17 = .ok (.iload_n 1, 1) := by decide +kernel
theorem dX9_sleepersAheadOf_18 : decode cX9_sleepersAheadOf 18 = .ok (.invokevirtual 427, 3) := by decide +kernel
theorem dX9_sleepersAheadOf_21 : decode cX9_sleepersAheadOf 21 = .ok (.ifCond .eq 6, 3) := by decide +kernel
theorem dX9_sleepersAheadOf_24 : decode cX9_sleepersAheadOf 24 = .ok (.iinc 2 1, 3) := by decide +kernel
theorem dX9_sleepersAheadOf_27 : decode cX9_sleepersAheadOf 27 = .ok (.iinc 3 1, 3) := by decide +kernel
theorem dX9_sleepersAheadOf_30 : decode cX9_sleepersAheadOf 30 = .ok (.goto (-26), 3) := by decide +kernel
theorem dX9_sleepersAheadOf_33 : decode cX9_sleepersAheadOf 33 = .ok (.iload_n 2, 1) := by decide +kernel
theorem dX9_sleepersAheadOf_34 : decode cX9_sleepersAheadOf 34 = .ok (.ireturn, 1) := by decide +kernel
theorem dX9_isAhead_0 : decode cX9_isAhead 0 = .ok (.aload_n 0, 1) := by decide +kernel
theorem dX9_isAhead_1 : decode cX9_isAhead 1 = .ok (.getfield 50, 3) := by decide +kernel
theorem dX9_isAhead_4 : decode cX9_isAhead 4 = .ok (.iload_n 1, 1) := by decide +kernel
theorem dX9_isAhead_5 : decode cX9_isAhead 5 = .ok (.invokevirtual 180, 3) := by decide +kernel
theorem dX9_isAhead_8 : decode cX9_isAhead 8 = .ok (.aload_n 0, 1) := by decide +kernel
theorem dX9_isAhead_9 : decode cX9_isAhead 9 = .ok (.getfield 50, 3) := by decide +kernel
theorem dX9_isAhead_12 : decode cX9_isAhead 12 = .ok (.iload_n 2, 1) := by decide +kernel
theorem dX9_isAhead_13 : decode cX9_isAhead 13 = .ok (.invokevirtual 180, 3) := by decide +kernel
theorem dX9_isAhead_16 : decode cX9_isAhead 16 = .ok (.isub, 1) := by decide +kernel
theorem dX9_isAhead_17 : decode cX9_isAhead 17 = .ok (.istore_n 3, 1) := by decide +kernel
theorem dX9_isAhead_18 : decode cX9_isAhead 18 = .ok (.iload_n 3, 1) := by decide +kernel
theorem dX9_isAhead_19 : decode cX9_isAhead 19 = .ok (.ifCond .eq 13, 3) := by decide +kernel
theorem dX9_isAhead_22 : decode cX9_isAhead 22 = .ok (.iload_n 3, 1) := by decide +kernel
theorem dX9_isAhead_23 : decode cX9_isAhead 23 = .ok (.ifCond .le 7, 3) := by decide +kernel
theorem dX9_isAhead_26 : decode cX9_isAhead 26 = .ok (.iconst 1, 1) := by decide +kernel
theorem dX9_isAhead_27 : decode cX9_isAhead 27 = .ok (.goto 4, 3) := by decide +kernel
theorem dX9_isAhead_30 : decode cX9_isAhead 30 = .ok (.iconst 0, 1) := by decide +kernel
theorem dX9_isAhead_31 : decode cX9_isAhead 31 = .ok (.ireturn, 1) := by decide +kernel
theorem dX9_isAhead_32 : decode cX9_isAhead 32 = .ok (.aload_n 0, 1) := by decide +kernel
theorem dX9_isAhead_33 : decode cX9_isAhead 33 = .ok (.getfield 20, 3) := by decide +kernel
theorem dX9_isAhead_36 : decode cX9_isAhead 36 = .ok (.iload_n 1, 1) := by decide +kernel
theorem dX9_isAhead_37 : decode cX9_isAhead 37 = .ok (.invokevirtual 152, 3) := by decide +kernel
theorem dX9_isAhead_40 : decode cX9_isAhead 40 = .ok (.aload_n 0, 1) := by decide +kernel
theorem dX9_isAhead_41 : decode cX9_isAhead 41 = .ok (.getfield 20, 3) := by decide +kernel
theorem dX9_isAhead_44 : decode cX9_isAhead 44 = .ok (.iload_n 2, 1) := by decide +kernel
theorem dX9_isAhead_45 : decode cX9_isAhead 45 = .ok (.invokevirtual 152, 3) := by decide +kernel
theorem dX9_isAhead_48 : decode cX9_isAhead 48 = .ok (.isub, 1) := by decide +kernel
theorem dX9_isAhead_49 : decode cX9_isAhead 49 = .ok (.istore 4, 2) := by decide +kernel
theorem dX9_isAhead_51 : decode cX9_isAhead 51 = .ok (.iload 4, 2) := by decide +kernel
theorem dX9_isAhead_53 : decode cX9_isAhead 53 = .ok (.ifCond .eq 16, 3) := by decide +kernel
theorem dX9_isAhead_56 : decode cX9_isAhead 56 = .ok (.iload 4, 2) := by decide +kernel
theorem dX9_isAhead_58 : decode cX9_isAhead 58 = .ok (.ifCond .le 7, 3) := by decide +kernel
theorem dX9_isAhead_61 : decode cX9_isAhead 61 = .ok (.iconst 1, 1) := by decide +kernel
theorem dX9_isAhead_62 : decode cX9_isAhead 62 = .ok (.goto 17, 3) := by decide +kernel
theorem dX9_isAhead_65 : decode cX9_isAhead 65 = .ok (.iconst 0, 1) := by decide +kernel
theorem dX9_isAhead_66 : decode cX9_isAhead 66 = .ok (.goto 13, 3) := by decide +kernel
theorem dX9_isAhead_69 : decode cX9_isAhead 69 = .ok (.iload_n 1, 1) := by decide +kernel
theorem dX9_isAhead_70 : decode cX9_isAhead 70 = .ok (.iload_n 2, 1) := by decide +kernel
theorem dX9_isAhead_71 : decode cX9_isAhead 71 = .ok (.if_icmp .ge 7, 3) := by decide +kernel
theorem dX9_isAhead_74 : decode cX9_isAhead 74 = .ok (.iconst 1, 1) := by decide +kernel
theorem dX9_isAhead_75 : decode cX9_isAhead 75 = .ok (.goto 4, 3) := by decide +kernel
theorem dX9_isAhead_78 : decode cX9_isAhead 78 = .ok (.iconst 0, 1) := by decide +kernel
theorem dX9_isAhead_79 : decode cX9_isAhead 79 = .ok (.ireturn, 1) := by decide +kernel
theorem dX9_areAreasAlike_0 : decode cX9_areAreasAlike 0 = .ok (.iconst 0, 1) := by decide +kernel
theorem dX9_areAreasAlike_1 : decode cX9_areAreasAlike 1 = .ok (.istore_n 1, 1) := by decide +kernel
theorem dX9_areAreasAlike_2 : decode cX9_areAreasAlike 2 = .ok (.iload_n 1, 1) := by decide +kernel
theorem dX9_areAreasAlike_3 : decode cX9_areAreasAlike 3 = .ok (.aload_n 0, 1) := by decide +kernel
theorem dX9_areAreasAlike_4 : decode cX9_areAreasAlike 4 = .ok (.getfield 20, 3) := by decide +kernel
theorem dX9_areAreasAlike_7 : decode cX9_areAreasAlike 7 = .ok (.getfield 280, 3) := by decide +kernel
theorem dX9_areAreasAlike_10 : decode cX9_areAreasAlike 10 = .ok (.if_icmp .ge 31, 3) := by decide +kernel
theorem dX9_areAreasAlike_13 : decode cX9_areAreasAlike 13 = .ok (.aload_n 0, 1) := by decide +kernel
theorem dX9_areAreasAlike_14 : decode cX9_areAreasAlike 14 = .ok (.getfield 20, 3) := by decide +kernel
theorem dX9_areAreasAlike_17 : decode cX9_areAreasAlike 17 = .ok (.iload_n 1, 1) := by decide +kernel
theorem dX9_areAreasAlike_18 : decode cX9_areAreasAlike 18 = .ok (.invokevirtual 148, 3) := by decide +kernel
theorem dX9_areAreasAlike_21 : decode cX9_areAreasAlike 21 = .ok (.astore_n 2, 1) := by decide +kernel
theorem dX9_areAreasAlike_22 : decode cX9_areAreasAlike 22 = .ok (.aload_n 2, 1) := by decide +kernel
theorem dX9_areAreasAlike_23 : decode cX9_areAreasAlike 23 = .ok (.invokevirtual 247, 3) := by decide +kernel
theorem dX9_areAreasAlike_26 : decode cX9_areAreasAlike 26 = .ok (.aload_n 2, 1) := by decide +kernel
theorem dX9_areAreasAlike_27 : decode cX9_areAreasAlike 27 = .ok (.invokevirtual 250, 3) := by decide +kernel
theorem dX9_areAreasAlike_30 : decode cX9_areAreasAlike 30 = .ok (.if_icmp .eq 5, 3) := by decide +kernel
theorem dX9_areAreasAlike_33 : decode cX9_areAreasAlike 33 = .ok (.iconst 0, 1) := by decide +kernel
theorem dX9_areAreasAlike_34 : decode cX9_areAreasAlike 34 = .ok (.ireturn, 1) := by decide +kernel
theorem dX9_areAreasAlike_35 : decode cX9_areAreasAlike 35 = .ok (.iinc 1 1, 3) := by decide +kernel
theorem dX9_areAreasAlike_38 : decode cX9_areAreasAlike 38 = .ok (.goto (-36), 3) := by decide +kernel
theorem dX9_areAreasAlike_41 : decode cX9_areAreasAlike 41 = .ok (.iconst 1, 1) := by decide +kernel
theorem dX9_areAreasAlike_42 : decode cX9_areAreasAlike 42 = .ok (.ireturn, 1) := by decide +kernel
theorem dX9_areBordersAlike_0 : decode cX9_areBordersAlike 0 = .ok (.iconst 0, 1) := by decide +kernel
theorem dX9_areBordersAlike_1 : decode cX9_areBordersAlike 1 = .ok (.istore_n 1, 1) := by decide +kernel
theorem dX9_areBordersAlike_2 : decode cX9_areBordersAlike 2 = .ok (.iload_n 1, 1) := by decide +kernel
theorem dX9_areBordersAlike_3 : decode cX9_areBordersAlike 3 = .ok (.aload_n 0, 1) := by decide +kernel
theorem dX9_areBordersAlike_4 : decode cX9_areBordersAlike 4 = .ok (.getfield 20, 3) := by decide +kernel
theorem dX9_areBordersAlike_7 : decode cX9_areBordersAlike 7 = .ok (.getfield 280, 3) := by decide +kernel
theorem dX9_areBordersAlike_10 : decode cX9_areBordersAlike 10 = .ok (.if_icmp .ge 51, 3) := by decide +kernel
theorem dX9_areBordersAlike_13 : decode cX9_areBordersAlike 13 = .ok (.iconst 0, 1) := by decide +kernel
theorem dX9_areBordersAlike_14 : decode cX9_areBordersAlike 14 = .ok (.istore_n 2, 1) := by decide +kernel
theorem dX9_areBordersAlike_15 : decode cX9_areBordersAlike 15 = .ok (.iload_n 2, 1) := by decide +kernel
theorem dX9_areBordersAlike_16 : decode cX9_areBordersAlike 16 = .ok (.aload_n 0, 1) := by decide +kernel
theorem dX9_areBordersAlike_17 : decode cX9_areBordersAlike 17 = .ok (.getfield 20, 3) := by decide +kernel
theorem dX9_areBordersAlike_20 : decode cX9_areBordersAlike 20 = .ok (.getfield 280, 3) := by decide +kernel
theorem dX9_areBordersAlike_23 : decode cX9_areBordersAlike 23 = .ok (.if_icmp .ge 32, 3) := by decide +kernel
theorem dX9_areBordersAlike_26 : decode cX9_areBordersAlike 26 = .ok (.aload_n 0, 1) := by decide +kernel
theorem dX9_areBordersAlike_27 : decode cX9_areBordersAlike 27 = .ok (.getfield 50, 3) := by decide +kernel
theorem dX9_areBordersAlike_30 : decode cX9_areBordersAlike 30 = .ok (.iload_n 1, 1) := by decide +kernel
theorem dX9_areBordersAlike_31 : decode cX9_areBordersAlike 31 = .ok (.iload_n 2, 1) := by decide +kernel
theorem dX9_areBordersAlike_32 : decode cX9_areBordersAlike 32 = .ok (.invokevirtual 253, 3) := by decide +kernel
theorem dX9_areBordersAlike_35 : decode cX9_areBordersAlike 35 = .ok (.aload_n 0, 1) := by decide +kernel
theorem dX9_areBordersAlike_36 : decode cX9_areBordersAlike 36 = .ok (.getfield 50, 3) := by decide +kernel
theorem dX9_areBordersAlike_39 : decode cX9_areBordersAlike 39 = .ok (.iload_n 1, 1) := by decide +kernel
theorem dX9_areBordersAlike_40 : decode cX9_areBordersAlike 40 = .ok (.iload_n 2, 1) := by decide +kernel
theorem dX9_areBordersAlike_41 : decode cX9_areBordersAlike 41 = .ok (.invokevirtual 256, 3) := by decide +kernel
theorem dX9_areBordersAlike_44 : decode cX9_areBordersAlike 44 = .ok (.if_icmp .eq 5, 3) := by decide +kernel
theorem dX9_areBordersAlike_47 : decode cX9_areBordersAlike 47 = .ok (.iconst 0, 1) := by decide +kernel
theorem dX9_areBordersAlike_48 : decode cX9_areBordersAlike 48 = .ok (.ireturn, 1) := by decide +kernel
theorem dX9_areBordersAlike_49 : decode cX9_areBordersAlike 49 = .ok (.iinc 2 1, 3) := by decide +kernel
theorem dX9_areBordersAlike_52 : decode cX9_areBordersAlike 52 = .ok (.goto (-37), 3) := by decide +kernel
theorem dX9_areBordersAlike_55 : decode cX9_areBordersAlike 55 = .ok (.iinc 1 1, 3) := by decide +kernel
theorem dX9_areBordersAlike_58 : decode cX9_areBordersAlike 58 = .ok (.goto (-56), 3) := by decide +kernel
theorem dX9_areBordersAlike_61 : decode cX9_areBordersAlike 61 = .ok (.iconst 1, 1) := by decide +kernel
theorem dX9_areBordersAlike_62 : decode cX9_areBordersAlike 62 = .ok (.ireturn, 1) := by decide +kernel
theorem dX9_areOwnersRight_0 : decode cX9_areOwnersRight 0 = .ok (.iconst 0, 1) := by decide +kernel
theorem dX9_areOwnersRight_1 : decode cX9_areOwnersRight 1 = .ok (.istore_n 1, 1) := by decide +kernel
theorem dX9_areOwnersRight_2 : decode cX9_areOwnersRight 2 = .ok (.iload_n 1, 1) := by decide +kernel
theorem dX9_areOwnersRight_3 : decode cX9_areOwnersRight 3 = .ok (.bipush 8, 2) := by decide +kernel
theorem dX9_areOwnersRight_5 : decode cX9_areOwnersRight 5 = .ok (.if_icmp .ge 67, 3) := by decide +kernel
theorem dX9_areOwnersRight_8 : decode cX9_areOwnersRight 8 = .ok (.iconst 0, 1) := by decide +kernel
theorem dX9_areOwnersRight_9 : decode cX9_areOwnersRight 9 = .ok (.istore_n 2, 1) := by decide +kernel
theorem dX9_areOwnersRight_10 : decode cX9_areOwnersRight 10 = .ok (.iload_n 2, 1) := by decide +kernel
theorem dX9_areOwnersRight_11 : decode cX9_areOwnersRight 11 = .ok (.bipush 12, 2) := by decide +kernel
theorem dX9_areOwnersRight_13 : decode cX9_areOwnersRight 13 = .ok (.if_icmp .ge 53, 3) := by decide +kernel
theorem dX9_areOwnersRight_16 : decode cX9_areOwnersRight 16 = .ok (.aload_n 0, 1) := by decide +kernel
theorem dX9_areOwnersRight_17 : decode cX9_areOwnersRight 17 = .ok (.getfield 50, 3) := by decide +kernel
theorem dX9_areOwnersRight_20 : decode cX9_areOwnersRight 20 = .ok (.iload_n 2, 1) := by decide +kernel
theorem dX9_areOwnersRight_21 : decode cX9_areOwnersRight 21 = .ok (.iload_n 1, 1) := by decide +kernel
theorem dX9_areOwnersRight_22 : decode cX9_areOwnersRight 22 = .ok (.invokevirtual 348, 3) := by decide +kernel
theorem dX9_areOwnersRight_25 : decode cX9_areOwnersRight 25 = .ok (.istore_n 3, 1) := by decide +kernel
theorem dX9_areOwnersRight_26 : decode cX9_areOwnersRight 26 = .ok (.iload_n 3, 1) := by decide +kernel
theorem dX9_areOwnersRight_27 : decode cX9_areOwnersRight 27 = .ok (.iconst (-1), 1) := by decide +kernel
theorem dX9_areOwnersRight_28 : decode cX9_areOwnersRight 28 = .ok (.if_icmp .eq 32, 3) := by decide +kernel
theorem dX9_areOwnersRight_31 : decode cX9_areOwnersRight 31 = .ok (.aload_n 0, 1) := by decide +kernel
theorem dX9_areOwnersRight_32 : decode cX9_areOwnersRight 32 = .ok (.getfield 20, 3) := by decide +kernel
theorem dX9_areOwnersRight_35 : decode cX9_areOwnersRight 35 = .ok (.iload_n 3, 1) := by decide +kernel
theorem dX9_areOwnersRight_36 : decode cX9_areOwnersRight 36 = .ok (.invokevirtual 152, 3) := by decide +kernel
theorem dX9_areOwnersRight_39 : decode cX9_areOwnersRight 39 = .ok (.ifCond .eq 19, 3) := by decide +kernel
theorem dX9_areOwnersRight_42 : decode cX9_areOwnersRight 42 = .ok (.aload_n 0, 1) := by decide +kernel
theorem dX9_areOwnersRight_43 : decode cX9_areOwnersRight 43 = .ok (.getfield 20, 3) := by decide +kernel
theorem dX9_areOwnersRight_46 : decode cX9_areOwnersRight 46 = .ok (.iload_n 3, 1) := by decide +kernel
theorem dX9_areOwnersRight_47 : decode cX9_areOwnersRight 47 = .ok (.invokevirtual 148, 3) := by decide +kernel
theorem dX9_areOwnersRight_50 : decode cX9_areOwnersRight 50 = .ok (.iload_n 2, 1) := by decide +kernel
theorem dX9_areOwnersRight_51 : decode cX9_areOwnersRight 51 = .ok (.iload_n 1, 1) := by decide +kernel
theorem dX9_areOwnersRight_52 : decode cX9_areOwnersRight 52 = .ok (.invokevirtual 244, 3) := by decide +kernel
theorem dX9_areOwnersRight_55 : decode cX9_areOwnersRight 55 = .ok (.ifCond .ne 5, 3) := by decide +kernel
theorem dX9_areOwnersRight_58 : decode cX9_areOwnersRight 58 = .ok (.iconst 0, 1) := by decide +kernel
theorem dX9_areOwnersRight_59 : decode cX9_areOwnersRight 59 = .ok (.ireturn, 1) := by decide +kernel
theorem dX9_areOwnersRight_60 : decode cX9_areOwnersRight 60 = .ok (.iinc 2 1, 3) := by decide +kernel
theorem dX9_areOwnersRight_63 : decode cX9_areOwnersRight 63 = .ok (.goto (-53), 3) := by decide +kernel
theorem dX9_areOwnersRight_66 : decode cX9_areOwnersRight 66 = .ok (.iinc 1 1, 3) := by decide +kernel
theorem dX9_areOwnersRight_69 : decode cX9_areOwnersRight 69 = .ok (.goto (-67), 3) := by decide +kernel
theorem dX9_areOwnersRight_72 : decode cX9_areOwnersRight 72 = .ok (.iconst 1, 1) := by decide +kernel
theorem dX9_areOwnersRight_73 : decode cX9_areOwnersRight 73 = .ok (.ireturn, 1) := by decide +kernel
theorem dX9_numberAt_0 : decode cX9_numberAt 0 = .ok (.iload_n 1, 1) := by decide +kernel
theorem dX9_numberAt_1 : decode cX9_numberAt 1 = .ok (.ifCond .lt 15, 3) := by decide +kernel
theorem dX9_numberAt_4 : decode cX9_numberAt 4 = .ok (.iload_n 1, 1) := by decide +kernel
theorem dX9_numberAt_5 : decode cX9_numberAt 5 = .ok (.aload_n 0, 1) := by decide +kernel
theorem dX9_numberAt_6 : decode cX9_numberAt 6 = .ok (.arraylength, 1) := by decide +kernel
theorem dX9_numberAt_7 : decode cX9_numberAt 7 = .ok (.if_icmp .ge 9, 3) := by decide +kernel
theorem dX9_numberAt_10 : decode cX9_numberAt 10 = .ok (.aload_n 0, 1) := by decide +kernel
theorem dX9_numberAt_11 : decode cX9_numberAt 11 = .ok (.iload_n 1, 1) := by decide +kernel
theorem dX9_numberAt_12 : decode cX9_numberAt 12 = .ok (.iaload, 1) := by decide +kernel
theorem dX9_numberAt_13 : decode cX9_numberAt 13 = .ok (.goto 4, 3) := by decide +kernel
theorem dX9_numberAt_16 : decode cX9_numberAt 16 = .ok (.iconst 0, 1) := by decide +kernel
theorem dX9_numberAt_17 : decode cX9_numberAt 17 = .ok (.ireturn, 1) := by decide +kernel
theorem dX9_setNumberAt_0 : decode cX9_setNumberAt 0 = .ok (.iload_n 1, 1) := by decide +kernel
theorem dX9_setNumberAt_1 : decode cX9_setNumberAt 1 = .ok (.ifCond .lt 13, 3) := by decide +kernel
theorem dX9_setNumberAt_4 : decode cX9_setNumberAt 4 = .ok (.iload_n 1, 1) := by decide +kernel
theorem dX9_setNumberAt_5 : decode cX9_setNumberAt 5 = .ok (.aload_n 0, 1) := by decide +kernel
theorem dX9_setNumberAt_6 : decode cX9_setNumberAt 6 = .ok (.arraylength, 1) := by decide +kernel
theorem dX9_setNumberAt_7 : decode cX9_setNumberAt 7 = .ok (.if_icmp .ge 7, 3) := by decide +kernel
theorem dX9_setNumberAt_10 : decode cX9_setNumberAt 10 = .ok (.aload_n 0, 1) := by decide +kernel
theorem dX9_setNumberAt_11 : decode cX9_setNumberAt 11 = .ok (.iload_n 1, 1) := by decide +kernel
theorem dX9_setNumberAt_12 : decode cX9_setNumberAt 12 = .ok (.iload_n 2, 1) := by decide +kernel
theorem dX9_setNumberAt_13 : decode cX9_setNumberAt 13 = .ok (.iastore, 1) := by decide +kernel
theorem dX9_setNumberAt_14 : decode cX9_setNumberAt 14 = .ok (.return_, 1) := by decide +kernel
theorem dX9_copyNumbers_0 : decode cX9_copyNumbers 0 = .ok (.aload_n 0, 1) := by decide +kernel
theorem dX9_copyNumbers_1 : decode cX9_copyNumbers 1 = .ok (.iconst 0, 1) := by decide +kernel
theorem dX9_copyNumbers_2 : decode cX9_copyNumbers 2 = .ok (.aload_n 1, 1) := by decide +kernel
theorem dX9_copyNumbers_3 : decode cX9_copyNumbers 3 = .ok (.iconst 0, 1) := by decide +kernel
theorem dX9_copyNumbers_4 : decode cX9_copyNumbers 4 = .ok (.aload_n 0, 1) := by decide +kernel
theorem dX9_copyNumbers_5 : decode cX9_copyNumbers 5 = .ok (.arraylength, 1) := by decide +kernel
theorem dX9_copyNumbers_6 : decode cX9_copyNumbers 6 = .ok (.aload_n 1, 1) := by decide +kernel
theorem dX9_copyNumbers_7 : decode cX9_copyNumbers 7 = .ok (.arraylength, 1) := by decide +kernel
theorem dX9_copyNumbers_8 : decode cX9_copyNumbers 8 = .ok (.invokestatic 430, 3) := by decide +kernel
theorem dX9_copyNumbers_11 : decode cX9_copyNumbers 11 = .ok (.invokestatic 435, 3) := by decide +kernel
theorem dX9_copyNumbers_14 : decode cX9_copyNumbers 14 = .ok (.return_, 1) := by decide +kernel
theorem dX9_isFrom_0 : decode cX9_isFrom 0 = .ok (.iload_n 0, 1) := by decide +kernel
theorem dX9_isFrom_1 : decode cX9_isFrom 1 = .ok (.iload_n 1, 1) := by decide +kernel
theorem dX9_isFrom_2 : decode cX9_isFrom 2 = .ok (.if_icmp .lt 12, 3) := by decide +kernel
theorem dX9_isFrom_5 : decode cX9_isFrom 5 = .ok (.iload_n 0, 1) := by decide +kernel
theorem dX9_isFrom_6 : decode cX9_isFrom 6 = .ok (.iload_n 2, 1) := by decide +kernel
theorem dX9_isFrom_7 : decode cX9_isFrom 7 = .ok (.if_icmp .gt 7, 3) := by decide +kernel
theorem dX9_isFrom_10 : decode cX9_isFrom 10 = .ok (.iconst 1, 1) := by decide +kernel
theorem dX9_isFrom_11 : decode cX9_isFrom 11 = .ok (.goto 4, 3) := by decide +kernel
theorem dX9_isFrom_14 : decode cX9_isFrom 14 = .ok (.iconst 0, 1) := by decide +kernel
theorem dX9_isFrom_15 : decode cX9_isFrom 15 = .ok (.ireturn, 1) := by decide +kernel
theorem dX9_isCell_0 : decode cX9_isCell 0 = .ok (.iload_n 0, 1) := by decide +kernel
theorem dX9_isCell_1 : decode cX9_isCell 1 = .ok (.iconst 0, 1) := by decide +kernel
theorem dX9_isCell_2 : decode cX9_isCell 2 = .ok (.bipush 11, 2) := by decide +kernel
theorem dX9_isCell_4 : decode cX9_isCell 4 = .ok (.invokestatic 276, 3) := by decide +kernel
theorem dX9_isCell_7 : decode cX9_isCell 7 = .ok (.ifCond .eq 17, 3) := by decide +kernel
theorem dX9_isCell_10 : decode cX9_isCell 10 = .ok (.iload_n 1, 1) := by decide +kernel
theorem dX9_isCell_11 : decode cX9_isCell 11 = .ok (.iconst 0, 1) := by decide +kernel
theorem dX9_isCell_12 : decode cX9_isCell 12 = .ok (.bipush 7, 2) := by decide +kernel
theorem dX9_isCell_14 : decode cX9_isCell 14 = .ok (.invokestatic 276, 3) := by decide +kernel
theorem dX9_isCell_17 : decode cX9_isCell 17 = .ok (.ifCond .eq 7, 3) := by decide +kernel
theorem dX9_isCell_20 : decode cX9_isCell 20 = .ok (.iconst 1, 1) := by decide +kernel
theorem dX9_isCell_21 : decode cX9_isCell 21 = .ok (.goto 4, 3) := by decide +kernel
theorem dX9_isCell_24 : decode cX9_isCell 24 = .ok (.iconst 0, 1) := by decide +kernel
theorem dX9_isCell_25 : decode cX9_isCell 25 = .ok (.ireturn, 1) := by decide +kernel
theorem dX9_isCorner_0 : decode cX9_isCorner 0 = .ok (.iload_n 0, 1) := by decide +kernel
theorem dX9_isCorner_1 : decode cX9_isCorner 1 = .ok (.iconst 0, 1) := by decide +kernel
theorem dX9_isCorner_2 : decode cX9_isCorner 2 = .ok (.bipush 12, 2) := by decide +kernel
theorem dX9_isCorner_4 : decode cX9_isCorner 4 = .ok (.invokestatic 276, 3) := by decide +kernel
theorem dX9_isCorner_7 : decode cX9_isCorner 7 = .ok (.ifCond .eq 17, 3) := by decide +kernel
theorem dX9_isCorner_10 : decode cX9_isCorner 10 = .ok (.iload_n 1, 1) := by decide +kernel
theorem dX9_isCorner_11 : decode cX9_isCorner 11 = .ok (.iconst 0, 1) := by decide +kernel
theorem dX9_isCorner_12 : decode cX9_isCorner 12 = .ok (.bipush 8, 2) := by decide +kernel
theorem dX9_isCorner_14 : decode cX9_isCorner 14 = .ok (.invokestatic 276, 3) := by decide +kernel
theorem dX9_isCorner_17 : decode cX9_isCorner 17 = .ok (.ifCond .eq 7, 3) := by decide +kernel
theorem dX9_isCorner_20 : decode cX9_isCorner 20 = .ok (.iconst 1, 1) := by decide +kernel
theorem dX9_isCorner_21 : decode cX9_isCorner 21 = .ok (.goto 4, 3) := by decide +kernel
theorem dX9_isCorner_24 : decode cX9_isCorner 24 = .ok (.iconst 0, 1) := by decide +kernel
theorem dX9_isCorner_25 : decode cX9_isCorner 25 = .ok (.ireturn, 1) := by decide +kernel
theorem dX9_stepX_0 : decode cX9_stepX 0 = .ok (.iload_n 0, 1) := by decide +kernel
theorem dX9_stepX_1 : decode cX9_stepX 1 = .ok (.iconst 1, 1) := by decide +kernel
theorem dX9_stepX_2 : decode cX9_stepX 2 = .ok (.if_icmp .ne 7, 3) := by decide +kernel
theorem dX9_stepX_5 : decode cX9_stepX 5 = .ok (.iconst 1, 1) := by decide +kernel
theorem dX9_stepX_6 : decode cX9_stepX 6 = .ok (.goto 13, 3) := by decide +kernel
theorem dX9_stepX_9 : decode cX9_stepX 9 = .ok (.iload_n 0, 1) := by decide +kernel
theorem dX9_stepX_10 : decode cX9_stepX 10 = .ok (.iconst 3, 1) := by decide +kernel
theorem dX9_stepX_11 : decode cX9_stepX 11 = .ok (.if_icmp .ne 7, 3) := by decide +kernel
theorem dX9_stepX_14 : decode cX9_stepX 14 = .ok (.iconst (-1), 1) := by decide +kernel
theorem dX9_stepX_15 : decode cX9_stepX 15 = .ok (.goto 4, 3) := by decide +kernel
theorem dX9_stepX_18 : decode cX9_stepX 18 = .ok (.iconst 0, 1) := by decide +kernel
theorem dX9_stepX_19 : decode cX9_stepX 19 = .ok (.ireturn, 1) := by decide +kernel
theorem dX9_stepY_0 : decode cX9_stepY 0 = .ok (.iload_n 0, 1) := by decide +kernel
theorem dX9_stepY_1 : decode cX9_stepY 1 = .ok (.iconst 2, 1) := by decide +kernel
theorem dX9_stepY_2 : decode cX9_stepY 2 = .ok (.if_icmp .ne 7, 3) := by decide +kernel
theorem dX9_stepY_5 : decode cX9_stepY 5 = .ok (.iconst 1, 1) := by decide +kernel
theorem dX9_stepY_6 : decode cX9_stepY 6 = .ok (.goto 12, 3) := by decide +kernel
theorem dX9_stepY_9 : decode cX9_stepY 9 = .ok (.iload_n 0, 1) := by decide +kernel
theorem dX9_stepY_10 : decode cX9_stepY 10 = .ok (.ifCond .ne 7, 3) := by decide +kernel
theorem dX9_stepY_13 : decode cX9_stepY 13 = .ok (.iconst (-1), 1) := by decide +kernel
theorem dX9_stepY_14 : decode cX9_stepY 14 = .ok (.goto 4, 3) := by decide +kernel
theorem dX9_stepY_17 : decode cX9_stepY 17 = .ok (.iconst 0, 1) := by decide +kernel
theorem dX9_stepY_18 : decode cX9_stepY 18 = .ok (.ireturn, 1) := by decide +kernel
theorem dX9_leftOf_0 : decode cX9_leftOf 0 = .ok (.iload_n 0, 1) := by decide +kernel
theorem dX9_leftOf_1 : decode cX9_leftOf 1 = .ok (.ifCond .ne 7, 3) := by decide +kernel
theorem dX9_leftOf_4 : decode cX9_leftOf 4 = .ok (.iconst 3, 1) := by decide +kernel
theorem dX9_leftOf_5 : decode cX9_leftOf 5 = .ok (.goto 6, 3) := by decide +kernel
theorem dX9_leftOf_8 : decode cX9_leftOf 8 = .ok (.iload_n 0, 1) := by decide +kernel
theorem dX9_leftOf_9 : decode cX9_leftOf 9 = .ok (.iconst 1, 1) := by decide +kernel
theorem dX9_leftOf_10 : decode cX9_leftOf 10 = .ok (.isub, 1) := by decide +kernel
theorem dX9_leftOf_11 : decode cX9_leftOf 11 = .ok (.ireturn, 1) := by decide +kernel
theorem dX9_oppositeOf_0 : decode cX9_oppositeOf 0 = .ok (.iload_n 0, 1) := by decide +kernel
theorem dX9_oppositeOf_1 : decode cX9_oppositeOf 1 = .ok (.invokestatic 441, 3) := by decide +kernel
theorem dX9_oppositeOf_4 : decode cX9_oppositeOf 4 = .ok (.invokestatic 441, 3) := by decide +kernel
theorem dX9_oppositeOf_7 : decode cX9_oppositeOf 7 = .ok (.ireturn, 1) := by decide +kernel
theorem dX9_directionFor_0 : decode cX9_directionFor 0 = .ok (.iload_n 0, 1) := by decide +kernel
theorem dX9_directionFor_1 : decode cX9_directionFor 1 = .ok (.lookupswitch 51 #[(101, 45), (110, 43), (115, 47), (119, 49)], 43) := by decide +kernel
theorem dX9_directionFor_44 : decode cX9_directionFor 44 = .ok (.iconst 0, 1) := by decide +kernel
theorem dX9_directionFor_45 : decode cX9_directionFor 45 = .ok (.ireturn, 1) := by decide +kernel
theorem dX9_directionFor_46 : decode cX9_directionFor 46 = .ok (.iconst 1, 1) := by decide +kernel
theorem dX9_directionFor_47 : decode cX9_directionFor 47 = .ok (.ireturn, 1) := by decide +kernel
theorem dX9_directionFor_48 : decode cX9_directionFor 48 = .ok (.iconst 2, 1) := by decide +kernel
theorem dX9_directionFor_49 : decode cX9_directionFor 49 = .ok (.ireturn, 1) := by decide +kernel
theorem dX9_directionFor_50 : decode cX9_directionFor 50 = .ok (.iconst 3, 1) := by decide +kernel
theorem dX9_directionFor_51 : decode cX9_directionFor 51 = .ok (.ireturn, 1) := by decide +kernel
theorem dX9_directionFor_52 : decode cX9_directionFor 52 = .ok (.iconst (-1), 1) := by decide +kernel
theorem dX9_directionFor_53 : decode cX9_directionFor 53 = .ok (.ireturn, 1) := by decide +kernel
theorem dX9_letterFor_0 : decode cX9_letterFor 0 = .ok (.iload_n 0, 1) := by decide +kernel
theorem dX9_letterFor_1 : decode cX9_letterFor 1 = .ok (.tableswitch 36 0 2 #[27, 30, 33], 27) := by decide +kernel
theorem dX9_letterFor_28 : decode cX9_letterFor 28 = .ok (.bipush 110, 2) := by decide +kernel
theorem dX9_letterFor_30 : decode cX9_letterFor 30 = .ok (.ireturn, 1) := by decide +kernel
theorem dX9_letterFor_31 : decode cX9_letterFor 31 = .ok (.bipush 101, 2) := by decide +kernel
theorem dX9_letterFor_33 : decode cX9_letterFor 33 = .ok (.ireturn, 1) := by decide +kernel
theorem dX9_letterFor_34 : decode cX9_letterFor 34 = .ok (.bipush 115, 2) := by decide +kernel
theorem dX9_letterFor_36 : decode cX9_letterFor 36 = .ok (.ireturn, 1) := by decide +kernel
theorem dX9_letterFor_37 : decode cX9_letterFor 37 = .ok (.bipush 119, 2) := by decide +kernel
theorem dX9_letterFor_39 : decode cX9_letterFor 39 = .ok (.ireturn, 1) := by decide +kernel
theorem dX9_chainsFor_0 : decode cX9_chainsFor 0 = .ok (.iload_n 0, 1) := by decide +kernel
theorem dX9_chainsFor_1 : decode cX9_chainsFor 1 = .ok (.invokestatic 444, 3) := by decide +kernel
theorem dX9_chainsFor_4 : decode cX9_chainsFor 4 = .ok (.bipush 9, 2) := by decide +kernel
theorem dX9_chainsFor_6 : decode cX9_chainsFor 6 = .ok (.iadd, 1) := by decide +kernel
theorem dX9_chainsFor_7 : decode cX9_chainsFor 7 = .ok (.iconst 1, 1) := by decide +kernel
theorem dX9_chainsFor_8 : decode cX9_chainsFor 8 = .ok (.isub, 1) := by decide +kernel
theorem dX9_chainsFor_9 : decode cX9_chainsFor 9 = .ok (.bipush 9, 2) := by decide +kernel
theorem dX9_chainsFor_11 : decode cX9_chainsFor 11 = .ok (.idiv, 1) := by decide +kernel
theorem dX9_chainsFor_12 : decode cX9_chainsFor 12 = .ok (.ireturn, 1) := by decide +kernel
theorem dX10_init_0 : decode cX10_init 0 = .ok (.aload_n 0, 1) := by decide +kernel
theorem dX10_init_1 : decode cX10_init 1 = .ok (.invokespecial 1, 3) := by decide +kernel
theorem dX10_init_4 : decode cX10_init 4 = .ok (.aload_n 0, 1) := by decide +kernel
theorem dX10_init_5 : decode cX10_init 5 = .ok (.sipush 220, 3) := by decide +kernel
theorem dX10_init_8 : decode cX10_init 8 = .ok (.newarray .int, 2) := by decide +kernel
theorem dX10_init_10 : decode cX10_init 10 = .ok (.putfield 7, 3) := by decide +kernel
theorem dX10_init_13 : decode cX10_init 13 = .ok (.aload_n 0, 1) := by decide +kernel
theorem dX10_init_14 : decode cX10_init 14 = .ok (.sipush 220, 3) := by decide +kernel
theorem dX10_init_17 : decode cX10_init 17 = .ok (.newarray .int, 2) := by decide +kernel
theorem dX10_init_19 : decode cX10_init 19 = .ok (.putfield 13, 3) := by decide +kernel
theorem dX10_init_22 : decode cX10_init 22 = .ok (.aload_n 0, 1) := by decide +kernel
theorem dX10_init_23 : decode cX10_init 23 = .ok (.sipush 220, 3) := by decide +kernel
theorem dX10_init_26 : decode cX10_init 26 = .ok (.newarray .int, 2) := by decide +kernel
theorem dX10_init_28 : decode cX10_init 28 = .ok (.putfield 16, 3) := by decide +kernel
theorem dX10_init_31 : decode cX10_init 31 = .ok (.aload_n 0, 1) := by decide +kernel
theorem dX10_init_32 : decode cX10_init 32 = .ok (.sipush 1760, 3) := by decide +kernel
theorem dX10_init_35 : decode cX10_init 35 = .ok (.newarray .int, 2) := by decide +kernel
theorem dX10_init_37 : decode cX10_init 37 = .ok (.putfield 19, 3) := by decide +kernel
theorem dX10_init_40 : decode cX10_init 40 = .ok (.aload_n 0, 1) := by decide +kernel
theorem dX10_init_41 : decode cX10_init 41 = .ok (.iconst 0, 1) := by decide +kernel
theorem dX10_init_42 : decode cX10_init 42 = .ok (.putfield 22, 3) := by decide +kernel
theorem dX10_init_45 : decode cX10_init 45 = .ok (.aload_n 0, 1) := by decide +kernel
theorem dX10_init_46 : decode cX10_init 46 = .ok (.iconst 0, 1) := by decide +kernel
theorem dX10_init_47 : decode cX10_init 47 = .ok (.putfield 26, 3) := by decide +kernel
theorem dX10_init_50 : decode cX10_init 50 = .ok (.aload_n 0, 1) := by decide +kernel
theorem dX10_init_51 : decode cX10_init 51 = .ok (.iconst 0, 1) := by decide +kernel
theorem dX10_init_52 : decode cX10_init 52 = .ok (.putfield 29, 3) := by decide +kernel
theorem dX10_init_55 : decode cX10_init 55 = .ok (.aload_n 0, 1) := by decide +kernel
theorem dX10_init_56 : decode cX10_init 56 = .ok (.iconst 0, 1) := by decide +kernel
theorem dX10_init_57 : decode cX10_init 57 = .ok (.putfield 32, 3) := by decide +kernel
theorem dX10_init_60 : decode cX10_init 60 = .ok (.aload_n 0, 1) := by decide +kernel
theorem dX10_init_61 : decode cX10_init 61 = .ok (.iconst 0, 1) := by decide +kernel
theorem dX10_init_62 : decode cX10_init 62 = .ok (.putfield 35, 3) := by decide +kernel
theorem dX10_init_65 : decode cX10_init 65 = .ok (.aload_n 0, 1) := by decide +kernel
theorem dX10_init_66 : decode cX10_init 66 = .ok (.iconst 0, 1) := by decide +kernel
theorem dX10_init_67 : decode cX10_init 67 = .ok (.putfield 38, 3) := by decide +kernel
theorem dX10_init_70 : decode cX10_init 70 = .ok (.aload_n 0, 1) := by decide +kernel
theorem dX10_init_71 : decode cX10_init 71 = .ok (.iconst 0, 1) := by decide +kernel
theorem dX10_init_72 : decode cX10_init 72 = .ok (.putfield 41, 3) := by decide +kernel
theorem dX10_init_75 : decode cX10_init 75 = .ok (.aload_n 0, 1) := by decide +kernel
theorem dX10_init_76 : decode cX10_init 76 = .ok (.iconst 0, 1) := by decide +kernel
theorem dX10_init_77 : decode cX10_init 77 = .ok (.putfield 44, 3) := by decide +kernel
theorem dX10_init_80 : decode cX10_init 80 = .ok (.aload_n 0, 1) := by decide +kernel
theorem dX10_init_81 : decode cX10_init 81 = .ok (.iconst (-1), 1) := by decide +kernel
theorem dX10_init_82 : decode cX10_init 82 = .ok (.putfield 47, 3) := by decide +kernel
theorem dX10_init_85 : decode cX10_init 85 = .ok (.aload_n 0, 1) := by decide +kernel
theorem dX10_init_86 : decode cX10_init 86 = .ok (.iconst 0, 1) := by decide +kernel
theorem dX10_init_87 : decode cX10_init 87 = .ok (.putfield 50, 3) := by decide +kernel
theorem dX10_init_90 : decode cX10_init 90 = .ok (.aload_n 0, 1) := by decide +kernel
theorem dX10_init_91 : decode cX10_init 91 = .ok (.iconst 0, 1) := by decide +kernel
theorem dX10_init_92 : decode cX10_init 92 = .ok (.putfield 54, 3) := by decide +kernel
theorem dX10_init_95 : decode cX10_init 95 = .ok (.aload_n 0, 1) := by decide +kernel
theorem dX10_init_96 : decode cX10_init 96 = .ok (.iconst 0, 1) := by decide +kernel
theorem dX10_init_97 : decode cX10_init 97 = .ok (.putfield 57, 3) := by decide +kernel
theorem dX10_init_100 : decode cX10_init 100 = .ok (.aload_n 0, 1) := by decide +kernel
theorem dX10_init_101 : decode cX10_init 101 = .ok (.bipush 117, 2) := by decide +kernel
theorem dX10_init_103 : decode cX10_init 103 = .ok (.newarray .boolean, 2) := by decide +kernel
theorem dX10_init_105 : decode cX10_init 105 = .ok (.putfield 60, 3) := by decide +kernel
theorem dX10_init_108 : decode cX10_init 108 = .ok (.aload_n 0, 1) := by decide +kernel
theorem dX10_init_109 : decode cX10_init 109 = .ok (.iconst 0, 1) := by decide +kernel
theorem dX10_init_110 : decode cX10_init 110 = .ok (.putfield 64, 3) := by decide +kernel
theorem dX10_init_113 : decode cX10_init 113 = .ok (.aload_n 0, 1) := by decide +kernel
theorem dX10_init_114 : decode cX10_init 114 = .ok (.iconst 5, 1) := by decide +kernel
theorem dX10_init_115 : decode cX10_init 115 = .ok (.newarray .int, 2) := by decide +kernel
theorem dX10_init_117 : decode cX10_init 117 = .ok (.putfield 67, 3) := by decide +kernel
theorem dX10_init_120 : decode cX10_init 120 = .ok (.aload_n 0, 1) := by decide +kernel
theorem dX10_init_121 : decode cX10_init 121 = .ok (.bipush 60, 2) := by decide +kernel
theorem dX10_init_123 : decode cX10_init 123 = .ok (.newarray .int, 2) := by decide +kernel
theorem dX10_init_125 : decode cX10_init 125 = .ok (.putfield 70, 3) := by decide +kernel
theorem dX10_init_128 : decode cX10_init 128 = .ok (.aload_n 0, 1) := by decide +kernel
theorem dX10_init_129 : decode cX10_init 129 = .ok (.bipush 32, 2) := by decide +kernel
theorem dX10_init_131 : decode cX10_init 131 = .ok (.newarray .int, 2) := by decide +kernel
theorem dX10_init_133 : decode cX10_init 133 = .ok (.putfield 73, 3) := by decide +kernel
theorem dX10_init_136 : decode cX10_init 136 = .ok (.aload_n 0, 1) := by decide +kernel
theorem dX10_init_137 : decode cX10_init 137 = .ok (.bipush 96, 2) := by decide +kernel
theorem dX10_init_139 : decode cX10_init 139 = .ok (.newarray .int, 2) := by decide +kernel
theorem dX10_init_141 : decode cX10_init 141 = .ok (.putfield 76, 3) := by decide +kernel
theorem dX10_init_144 : decode cX10_init 144 = .ok (.aload_n 0, 1) := by decide +kernel
theorem dX10_init_145 : decode cX10_init 145 = .ok (.iconst 0, 1) := by decide +kernel
theorem dX10_init_146 : decode cX10_init 146 = .ok (.putfield 79, 3) := by decide +kernel
theorem dX10_init_149 : decode cX10_init 149 = .ok (.aload_n 0, 1) := by decide +kernel
theorem dX10_init_150 : decode cX10_init 150 = .ok (.iconst 0, 1) := by decide +kernel
theorem dX10_init_151 : decode cX10_init 151 = .ok (.putfield 82, 3) := by decide +kernel
theorem dX10_init_154 : decode cX10_init 154 = .ok (.aload_n 0, 1) := by decide +kernel
theorem dX10_init_155 : decode cX10_init 155 = .ok (.iconst 0, 1) := by decide +kernel
theorem dX10_init_156 : decode cX10_init 156 = .ok (.putfield 85, 3) := by decide +kernel
theorem dX10_init_159 : decode cX10_init 159 = .ok (.aload_n 0, 1) := by decide +kernel
theorem dX10_init_160 : decode cX10_init 160 = .ok (.iconst 0, 1) := by decide +kernel
theorem dX10_init_161 : decode cX10_init 161 = .ok (.putfield 88, 3) := by decide +kernel
theorem dX10_init_164 : decode cX10_init 164 = .ok (.aload_n 0, 1) := by decide +kernel
theorem dX10_init_165 : decode cX10_init 165 = .ok (.iconst 0, 1) := by decide +kernel
theorem dX10_init_166 : decode cX10_init 166 = .ok (.putfield 91, 3) := by decide +kernel
theorem dX10_init_169 : decode cX10_init 169 = .ok (.aload_n 0, 1) := by decide +kernel
theorem dX10_init_170 : decode cX10_init 170 = .ok (.iconst 0, 1) := by decide +kernel
theorem dX10_init_171 : decode cX10_init 171 = .ok (.putfield 94, 3) := by decide +kernel
theorem dX10_init_174 : decode cX10_init 174 = .ok (.aload_n 0, 1) := by decide +kernel
theorem dX10_init_175 : decode cX10_init 175 = .ok (.bipush 60, 2) := by decide +kernel
theorem dX10_init_177 : decode cX10_init 177 = .ok (.newarray .int, 2) := by decide +kernel
theorem dX10_init_179 : decode cX10_init 179 = .ok (.putfield 97, 3) := by decide +kernel
theorem dX10_init_182 : decode cX10_init 182 = .ok (.aload_n 0, 1) := by decide +kernel
theorem dX10_init_183 : decode cX10_init 183 = .ok (.iconst 0, 1) := by decide +kernel
theorem dX10_init_184 : decode cX10_init 184 = .ok (.putfield 100, 3) := by decide +kernel
theorem dX10_init_187 : decode cX10_init 187 = .ok (.return_, 1) := by decide +kernel
theorem dX10_thrown_0 : decode cX10_thrown 0 = .ok (.aload_n 0, 1) := by decide +kernel
theorem dX10_thrown_1 : decode cX10_thrown 1 = .ok (.getfield 22, 3) := by decide +kernel
theorem dX10_thrown_4 : decode cX10_thrown 4 = .ok (.ireturn, 1) := by decide +kernel
theorem dX10_in_0 : decode cX10_in 0 = .ok (.iload_n 0, 1) := by decide +kernel
theorem dX10_in_1 : decode cX10_in 1 = .ok (.iload_n 1, 1) := by decide +kernel
theorem dX10_in_2 : decode cX10_in 2 = .ok (.if_icmp .lt 12, 3) := by decide +kernel
theorem dX10_in_5 : decode cX10_in 5 = .ok (.iload_n 0, 1) := by decide +kernel
theorem dX10_in_6 : decode cX10_in 6 = .ok (.iload_n 2, 1) := by decide +kernel
theorem dX10_in_7 : decode cX10_in 7 = .ok (.if_icmp .gt 7, 3) := by decide +kernel
theorem dX10_in_10 : decode cX10_in 10 = .ok (.iconst 1, 1) := by decide +kernel
theorem dX10_in_11 : decode cX10_in 11 = .ok (.goto 4, 3) := by decide +kernel
theorem dX10_in_14 : decode cX10_in 14 = .ok (.iconst 0, 1) := by decide +kernel
theorem dX10_in_15 : decode cX10_in 15 = .ok (.ireturn, 1) := by decide +kernel
theorem dX10_copies_0 : decode cX10_copies 0 = .ok (.iconst 0, 1) := by decide +kernel
theorem dX10_copies_1 : decode cX10_copies 1 = .ok (.istore 4, 2) := by decide +kernel
theorem dX10_copies_3 : decode cX10_copies 3 = .ok (.iload 4, 2) := by decide +kernel
theorem dX10_copies_5 : decode cX10_copies 5 = .ok (.sipush 220, 3) := by decide +kernel
theorem dX10_copies_8 : decode cX10_copies 8 = .ok (.if_icmp .ge 21, 3) := by decide +kernel
theorem dX10_copies_11 : decode cX10_copies 11 = .ok (.aload_n 2, 1) := by decide +kernel
theorem dX10_copies_12 : decode cX10_copies 12 = .ok (.iload_n 3, 1) := by decide +kernel
theorem dX10_copies_13 : decode cX10_copies 13 = .ok (.iload 4, 2) := by decide +kernel
theorem dX10_copies_15 : decode cX10_copies 15 = .ok (.iadd, 1) := by decide +kernel
theorem dX10_copies_16 : decode cX10_copies 16 = .ok (.aload_n 0, 1) := by decide +kernel
theorem dX10_copies_17 : decode cX10_copies 17 = .ok (.iload_n 1, 1) := by decide +kernel
theorem dX10_copies_18 : decode cX10_copies 18 = .ok (.iload 4, 2) := by decide +kernel
theorem dX10_copies_20 : decode cX10_copies 20 = .ok (.iadd, 1) := by decide +kernel
theorem dX10_copies_21 : decode cX10_copies 21 = .ok (.iaload, 1) := by decide +kernel
theorem dX10_copies_22 : decode cX10_copies 22 = .ok (.iastore, 1) := by decide +kernel
theorem dX10_copies_23 : decode cX10_copies 23 = .ok (.iinc 4 1, 3) := by decide +kernel
theorem dX10_copies_26 : decode cX10_copies 26 = .ok (.goto (-23), 3) := by decide +kernel
theorem dX10_copies_29 : decode cX10_copies 29 = .ok (.return_, 1) := by decide +kernel
theorem dX10_no_0 : decode cX10_no 0 = .ok (.aload_n 0, 1) := by decide +kernel
theorem dX10_no_1 : decode cX10_no 1 = .ok (.iload_n 1, 1) := by decide +kernel
theorem dX10_no_2 : decode cX10_no 2 = .ok (.putfield 22, 3) := by decide +kernel
theorem dX10_no_5 : decode cX10_no 5 = .ok (.iconst 0, 1) := by decide +kernel
theorem dX10_no_6 : decode cX10_no 6 = .ok (.ireturn, 1) := by decide +kernel
theorem dX10_isBad_0 : decode cX10_isBad 0 = .ok (.aload_n 0, 1) := by decide +kernel
theorem dX10_isBad_1 : decode cX10_isBad 1 = .ok (.iload_n 1, 1) := by decide +kernel
theorem dX10_isBad_2 : decode cX10_isBad 2 = .ok (.putfield 29, 3) := by decide +kernel
theorem dX10_isBad_5 : decode cX10_isBad 5 = .ok (.aload_n 0, 1) := by decide +kernel
theorem dX10_isBad_6 : decode cX10_isBad 6 = .ok (.iload_n 2, 1) := by decide +kernel
theorem dX10_isBad_7 : decode cX10_isBad 7 = .ok (.putfield 32, 3) := by decide +kernel
theorem dX10_isBad_10 : decode cX10_isBad 10 = .ok (.iconst 1, 1) := by decide +kernel
theorem dX10_isBad_11 : decode cX10_isBad 11 = .ok (.ireturn, 1) := by decide +kernel
theorem dX10_refused_0 : decode cX10_refused 0 = .ok (.aload_n 0, 1) := by decide +kernel
theorem dX10_refused_1 : decode cX10_refused 1 = .ok (.aload_n 0, 1) := by decide +kernel
theorem dX10_refused_2 : decode cX10_refused 2 = .ok (.getfield 29, 3) := by decide +kernel
theorem dX10_refused_5 : decode cX10_refused 5 = .ok (.putfield 35, 3) := by decide +kernel
theorem dX10_refused_8 : decode cX10_refused 8 = .ok (.aload_n 0, 1) := by decide +kernel
theorem dX10_refused_9 : decode cX10_refused 9 = .ok (.aload_n 0, 1) := by decide +kernel
theorem dX10_refused_10 : decode cX10_refused 10 = .ok (.getfield 32, 3) := by decide +kernel
theorem dX10_refused_13 : decode cX10_refused 13 = .ok (.putfield 38, 3) := by decide +kernel
theorem dX10_refused_16 : decode cX10_refused 16 = .ok (.aload_n 0, 1) := by decide +kernel
theorem dX10_refused_17 : decode cX10_refused 17 = .ok (.iconst 0, 1) := by decide +kernel
theorem dX10_refused_18 : decode cX10_refused 18 = .ok (.putfield 41, 3) := by decide +kernel
theorem dX10_refused_21 : decode cX10_refused 21 = .ok (.aload_n 0, 1) := by decide +kernel
theorem dX10_refused_22 : decode cX10_refused 22 = .ok (.iload_n 1, 1) := by decide +kernel
theorem dX10_refused_23 : decode cX10_refused 23 = .ok (.invokevirtual 103, 3) := by decide +kernel
theorem dX10_refused_26 : decode cX10_refused 26 = .ok (.ireturn, 1) := by decide +kernel
theorem dX10_begins_0 : decode cX10_begins 0 = .ok (.aload_n 0, 1) := by decide +kernel
theorem dX10_begins_1 : decode cX10_begins 1 = .ok (.iconst 0, 1) := by decide +kernel
theorem dX10_begins_2 : decode cX10_begins 2 = .ok (.putfield 22, 3) := by decide +kernel
theorem dX10_begins_5 : decode cX10_begins 5 = .ok (.aload_n 0, 1) := by decide +kernel
theorem dX10_begins_6 : decode cX10_begins 6 = .ok (.getfield 7, 3) := by decide +kernel
theorem dX10_begins_9 : decode cX10_begins 9 = .ok (.iconst 0, 1) := by decide +kernel
theorem dX10_begins_10 : decode cX10_begins 10 = .ok (.aload_n 0, 1) := by decide +kernel
theorem dX10_begins_11 : decode cX10_begins 11 = .ok (.getfield 13, 3) := by decide +kernel
theorem dX10_begins_14 : decode cX10_begins 14 = .ok (.iconst 0, 1) := by decide +kernel
theorem dX10_begins_15 : decode cX10_begins 15 = .ok (.invokestatic 107, 3) := by decide +kernel
theorem dX10_begins_18 : decode cX10_begins 18 = .ok (.return_, 1) := by decide +kernel
theorem dX10_keeps_0 : decode cX10_keeps 0 = .ok (.aload_n 0, 1) := by decide +kernel
theorem dX10_keeps_1 : decode cX10_keeps 1 = .ok (.getfield 26, 3) := by decide +kernel
theorem dX10_keeps_4 : decode cX10_keeps 4 = .ok (.bipush 8, 2) := by decide +kernel
theorem dX10_keeps_6 : decode cX10_keeps 6 = .ok (.if_icmp .ne 50, 3) := by decide +kernel
theorem dX10_keeps_9 : decode cX10_keeps 9 = .ok (.iconst 1, 1) := by decide +kernel
theorem dX10_keeps_10 : decode cX10_keeps 10 = .ok (.istore_n 2, 1) := by decide +kernel
theorem dX10_keeps_11 : decode cX10_keeps 11 = .ok (.iload_n 2, 1) := by decide +kernel
theorem dX10_keeps_12 : decode cX10_keeps 12 = .ok (.bipush 8, 2) := by decide +kernel
theorem dX10_keeps_14 : decode cX10_keeps 14 = .ok (.if_icmp .ge 32, 3) := by decide +kernel
theorem dX10_keeps_17 : decode cX10_keeps 17 = .ok (.aload_n 0, 1) := by decide +kernel
theorem dX10_keeps_18 : decode cX10_keeps 18 = .ok (.getfield 19, 3) := by decide +kernel
theorem dX10_keeps_21 : decode cX10_keeps 21 = .ok (.sipush 220, 3) := by decide +kernel
theorem dX10_keeps_24 : decode cX10_keeps 24 = .ok (.iload_n 2, 1) := by decide +kernel
theorem dX10_keeps_25 : decode cX10_keeps 25 = .ok (.imul, 1) := by decide +kernel
theorem dX10_keeps_26 : decode cX10_keeps 26 = .ok (.aload_n 0, 1) := by decide +kernel
theorem dX10_keeps_27 : decode cX10_keeps 27 = .ok (.getfield 19, 3) := by decide +kernel
theorem dX10_keeps_30 : decode cX10_keeps 30 = .ok (.sipush 220, 3) := by decide +kernel
theorem dX10_keeps_33 : decode cX10_keeps 33 = .ok (.iload_n 2, 1) := by decide +kernel
theorem dX10_keeps_34 : decode cX10_keeps 34 = .ok (.iconst 1, 1) := by decide +kernel
theorem dX10_keeps_35 : decode cX10_keeps 35 = .ok (.isub, 1) := by decide +kernel
theorem dX10_keeps_36 : decode cX10_keeps 36 = .ok (.imul, 1) := by decide +kernel
theorem dX10_keeps_37 : decode cX10_keeps 37 = .ok (.invokestatic 107, 3) := by decide +kernel
theorem dX10_keeps_40 : decode cX10_keeps 40 = .ok (.iinc 2 1, 3) := by decide +kernel
theorem dX10_keeps_43 : decode cX10_keeps 43 = .ok (.goto (-32), 3) := by decide +kernel
theorem dX10_keeps_46 : decode cX10_keeps 46 = .ok (.aload_n 0, 1) := by decide +kernel
theorem dX10_keeps_47 : decode cX10_keeps 47 = .ok (.dup, 1) := by decide +kernel
theorem dX10_keeps_48 : decode cX10_keeps 48 = .ok (.getfield 26, 3) := by decide +kernel
theorem dX10_keeps_51 : decode cX10_keeps 51 = .ok (.iconst 1, 1) := by decide +kernel
theorem dX10_keeps_52 : decode cX10_keeps 52 = .ok (.isub, 1) := by decide +kernel
theorem dX10_keeps_53 : decode cX10_keeps 53 = .ok (.putfield 26, 3) := by decide +kernel
theorem dX10_keeps_56 : decode cX10_keeps 56 = .ok (.aload_n 0, 1) := by decide +kernel
theorem dX10_keeps_57 : decode cX10_keeps 57 = .ok (.getfield 13, 3) := by decide +kernel
theorem dX10_keeps_60 : decode cX10_keeps 60 = .ok (.iconst 0, 1) := by decide +kernel
theorem dX10_keeps_61 : decode cX10_keeps 61 = .ok (.aload_n 0, 1) := by decide +kernel
theorem dX10_keeps_62 : decode cX10_keeps 62 = .ok (.getfield 19, 3) := by decide +kernel
theorem dX10_keeps_65 : decode cX10_keeps 65 = .ok (.sipush 220, 3) := by decide +kernel
theorem dX10_keeps_68 : decode cX10_keeps 68 = .ok (.aload_n 0, 1) := by decide +kernel
theorem dX10_keeps_69 : decode cX10_keeps 69 = .ok (.getfield 26, 3) := by decide +kernel
theorem dX10_keeps_72 : decode cX10_keeps 72 = .ok (.imul, 1) := by decide +kernel
theorem dX10_keeps_73 : decode cX10_keeps 73 = .ok (.invokestatic 107, 3) := by decide +kernel
theorem dX10_keeps_76 : decode cX10_keeps 76 = .ok (.aload_n 0, 1) := by decide +kernel
theorem dX10_keeps_77 : decode cX10_keeps 77 = .ok (.dup, 1) := by decide +kernel
theorem dX10_keeps_78 : decode cX10_keeps 78 = .ok (.getfield 26, 3) := by decide +kernel
theorem dX10_keeps_81 : decode cX10_keeps 81 = .ok (.iconst 1, 1) := by decide +kernel
theorem dX10_keeps_82 : decode cX10_keeps 82 = .ok (.iadd, 1) := by decide +kernel
theorem dX10_keeps_83 : decode cX10_keeps 83 = .ok (.putfield 26, 3) := by decide +kernel
theorem dX10_keeps_86 : decode cX10_keeps 86 = .ok (.iload_n 1, 1) := by decide +kernel
theorem dX10_keeps_87 : decode cX10_keeps 87 = .ok (.ireturn, 1) := by decide +kernel
theorem dX10_sv_0 : decode cX10_sv 0 = .ok (.aload_n 0, 1) := by decide +kernel
theorem dX10_sv_1 : decode cX10_sv 1 = .ok (.getfield 7, 3) := by decide +kernel
theorem dX10_sv_4 : decode cX10_sv 4 = .ok (.bipush 30, 2) := by decide +kernel
theorem dX10_sv_6 : decode cX10_sv 6 = .ok (.bipush 37, 2) := by decide +kernel
theorem dX10_sv_8 : decode cX10_sv 8 = .ok (.iload_n 1, 1) := by decide +kernel
theorem dX10_sv_9 : decode cX10_sv 9 = .ok (.imul, 1) := by decide +kernel
theorem dX10_sv_10 : decode cX10_sv 10 = .ok (.iadd, 1) := by decide +kernel
theorem dX10_sv_11 : decode cX10_sv 11 = .ok (.iload_n 2, 1) := by decide +kernel
theorem dX10_sv_12 : decode cX10_sv 12 = .ok (.iadd, 1) := by decide +kernel
theorem dX10_sv_13 : decode cX10_sv 13 = .ok (.iaload, 1) := by decide +kernel
theorem dX10_sv_14 : decode cX10_sv 14 = .ok (.ireturn, 1) := by decide +kernel
theorem dX10_ls_0 : decode cX10_ls 0 = .ok (.aload_n 0, 1) := by decide +kernel
theorem dX10_ls_1 : decode cX10_ls 1 = .ok (.getfield 7, 3) := by decide +kernel
theorem dX10_ls_4 : decode cX10_ls 4 = .ok (.bipush 30, 2) := by decide +kernel
theorem dX10_ls_6 : decode cX10_ls 6 = .ok (.bipush 37, 2) := by decide +kernel
theorem dX10_ls_8 : decode cX10_ls 8 = .ok (.iload_n 1, 1) := by decide +kernel
theorem dX10_ls_9 : decode cX10_ls 9 = .ok (.imul, 1) := by decide +kernel
theorem dX10_ls_10 : decode cX10_ls 10 = .ok (.iadd, 1) := by decide +kernel
theorem dX10_ls_11 : decode cX10_ls 11 = .ok (.iload_n 2, 1) := by decide +kernel
theorem dX10_ls_12 : decode cX10_ls 12 = .ok (.iadd, 1) := by decide +kernel
theorem dX10_ls_13 : decode cX10_ls 13 = .ok (.iload_n 3, 1) := by decide +kernel
theorem dX10_ls_14 : decode cX10_ls 14 = .ok (.iastore, 1) := by decide +kernel
theorem dX10_ls_15 : decode cX10_ls 15 = .ok (.return_, 1) := by decide +kernel
theorem dX10_way_0 : decode cX10_way 0 = .ok (.aload_n 0, 1) := by decide +kernel
theorem dX10_way_1 : decode cX10_way 1 = .ok (.iload_n 1, 1) := by decide +kernel
theorem dX10_way_2 : decode cX10_way 2 = .ok (.iconst 5, 1) := by decide +kernel
theorem dX10_way_3 : decode cX10_way 3 = .ok (.iconst 2, 1) := by decide +kernel
theorem dX10_way_4 : decode cX10_way 4 = .ok (.iload_n 2, 1) := by decide +kernel
theorem dX10_way_5 : decode cX10_way 5 = .ok (.imul, 1) := by decide +kernel
theorem dX10_way_6 : decode cX10_way 6 = .ok (.iadd, 1) := by decide +kernel
theorem dX10_way_7 : decode cX10_way 7 = .ok (.invokevirtual 111, 3) := by decide +kernel
theorem dX10_way_10 : decode cX10_way 10 = .ok (.ireturn, 1) := by decide +kernel
theorem dX10_length_0 : decode cX10_length 0 = .ok (.aload_n 0, 1) := by decide +kernel
theorem dX10_length_1 : decode cX10_length 1 = .ok (.iload_n 1, 1) := by decide +kernel
theorem dX10_length_2 : decode cX10_length 2 = .ok (.iconst 5, 1) := by decide +kernel
theorem dX10_length_3 : decode cX10_length 3 = .ok (.iconst 2, 1) := by decide +kernel
theorem dX10_length_4 : decode cX10_length 4 = .ok (.iload_n 2, 1) := by decide +kernel
theorem dX10_length_5 : decode cX10_length 5 = .ok (.imul, 1) := by decide +kernel
theorem dX10_length_6 : decode cX10_length 6 = .ok (.iadd, 1) := by decide +kernel
theorem dX10_length_7 : decode cX10_length 7 = .ok (.iconst 1, 1) := by decide +kernel
theorem dX10_length_8 : decode cX10_length 8 = .ok (.iadd, 1) := by decide +kernel
theorem dX10_length_9 : decode cX10_length 9 = .ok (.invokevirtual 111, 3) := by decide +kernel
theorem dX10_length_12 : decode cX10_length 12 = .ok (.ireturn, 1) := by decide +kernel
theorem dX10_pv_0 : decode cX10_pv 0 = .ok (.aload_n 0, 1) := by decide +kernel
theorem dX10_pv_1 : decode cX10_pv 1 = .ok (.getfield 7, 3) := by decide +kernel
theorem dX10_pv_4 : decode cX10_pv 4 = .ok (.bipush 6, 2) := by decide +kernel
theorem dX10_pv_6 : decode cX10_pv 6 = .ok (.iconst 3, 1) := by decide +kernel
theorem dX10_pv_7 : decode cX10_pv 7 = .ok (.iload_n 1, 1) := by decide +kernel
theorem dX10_pv_8 : decode cX10_pv 8 = .ok (.imul, 1) := by decide +kernel
theorem dX10_pv_9 : decode cX10_pv 9 = .ok (.iadd, 1) := by decide +kernel
theorem dX10_pv_10 : decode cX10_pv 10 = .ok (.iload_n 2, 1) := by decide +kernel
theorem dX10_pv_11 : decode cX10_pv 11 = .ok (.iadd, 1) := by decide +kernel
theorem dX10_pv_12 : decode cX10_pv 12 = .ok (.iaload, 1) := by decide +kernel
theorem dX10_pv_13 : decode cX10_pv 13 = .ok (.ireturn, 1) := by decide +kernel
theorem dX10_isSleeper_0 : decode cX10_isSleeper 0 = .ok (.iload_n 1, 1) := by decide +kernel
theorem dX10_isSleeper_1 : decode cX10_isSleeper 1 = .ok (.iconst 0, 1) := by decide +kernel
theorem dX10_isSleeper_2 : decode cX10_isSleeper 2 = .ok (.aload_n 0, 1) := by decide +kernel
theorem dX10_isSleeper_3 : decode cX10_isSleeper 3 = .ok (.getfield 7, 3) := by decide +kernel
theorem dX10_isSleeper_6 : decode cX10_isSleeper 6 = .ok (.iconst 0, 1) := by decide +kernel
theorem dX10_isSleeper_7 : decode cX10_isSleeper 7 = .ok (.iaload, 1) := by decide +kernel
theorem dX10_isSleeper_8 : decode cX10_isSleeper 8 = .ok (.iconst 1, 1) := by decide +kernel
theorem dX10_isSleeper_9 : decode cX10_isSleeper 9 = .ok (.isub, 1) := by decide +kernel
theorem dX10_isSleeper_10 : decode cX10_isSleeper 10 = .ok (.invokestatic 115, 3) := by decide +kernel
theorem dX10_isSleeper_13 : decode cX10_isSleeper 13 = .ok (.ireturn, 1) := by decide +kernel
theorem dX10_isCorner_0 : decode cX10_isCorner 0 = .ok (.iload_n 0, 1) := by decide +kernel
theorem dX10_isCorner_1 : decode cX10_isCorner 1 = .ok (.iconst 0, 1) := by decide +kernel
theorem dX10_isCorner_2 : decode cX10_isCorner 2 = .ok (.bipush 12, 2) := by decide +kernel
theorem dX10_isCorner_4 : decode cX10_isCorner 4 = .ok (.invokestatic 115, 3) := by decide +kernel
theorem dX10_isCorner_7 : decode cX10_isCorner 7 = .ok (.ifCond .eq 17, 3) := by decide +kernel
theorem dX10_isCorner_10 : decode cX10_isCorner 10 = .ok (.iload_n 1, 1) := by decide +kernel
theorem dX10_isCorner_11 : decode cX10_isCorner 11 = .ok (.iconst 0, 1) := by decide +kernel
theorem dX10_isCorner_12 : decode cX10_isCorner 12 = .ok (.bipush 8, 2) := by decide +kernel
theorem dX10_isCorner_14 : decode cX10_isCorner 14 = .ok (.invokestatic 115, 3) := by decide +kernel
theorem dX10_isCorner_17 : decode cX10_isCorner 17 = .ok (.ifCond .eq 7, 3) := by decide +kernel
theorem dX10_isCorner_20 : decode cX10_isCorner 20 = .ok (.iconst 1, 1) := by decide +kernel
theorem dX10_isCorner_21 : decode cX10_isCorner 21 = .ok (.goto 4, 3) := by decide +kernel
theorem dX10_isCorner_24 : decode cX10_isCorner 24 = .ok (.iconst 0, 1) := by decide +kernel
theorem dX10_isCorner_25 : decode cX10_isCorner 25 = .ok (.ireturn, 1) := by decide +kernel
theorem dX10_isCell_0 : decode cX10_isCell 0 = .ok (.iload_n 0, 1) := by decide +kernel
theorem dX10_isCell_1 : decode cX10_isCell 1 = .ok (.iconst 0, 1) := by decide +kernel
theorem dX10_isCell_2 : decode cX10_isCell 2 = .ok (.bipush 11, 2) := by decide +kernel
theorem dX10_isCell_4 : decode cX10_isCell 4 = .ok (.invokestatic 115, 3) := by decide +kernel
theorem dX10_isCell_7 : decode cX10_isCell 7 = .ok (.ifCond .eq 17, 3) := by decide +kernel
theorem dX10_isCell_10 : decode cX10_isCell 10 = .ok (.iload_n 1, 1) := by decide +kernel
theorem dX10_isCell_11 : decode cX10_isCell 11 = .ok (.iconst 0, 1) := by decide +kernel
theorem dX10_isCell_12 : decode cX10_isCell 12 = .ok (.bipush 7, 2) := by decide +kernel
theorem dX10_isCell_14 : decode cX10_isCell 14 = .ok (.invokestatic 115, 3) := by decide +kernel
theorem dX10_isCell_17 : decode cX10_isCell 17 = .ok (.ifCond .eq 7, 3) := by decide +kernel
theorem dX10_isCell_20 : decode cX10_isCell 20 = .ok (.iconst 1, 1) := by decide +kernel
theorem dX10_isCell_21 : decode cX10_isCell 21 = .ok (.goto 4, 3) := by decide +kernel
theorem dX10_isCell_24 : decode cX10_isCell 24 = .ok (.iconst 0, 1) := by decide +kernel
theorem dX10_isCell_25 : decode cX10_isCell 25 = .ok (.ireturn, 1) := by decide +kernel
theorem dX10_isRefusedSleeper_0 : decode cX10_isRefusedSleeper 0 = .ok (.aload_n 0, 1) := by decide +kernel
theorem dX10_isRefusedSleeper_1 : decode cX10_isRefusedSleeper 1 = .ok (.getfield 7, 3) := by decide +kernel
theorem dX10_isRefusedSleeper_4 : decode cX10_isRefusedSleeper 4 = .ok (.iconst 0, 1) := by decide +kernel
theorem dX10_isRefusedSleeper_5 : decode cX10_isRefusedSleeper 5 = .ok (.iaload, 1) := by decide +kernel
theorem dX10_isRefusedSleeper_6 : decode cX10_isRefusedSleeper 6 = .ok (.iconst 5, 1) := by decide +kernel
theorem dX10_isRefusedSleeper_7 : decode cX10_isRefusedSleeper 7 = .ok (.if_icmp .ne 16, 3) := by decide +kernel
theorem dX10_isRefusedSleeper_10 : decode cX10_isRefusedSleeper 10 = .ok (.aload_n 0, 1) := by decide +kernel
theorem dX10_isRefusedSleeper_11 : decode cX10_isRefusedSleeper 11 = .ok (.iconst 1, 1) := by decide +kernel
theorem dX10_isRefusedSleeper_12 : decode cX10_isRefusedSleeper 12 = .ok (.iconst 5, 1) := by decide +kernel
theorem dX10_isRefusedSleeper_13 : decode cX10_isRefusedSleeper 13 = .ok (.invokevirtual 119, 3) := by decide +kernel
theorem dX10_isRefusedSleeper_16 : decode cX10_isRefusedSleeper 16 = .ok (.ifCond .eq 7, 3) := by decide +kernel
theorem dX10_isRefusedSleeper_19 : decode cX10_isRefusedSleeper 19 = .ok (.iconst 1, 1) := by decide +kernel
theorem dX10_isRefusedSleeper_20 : decode cX10_isRefusedSleeper 20 = .ok (.goto 4, 3) := by decide +kernel
theorem dX10_isRefusedSleeper_23 : decode cX10_isRefusedSleeper 23 = .ok (.iconst 0, 1) := by decide +kernel
theorem dX10_isRefusedSleeper_24 : decode cX10_isRefusedSleeper 24 = .ok (.ireturn, 1) := by decide +kernel
theorem dX10_comes_0 : decode cX10_comes 0 = .ok (.aload_n 0, 1) := by decide +kernel
theorem dX10_comes_1 : decode cX10_comes 1 = .ok (.getfield 7, 3) := by decide +kernel
theorem dX10_comes_4 : decode cX10_comes 4 = .ok (.iconst 0, 1) := by decide +kernel
theorem dX10_comes_5 : decode cX10_comes 5 = .ok (.iaload, 1) := by decide +kernel
theorem dX10_comes_6 : decode cX10_comes 6 = .ok (.istore_n 2, 1) := by decide +kernel
theorem dX10_comes_7 : decode cX10_comes 7 = .ok (.iconst 0, 1) := by decide +kernel
theorem dX10_comes_8 : decode cX10_comes 8 = .ok (.istore_n 3, 1) := by decide +kernel
theorem dX10_comes_9 : decode cX10_comes 9 = .ok (.iload_n 3, 1) := by decide +kernel
theorem dX10_comes_10 : decode cX10_comes 10 = .ok (.bipush 37, 2) := by decide +kernel
theorem dX10_comes_12 : decode cX10_comes 12 = .ok (.if_icmp .ge 16, 3) := by decide +kernel
theorem dX10_comes_15 : decode cX10_comes 15 = .ok (.aload_n 0, 1) := by decide +kernel
theorem dX10_comes_16 : decode cX10_comes 16 = .ok (.iload_n 2, 1) := by decide +kernel
theorem dX10_comes_17 : decode cX10_comes 17 = .ok (.iload_n 3, 1) := by decide +kernel
theorem dX10_comes_18 : decode cX10_comes 18 = .ok (.iconst 0, 1) := by decide +kernel
theorem dX10_comes_19 : decode cX10_comes 19 = .ok (.invokevirtual 123, 3) := by decide +kernel
theorem dX10_comes_22 : decode cX10_comes 22 = .ok (.iinc 3 1, 3) := by decide +kernel
theorem dX10_comes_25 : decode cX10_comes 25 = .ok (.goto (-16), 3) := by decide +kernel
theorem dX10_comes_28 : decode cX10_comes 28 = .ok (.aload_n 0, 1) := by decide +kernel
theorem dX10_comes_29 : decode cX10_comes 29 = .ok (.iload_n 2, 1) := by decide +kernel
theorem dX10_comes_30 : decode cX10_comes 30 = .ok (.iconst 0, 1) := by decide +kernel
theorem dX10_comes_31 : decode cX10_comes 31 = .ok (.iload_n 1, 1) := by decide +kernel
theorem dX10_comes_32 : decode cX10_comes 32 = .ok (.invokevirtual 123, 3) := by decide +kernel
theorem dX10_comes_35 : decode cX10_comes 35 = .ok (.aload_n 0, 1) := by decide +kernel
theorem dX10_comes_36 : decode cX10_comes 36 = .ok (.getfield 7, 3) := by decide +kernel
theorem dX10_comes_39 : decode cX10_comes 39 = .ok (.iconst 0, 1) := by decide +kernel
theorem dX10_comes_40 : decode cX10_comes 40 = .ok (.dup2, 1) := by decide +kernel
theorem dX10_comes_41 : decode cX10_comes 41 = .ok (.iaload, 1) := by decide +kernel
theorem dX10_comes_42 : decode cX10_comes 42 = .ok (.iconst 1, 1) := by decide +kernel
theorem dX10_comes_43 : decode cX10_comes 43 = .ok (.iadd, 1) := by decide +kernel
theorem dX10_comes_44 : decode cX10_comes 44 = .ok (.iastore, 1) := by decide +kernel
theorem dX10_comes_45 : decode cX10_comes 45 = .ok (.iload_n 2, 1) := by decide +kernel
theorem dX10_comes_46 : decode cX10_comes 46 = .ok (.ireturn, 1) := by decide +kernel
theorem dX10_sleeper_0 : decode cX10_sleeper 0 = .ok (.aload_n 0, 1) := by decide +kernel
theorem dX10_sleeper_1 : decode cX10_sleeper 1 = .ok (.invokevirtual 127, 3) := by decide +kernel
theorem dX10_sleeper_4 : decode cX10_sleeper 4 = .ok (.iload_n 1, 1) := by decide +kernel
theorem dX10_sleeper_5 : decode cX10_sleeper 5 = .ok (.iconst 1, 1) := by decide +kernel
theorem dX10_sleeper_6 : decode cX10_sleeper 6 = .ok (.bipush 9, 2) := by decide +kernel
theorem dX10_sleeper_8 : decode cX10_sleeper 8 = .ok (.invokestatic 115, 3) := by decide +kernel
theorem dX10_sleeper_11 : decode cX10_sleeper 11 = .ok (.ifCond .ne 9, 3) := by decide +kernel
theorem dX10_sleeper_14 : decode cX10_sleeper 14 = .ok (.aload_n 0, 1) := by decide +kernel
theorem dX10_sleeper_15 : decode cX10_sleeper 15 = .ok (.iconst 1, 1) := by decide +kernel
theorem dX10_sleeper_16 : decode cX10_sleeper 16 = .ok (.invokevirtual 103, 3) := by decide +kernel
theorem dX10_sleeper_19 : decode cX10_sleeper 19 = .ok (.ireturn, 1) := by decide +kernel
theorem dX10_sleeper_20 : decode cX10_sleeper 20 = .ok (.aload_n 0, 1) := by decide +kernel
theorem dX10_sleeper_21 : decode cX10_sleeper 21 = .ok (.invokevirtual 130, 3) := by decide +kernel
theorem dX10_sleeper_24 : decode cX10_sleeper 24 = .ok (.ifCond .eq 11, 3) := by decide +kernel
theorem dX10_sleeper_27 : decode cX10_sleeper 27 = .ok (.aload_n 0, 1) := by decide +kernel
theorem dX10_sleeper_28 : decode cX10_sleeper 28 = .ok (.iconst 2, 1) := by decide +kernel
theorem dX10_sleeper_29 : decode cX10_sleeper 29 = .ok (.invokevirtual 134, 3) := by decide +kernel
theorem dX10_sleeper_32 : decode cX10_sleeper 32 = .ok (.goto 12, 3) := by decide +kernel
theorem dX10_sleeper_35 : decode cX10_sleeper 35 = .ok (.aload_n 0, 1) := by decide +kernel
theorem dX10_sleeper_36 : decode cX10_sleeper 36 = .ok (.aload_n 0, 1) := by decide +kernel
theorem dX10_sleeper_37 : decode cX10_sleeper 37 = .ok (.iload_n 1, 1) := by decide +kernel
theorem dX10_sleeper_38 : decode cX10_sleeper 38 = .ok (.invokevirtual 137, 3) := by decide +kernel
theorem dX10_sleeper_41 : decode cX10_sleeper 41 = .ok (.invokevirtual 140, 3) := by decide +kernel
theorem dX10_sleeper_44 : decode cX10_sleeper 44 = .ok (.ireturn, 1) := by decide +kernel
theorem dX10_pegAt_0 : decode cX10_pegAt 0 = .ok (.iconst 0, 1) := by decide +kernel
theorem dX10_pegAt_1 : decode cX10_pegAt 1 = .ok (.istore_n 3, 1) := by decide +kernel
theorem dX10_pegAt_2 : decode cX10_pegAt 2 = .ok (.iload_n 3, 1) := by decide +kernel
theorem dX10_pegAt_3 : decode cX10_pegAt 3 = .ok (.aload_n 0, 1) := by decide +kernel
theorem dX10_pegAt_4 : decode cX10_pegAt 4 = .ok (.getfield 7, 3) := by decide +kernel
theorem dX10_pegAt_7 : decode cX10_pegAt 7 = .ok (.iconst 1, 1) := by decide +kernel
theorem dX10_pegAt_8 : decode cX10_pegAt 8 = .ok (.iaload, 1) := by decide +kernel
theorem dX10_pegAt_9 : decode cX10_pegAt 9 = .ok (.if_icmp .ge 31, 3) := by decide +kernel
theorem dX10_pegAt_12 : decode cX10_pegAt 12 = .ok (.aload_n 0, 1) := by decide +kernel
theorem dX10_pegAt_13 : decode cX10_pegAt 13 = .ok (.iload_n 3, 1) := by decide +kernel
theorem dX10_pegAt_14 : decode cX10_pegAt 14 = .ok (.iconst 0, 1) := by decide +kernel
theorem dX10_pegAt_15 : decode cX10_pegAt 15 = .ok (.invokevirtual 143, 3) := by decide +kernel
theorem dX10_pegAt_18 : decode cX10_pegAt 18 = .ok (.iload_n 1, 1) := by decide +kernel
theorem dX10_pegAt_19 : decode cX10_pegAt 19 = .ok (.if_icmp .ne 15, 3) := by decide +kernel
theorem dX10_pegAt_22 : decode cX10_pegAt 22 = .ok (.aload_n 0, 1) := by decide +kernel
theorem dX10_pegAt_23 : decode cX10_pegAt 23 = .ok (.iload_n 3, 1) := by decide +kernel
theorem dX10_pegAt_24 : decode cX10_pegAt 24 = .ok (.iconst 1, 1) := by decide +kernel
theorem dX10_pegAt_25 : decode cX10_pegAt 25 = .ok (.invokevirtual 143, 3) := by decide +kernel
theorem dX10_pegAt_28 : decode cX10_pegAt 28 = .ok (.iload_n 2, 1) := by decide +kernel
theorem dX10_pegAt_29 : decode cX10_pegAt 29 = .ok (.if_icmp .ne 5, 3) := by decide +kernel
theorem dX10_pegAt_32 : decode cX10_pegAt 32 = .ok (.iload_n 3, 1) := by decide +kernel
theorem dX10_pegAt_33 : decode cX10_pegAt 33 = .ok (.ireturn, 1) := by decide +kernel
theorem dX10_pegAt_34 : decode cX10_pegAt 34 = .ok (.iinc 3 1, 3) := by decide +kernel
theorem dX10_pegAt_37 : decode cX10_pegAt 37 = .ok (.goto (-35), 3) := by decide +kernel
theorem dX10_pegAt_40 : decode cX10_pegAt 40 = .ok (.iconst (-1), 1) := by decide +kernel
theorem dX10_pegAt_41 : decode cX10_pegAt 41 = .ok (.ireturn, 1) := by decide +kernel
theorem dX10_isLit_0 : decode cX10_isLit 0 = .ok (.aload_n 0, 1) := by decide +kernel
theorem dX10_isLit_1 : decode cX10_isLit 1 = .ok (.getfield 7, 3) := by decide +kernel
theorem dX10_isLit_4 : decode cX10_isLit 4 = .ok (.iconst 2, 1) := by decide +kernel
theorem dX10_isLit_5 : decode cX10_isLit 5 = .ok (.iaload, 1) := by decide +kernel
theorem dX10_isLit_6 : decode cX10_isLit 6 = .ok (.aload_n 0, 1) := by decide +kernel
theorem dX10_isLit_7 : decode cX10_isLit 7 = .ok (.iload_n 1, 1) := by decide +kernel
theorem dX10_isLit_8 : decode cX10_isLit 8 = .ok (.iconst 2, 1) := by decide +kernel
theorem dX10_isLit_9 : decode cX10_isLit 9 = .ok (.invokevirtual 143, 3) := by decide +kernel
theorem dX10_isLit_12 : decode cX10_isLit 12 = .ok (.irem, 1) := by decide +kernel
theorem dX10_isLit_13 : decode cX10_isLit 13 = .ok (.ifCond .ne 7, 3) := by decide +kernel
theorem dX10_isLit_16 : decode cX10_isLit 16 = .ok (.iconst 1, 1) := by decide +kernel
theorem dX10_isLit_17 : decode cX10_isLit 17 = .ok (.goto 4, 3) := by decide +kernel
theorem dX10_isLit_20 : decode cX10_isLit 20 = .ok (.iconst 0, 1) := by decide +kernel
theorem dX10_isLit_21 : decode cX10_isLit 21 = .ok (.ireturn, 1) := by decide +kernel
theorem dX10_isPeriod_0 : decode cX10_isPeriod 0 = .ok (.iload_n 0, 1) := by decide +kernel
theorem dX10_isPeriod_1 : decode cX10_isPeriod 1 = .ok (.iconst 2, 1) := by decide +kernel
theorem dX10_isPeriod_2 : decode cX10_isPeriod 2 = .ok (.iconst 5, 1) := by decide +kernel
theorem dX10_isPeriod_3 : decode cX10_isPeriod 3 = .ok (.invokestatic 115, 3) := by decide +kernel
theorem dX10_isPeriod_6 : decode cX10_isPeriod 6 = .ok (.ireturn, 1) := by decide +kernel
theorem dX10_isRefusedPeg_0 : decode cX10_isRefusedPeg 0 = .ok (.aload_n 0, 1) := by decide +kernel
theorem dX10_isRefusedPeg_1 : decode cX10_isRefusedPeg 1 = .ok (.iload_n 1, 1) := by decide +kernel
theorem dX10_isRefusedPeg_2 : decode cX10_isRefusedPeg 2 = .ok (.iload_n 2, 1) := by decide +kernel
theorem dX10_isRefusedPeg_3 : decode cX10_isRefusedPeg 3 = .ok (.invokevirtual 146, 3) := by decide +kernel
theorem dX10_isRefusedPeg_6 : decode cX10_isRefusedPeg 6 = .ok (.ifCond .lt 15, 3) := by decide +kernel
theorem dX10_isRefusedPeg_9 : decode cX10_isRefusedPeg 9 = .ok (.aload_n 0, 1) := by decide +kernel
theorem dX10_isRefusedPeg_10 : decode cX10_isRefusedPeg 10 = .ok (.iconst 2, 1) := by decide +kernel
theorem dX10_isRefusedPeg_11 : decode cX10_isRefusedPeg 11 = .ok (.aload_n 0, 1) := by decide +kernel
theorem dX10_isRefusedPeg_12 : decode cX10_isRefusedPeg 12 = .ok (.iload_n 1, 1) := by decide +kernel
theorem dX10_isRefusedPeg_13 : decode cX10_isRefusedPeg 13 = .ok (.iload_n 2, 1) := by decide +kernel
theorem dX10_isRefusedPeg_14 : decode cX10_isRefusedPeg 14 = .ok (.invokevirtual 146, 3) := by decide +kernel
theorem dX10_isRefusedPeg_17 : decode cX10_isRefusedPeg 17 = .ok (.invokevirtual 119, 3) := by decide +kernel
theorem dX10_isRefusedPeg_20 : decode cX10_isRefusedPeg 20 = .ok (.ireturn, 1) := by decide +kernel
theorem dX10_isRefusedPeg_21 : decode cX10_isRefusedPeg 21 = .ok (.aload_n 0, 1) := by decide +kernel
theorem dX10_isRefusedPeg_22 : decode cX10_isRefusedPeg 22 = .ok (.getfield 7, 3) := by decide +kernel
theorem dX10_isRefusedPeg_25 : decode cX10_isRefusedPeg 25 = .ok (.iconst 1, 1) := by decide +kernel
theorem dX10_isRefusedPeg_26 : decode cX10_isRefusedPeg 26 = .ok (.iaload, 1) := by decide +kernel
theorem dX10_isRefusedPeg_27 : decode cX10_isRefusedPeg 27 = .ok (.bipush 8, 2) := by decide +kernel
theorem dX10_isRefusedPeg_29 : decode cX10_isRefusedPeg 29 = .ok (.if_icmp .ne 17, 3) := by decide +kernel
theorem dX10_isRefusedPeg_32 : decode cX10_isRefusedPeg 32 = .ok (.aload_n 0, 1) := by decide +kernel
theorem dX10_isRefusedPeg_33 : decode cX10_isRefusedPeg 33 = .ok (.iconst 1, 1) := by decide +kernel
theorem dX10_isRefusedPeg_34 : decode cX10_isRefusedPeg 34 = .ok (.bipush 8, 2) := by decide +kernel
theorem dX10_isRefusedPeg_36 : decode cX10_isRefusedPeg 36 = .ok (.invokevirtual 119, 3) := by decide +kernel
theorem dX10_isRefusedPeg_39 : decode cX10_isRefusedPeg 39 = .ok (.ifCond .eq 7, 3) := by decide +kernel
theorem dX10_isRefusedPeg_42 : decode cX10_isRefusedPeg 42 = .ok (.iconst 1, 1) := by decide +kernel
theorem dX10_isRefusedPeg_43 : decode cX10_isRefusedPeg 43 = .ok (.goto 4, 3) := by decide +kernel
theorem dX10_isRefusedPeg_46 : decode cX10_isRefusedPeg 46 = .ok (.iconst 0, 1) := by decide +kernel
theorem dX10_isRefusedPeg_47 : decode cX10_isRefusedPeg 47 = .ok (.ireturn, 1) := by decide +kernel
theorem dX10_sets_0 : decode cX10_sets 0 = .ok (.aload_n 0, 1) := by decide +kernel
theorem dX10_sets_1 : decode cX10_sets 1 = .ok (.getfield 7, 3) := by decide +kernel
theorem dX10_sets_4 : decode cX10_sets 4 = .ok (.iconst 1, 1) := by decide +kernel
theorem dX10_sets_5 : decode cX10_sets 5 = .ok (.iaload, 1) := by decide +kernel
theorem dX10_sets_6 : decode cX10_sets 6 = .ok (.istore 4, 2) := by decide +kernel
theorem dX10_sets_8 : decode cX10_sets 8 = .ok (.aload_n 0, 1) := by decide +kernel
theorem dX10_sets_9 : decode cX10_sets 9 = .ok (.getfield 7, 3) := by decide +kernel
theorem dX10_sets_12 : decode cX10_sets 12 = .ok (.bipush 6, 2) := by decide +kernel
theorem dX10_sets_14 : decode cX10_sets 14 = .ok (.iconst 3, 1) := by decide +kernel
theorem dX10_sets_15 : decode cX10_sets 15 = .ok (.iload 4, 2) := by decide +kernel
theorem dX10_sets_17 : decode cX10_sets 17 = .ok (.imul, 1) := by decide +kernel
theorem dX10_sets_18 : decode cX10_sets 18 = .ok (.iadd, 1) := by decide +kernel
theorem dX10_sets_19 : decode cX10_sets 19 = .ok (.iload_n 1, 1) := by decide +kernel
theorem dX10_sets_20 : decode cX10_sets 20 = .ok (.iastore, 1) := by decide +kernel
theorem dX10_sets_21 : decode cX10_sets 21 = .ok (.aload_n 0, 1) := by decide +kernel
theorem dX10_sets_22 : decode cX10_sets 22 = .ok (.getfield 7, 3) := by decide +kernel
theorem dX10_sets_25 : decode cX10_sets 25 = .ok (.bipush 6, 2) := by decide +kernel
theorem dX10_sets_27 : decode cX10_sets 27 = .ok (.iconst 3, 1) := by decide +kernel
theorem dX10_sets_28 : decode cX10_sets 28 = .ok (.iload 4, 2) := by decide +kernel
theorem dX10_sets_30 : decode cX10_sets 30 = .ok (.imul, 1) := by decide +kernel
theorem dX10_sets_31 : decode cX10_sets 31 = .ok (.iadd, 1) := by decide +kernel
theorem dX10_sets_32 : decode cX10_sets 32 = .ok (.iconst 1, 1) := by decide +kernel
theorem dX10_sets_33 : decode cX10_sets 33 = .ok (.iadd, 1) := by decide +kernel
theorem dX10_sets_34 : decode cX10_sets 34 = .ok (.iload_n 2, 1) := by decide +kernel
theorem dX10_sets_35 : decode cX10_sets 35 = .ok (.iastore, 1) := by decide +kernel
theorem dX10_sets_36 : decode cX10_sets 36 = .ok (.aload_n 0, 1) := by decide +kernel
theorem dX10_sets_37 : decode cX10_sets 37 = .ok (.getfield 7, 3) := by decide +kernel
theorem dX10_sets_40 : decode cX10_sets 40 = .ok (.bipush 6, 2) := by decide +kernel
theorem dX10_sets_42 : decode cX10_sets 42 = .ok (.iconst 3, 1) := by decide +kernel
theorem dX10_sets_43 : decode cX10_sets 43 = .ok (.iload 4, 2) := by decide +kernel
theorem dX10_sets_45 : decode cX10_sets 45 = .ok (.imul, 1) := by decide +kernel
theorem dX10_sets_46 : decode cX10_sets 46 = .ok (.iadd, 1) := by decide +kernel
theorem dX10_sets_47 : decode cX10_sets 47 = .ok (.iconst 2, 1) := by decide +kernel
theorem dX10_sets_48 : decode cX10_sets 48 = .ok (.iadd, 1) := by decide +kernel
theorem dX10_sets_49 : decode cX10_sets 49 = .ok (.iload_n 3, 1) := by decide +kernel
theorem dX10_sets_50 : decode cX10_sets 50 = .ok (.iastore, 1) := by decide +kernel
theorem dX10_sets_51 : decode cX10_sets 51 = .ok (.aload_n 0, 1) := by decide +kernel
theorem dX10_sets_52 : decode cX10_sets 52 = .ok (.getfield 7, 3) := by decide +kernel
theorem dX10_sets_55 : decode cX10_sets 55 = .ok (.iconst 1, 1) := by decide +kernel
theorem dX10_sets_56 : decode cX10_sets 56 = .ok (.dup2, 1) := by decide +kernel
theorem dX10_sets_57 : decode cX10_sets 57 = .ok (.iaload, 1) := by decide +kernel
theorem dX10_sets_58 : decode cX10_sets 58 = .ok (.iconst 1, 1) := by decide +kernel
theorem dX10_sets_59 : decode cX10_sets 59 = .ok (.iadd, 1) := by decide +kernel
theorem dX10_sets_60 : decode cX10_sets 60 = .ok (.iastore, 1) := by decide +kernel
theorem dX10_sets_61 : decode cX10_sets 61 = .ok (.iload 4, 2) := by decide +kernel
theorem dX10_sets_63 : decode cX10_sets 63 = .ok (.ireturn, 1) := by decide +kernel
theorem dX10_peg_0 : decode cX10_peg 0 = .ok (.aload_n 0, 1) := by decide +kernel
theorem dX10_peg_1 : decode cX10_peg 1 = .ok (.invokevirtual 127, 3) := by decide +kernel
theorem dX10_peg_4 : decode cX10_peg 4 = .ok (.iload_n 1, 1) := by decide +kernel
theorem dX10_peg_5 : decode cX10_peg 5 = .ok (.iload_n 2, 1) := by decide +kernel
theorem dX10_peg_6 : decode cX10_peg 6 = .ok (.invokestatic 149, 3) := by decide +kernel
theorem dX10_peg_9 : decode cX10_peg 9 = .ok (.ifCond .ne 9, 3) := by decide +kernel
theorem dX10_peg_12 : decode cX10_peg 12 = .ok (.aload_n 0, 1) := by decide +kernel
theorem dX10_peg_13 : decode cX10_peg 13 = .ok (.iconst 1, 1) := by decide +kernel
theorem dX10_peg_14 : decode cX10_peg 14 = .ok (.invokevirtual 103, 3) := by decide +kernel
theorem dX10_peg_17 : decode cX10_peg 17 = .ok (.ireturn, 1) := by decide +kernel
theorem dX10_peg_18 : decode cX10_peg 18 = .ok (.iload_n 3, 1) := by decide +kernel
theorem dX10_peg_19 : decode cX10_peg 19 = .ok (.invokestatic 152, 3) := by decide +kernel
theorem dX10_peg_22 : decode cX10_peg 22 = .ok (.ifCond .ne 9, 3) := by decide +kernel
theorem dX10_peg_25 : decode cX10_peg 25 = .ok (.aload_n 0, 1) := by decide +kernel
theorem dX10_peg_26 : decode cX10_peg 26 = .ok (.iconst 2, 1) := by decide +kernel
theorem dX10_peg_27 : decode cX10_peg 27 = .ok (.invokevirtual 103, 3) := by decide +kernel
theorem dX10_peg_30 : decode cX10_peg 30 = .ok (.ireturn, 1) := by decide +kernel
theorem dX10_peg_31 : decode cX10_peg 31 = .ok (.aload_n 0, 1) := by decide +kernel
theorem dX10_peg_32 : decode cX10_peg 32 = .ok (.iload_n 1, 1) := by decide +kernel
theorem dX10_peg_33 : decode cX10_peg 33 = .ok (.iload_n 2, 1) := by decide +kernel
theorem dX10_peg_34 : decode cX10_peg 34 = .ok (.invokevirtual 156, 3) := by decide +kernel
theorem dX10_peg_37 : decode cX10_peg 37 = .ok (.ifCond .eq 11, 3) := by decide +kernel
theorem dX10_peg_40 : decode cX10_peg 40 = .ok (.aload_n 0, 1) := by decide +kernel
theorem dX10_peg_41 : decode cX10_peg 41 = .ok (.iconst 3, 1) := by decide +kernel
theorem dX10_peg_42 : decode cX10_peg 42 = .ok (.invokevirtual 134, 3) := by decide +kernel
theorem dX10_peg_45 : decode cX10_peg 45 = .ok (.goto 14, 3) := by decide +kernel
theorem dX10_peg_48 : decode cX10_peg 48 = .ok (.aload_n 0, 1) := by decide +kernel
theorem dX10_peg_49 : decode cX10_peg 49 = .ok (.aload_n 0, 1) := by decide +kernel
theorem dX10_peg_50 : decode cX10_peg 50 = .ok (.iload_n 1, 1) := by decide +kernel
theorem dX10_peg_51 : decode cX10_peg 51 = .ok (.iload_n 2, 1) := by decide +kernel
theorem dX10_peg_52 : decode cX10_peg 52 = .ok (.iload_n 3, 1) := by decide +kernel
theorem dX10_peg_53 : decode cX10_peg 53 = .ok (.invokevirtual 159, 3) := by decide +kernel
theorem dX10_peg_56 : decode cX10_peg 56 = .ok (.invokevirtual 140, 3) := by decide +kernel
theorem dX10_peg_59 : decode cX10_peg 59 = .ok (.ireturn, 1) := by decide +kernel
theorem dX10_isRefusedPlot_0 : decode cX10_isRefusedPlot 0 = .ok (.aload_n 0, 1) := by decide +kernel
theorem dX10_isRefusedPlot_1 : decode cX10_isRefusedPlot 1 = .ok (.iload_n 1, 1) := by decide +kernel
theorem dX10_isRefusedPlot_2 : decode cX10_isRefusedPlot 2 = .ok (.iconst 1, 1) := by decide +kernel
theorem dX10_isRefusedPlot_3 : decode cX10_isRefusedPlot 3 = .ok (.invokevirtual 111, 3) := by decide +kernel
theorem dX10_isRefusedPlot_6 : decode cX10_isRefusedPlot 6 = .ok (.ifCond .le 21, 3) := by decide +kernel
theorem dX10_isRefusedPlot_9 : decode cX10_isRefusedPlot 9 = .ok (.aload_n 0, 1) := by decide +kernel
theorem dX10_isRefusedPlot_10 : decode cX10_isRefusedPlot 10 = .ok (.iconst 3, 1) := by decide +kernel
theorem dX10_isRefusedPlot_11 : decode cX10_isRefusedPlot 11 = .ok (.aload_n 0, 1) := by decide +kernel
theorem dX10_isRefusedPlot_12 : decode cX10_isRefusedPlot 12 = .ok (.iload_n 1, 1) := by decide +kernel
theorem dX10_isRefusedPlot_13 : decode cX10_isRefusedPlot 13 = .ok (.iconst 4, 1) := by decide +kernel
theorem dX10_isRefusedPlot_14 : decode cX10_isRefusedPlot 14 = .ok (.invokevirtual 111, 3) := by decide +kernel
theorem dX10_isRefusedPlot_17 : decode cX10_isRefusedPlot 17 = .ok (.invokevirtual 119, 3) := by decide +kernel
theorem dX10_isRefusedPlot_20 : decode cX10_isRefusedPlot 20 = .ok (.ifCond .eq 7, 3) := by decide +kernel
theorem dX10_isRefusedPlot_23 : decode cX10_isRefusedPlot 23 = .ok (.iconst 1, 1) := by decide +kernel
theorem dX10_isRefusedPlot_24 : decode cX10_isRefusedPlot 24 = .ok (.goto 4, 3) := by decide +kernel
theorem dX10_isRefusedPlot_27 : decode cX10_isRefusedPlot 27 = .ok (.iconst 0, 1) := by decide +kernel
theorem dX10_isRefusedPlot_28 : decode cX10_isRefusedPlot 28 = .ok (.ireturn, 1) := by decide +kernel
theorem dX10_plots_0 : decode cX10_plots 0 = .ok (.iconst 0, 1) := by decide +kernel
theorem dX10_plots_1 : decode cX10_plots 1 = .ok (.istore_n 2, 1) := by decide +kernel
theorem dX10_plots_2 : decode cX10_plots 2 = .ok (.iconst 0, 1) := by decide +kernel
theorem dX10_plots_3 : decode cX10_plots 3 = .ok (.istore_n 3, 1) := by decide +kernel
theorem dX10_plots_4 : decode cX10_plots 4 = .ok (.iload_n 3, 1) := by decide +kernel
theorem dX10_plots_5 : decode cX10_plots 5 = .ok (.aload_n 0, 1) := by decide +kernel
theorem dX10_plots_6 : decode cX10_plots 6 = .ok (.getfield 7, 3) := by decide +kernel
theorem dX10_plots_9 : decode cX10_plots 9 = .ok (.iconst 0, 1) := by decide +kernel
theorem dX10_plots_10 : decode cX10_plots 10 = .ok (.iaload, 1) := by decide +kernel
theorem dX10_plots_11 : decode cX10_plots 11 = .ok (.if_icmp .ge 27, 3) := by decide +kernel
theorem dX10_plots_14 : decode cX10_plots 14 = .ok (.iload_n 2, 1) := by decide +kernel
theorem dX10_plots_15 : decode cX10_plots 15 = .ok (.aload_n 0, 1) := by decide +kernel
theorem dX10_plots_16 : decode cX10_plots 16 = .ok (.iload_n 3, 1) := by decide +kernel
theorem dX10_plots_17 : decode cX10_plots 17 = .ok (.iconst 1, 1) := by decide +kernel
theorem dX10_plots_18 : decode cX10_plots 18 = .ok (.invokevirtual 111, 3) := by decide +kernel
theorem dX10_plots_21 : decode cX10_plots 21 = .ok (.iload_n 1, 1) := by decide +kernel
theorem dX10_plots_22 : decode cX10_plots 22 = .ok (.if_icmp .lt 7, 3) := by decide +kernel
theorem dX10_plots_25 : decode cX10_plots 25 = .ok (.iconst 1, 1) := by decide +kernel
theorem dX10_plots_26 : decode cX10_plots 26 = .ok (.goto 4, 3) := by decide +kernel
theorem dX10_plots_29 : decode cX10_plots 29 = .ok (.iconst 0, 1) := by decide +kernel
theorem dX10_plots_30 : decode cX10_plots 30 = .ok (.iadd, 1) := by decide +kernel
theorem dX10_plots_31 : decode cX10_plots 31 = .ok (.istore_n 2, 1) := by decide +kernel
theorem dX10_plots_32 : decode cX10_plots 32 = .ok (.iinc 3 1, 3) := by decide +kernel
theorem dX10_plots_35 : decode cX10_plots 35 = .ok (.goto (-31), 3) := by decide +kernel
theorem dX10_plots_38 : decode cX10_plots 38 = .ok (.iload_n 2, 1) := by decide +kernel
theorem dX10_plots_39 : decode cX10_plots 39 = .ok (.ireturn, 1) := by decide +kernel
theorem dX10_starts_0 : decode cX10_starts 0 = .ok (.aload_n 0, 1) := by decide +kernel
theorem dX10_starts_1 : decode cX10_starts 1 = .ok (.iload_n 1, 1) := by decide +kernel
theorem dX10_starts_2 : decode cX10_starts 2 = .ok (.iconst 1, 1) := by decide +kernel
theorem dX10_starts_3 : decode cX10_starts 3 = .ok (.iconst 1, 1) := by decide +kernel
theorem dX10_starts_4 : decode cX10_starts 4 = .ok (.invokevirtual 123, 3) := by decide +kernel
theorem dX10_starts_7 : decode cX10_starts 7 = .ok (.aload_n 0, 1) := by decide +kernel
theorem dX10_starts_8 : decode cX10_starts 8 = .ok (.iload_n 1, 1) := by decide +kernel
theorem dX10_starts_9 : decode cX10_starts 9 = .ok (.iconst 2, 1) := by decide +kernel
theorem dX10_starts_10 : decode cX10_starts 10 = .ok (.iload_n 2, 1) := by decide +kernel
theorem dX10_starts_11 : decode cX10_starts 11 = .ok (.invokevirtual 123, 3) := by decide +kernel
theorem dX10_starts_14 : decode cX10_starts 14 = .ok (.aload_n 0, 1) := by decide +kernel
theorem dX10_starts_15 : decode cX10_starts 15 = .ok (.iload_n 1, 1) := by decide +kernel
theorem dX10_starts_16 : decode cX10_starts 16 = .ok (.iconst 3, 1) := by decide +kernel
theorem dX10_starts_17 : decode cX10_starts 17 = .ok (.iload_n 3, 1) := by decide +kernel
theorem dX10_starts_18 : decode cX10_starts 18 = .ok (.invokevirtual 123, 3) := by decide +kernel
theorem dX10_starts_21 : decode cX10_starts 21 = .ok (.aload_n 0, 1) := by decide +kernel
theorem dX10_starts_22 : decode cX10_starts 22 = .ok (.iload_n 1, 1) := by decide +kernel
theorem dX10_starts_23 : decode cX10_starts 23 = .ok (.iconst 4, 1) := by decide +kernel
theorem dX10_starts_24 : decode cX10_starts 24 = .ok (.iconst 0, 1) := by decide +kernel
theorem dX10_starts_25 : decode cX10_starts 25 = .ok (.invokevirtual 123, 3) := by decide +kernel
theorem dX10_starts_28 : decode cX10_starts 28 = .ok (.aload_n 0, 1) := by decide +kernel
theorem dX10_starts_29 : decode cX10_starts 29 = .ok (.iconst 1, 1) := by decide +kernel
theorem dX10_starts_30 : decode cX10_starts 30 = .ok (.invokevirtual 163, 3) := by decide +kernel
theorem dX10_starts_33 : decode cX10_starts 33 = .ok (.ireturn, 1) := by decide +kernel
theorem dX10_plot_0 : decode cX10_plot 0 = .ok (.aload_n 0, 1) := by decide +kernel
theorem dX10_plot_1 : decode cX10_plot 1 = .ok (.invokevirtual 127, 3) := by decide +kernel
theorem dX10_plot_4 : decode cX10_plot 4 = .ok (.aload_n 0, 1) := by decide +kernel
theorem dX10_plot_5 : decode cX10_plot 5 = .ok (.iload_n 1, 1) := by decide +kernel
theorem dX10_plot_6 : decode cX10_plot 6 = .ok (.invokevirtual 166, 3) := by decide +kernel
theorem dX10_plot_9 : decode cX10_plot 9 = .ok (.ifCond .eq 11, 3) := by decide +kernel
theorem dX10_plot_12 : decode cX10_plot 12 = .ok (.iload_n 2, 1) := by decide +kernel
theorem dX10_plot_13 : decode cX10_plot 13 = .ok (.iload_n 3, 1) := by decide +kernel
theorem dX10_plot_14 : decode cX10_plot 14 = .ok (.invokestatic 149, 3) := by decide +kernel
theorem dX10_plot_17 : decode cX10_plot 17 = .ok (.ifCond .ne 9, 3) := by decide +kernel
theorem dX10_plot_20 : decode cX10_plot 20 = .ok (.aload_n 0, 1) := by decide +kernel
theorem dX10_plot_21 : decode cX10_plot 21 = .ok (.iconst 1, 1) := by decide +kernel
theorem dX10_plot_22 : decode cX10_plot 22 = .ok (.invokevirtual 103, 3) := by decide +kernel
theorem dX10_plot_25 : decode cX10_plot 25 = .ok (.ireturn, 1) := by decide +kernel
theorem dX10_plot_26 : decode cX10_plot 26 = .ok (.aload_n 0, 1) := by decide +kernel
theorem dX10_plot_27 : decode cX10_plot 27 = .ok (.iload_n 1, 1) := by decide +kernel
theorem dX10_plot_28 : decode cX10_plot 28 = .ok (.invokevirtual 169, 3) := by decide +kernel
theorem dX10_plot_31 : decode cX10_plot 31 = .ok (.ifCond .eq 11, 3) := by decide +kernel
theorem dX10_plot_34 : decode cX10_plot 34 = .ok (.aload_n 0, 1) := by decide +kernel
theorem dX10_plot_35 : decode cX10_plot 35 = .ok (.iconst 2, 1) := by decide +kernel
theorem dX10_plot_36 : decode cX10_plot 36 = .ok (.invokevirtual 134, 3) := by decide +kernel
theorem dX10_plot_39 : decode cX10_plot 39 = .ok (.goto 14, 3) := by decide +kernel
theorem dX10_plot_42 : decode cX10_plot 42 = .ok (.aload_n 0, 1) := by decide +kernel
theorem dX10_plot_43 : decode cX10_plot 43 = .ok (.aload_n 0, 1) := by decide +kernel
theorem dX10_plot_44 : decode cX10_plot 44 = .ok (.iload_n 1, 1) := by decide +kernel
theorem dX10_plot_45 : decode cX10_plot 45 = .ok (.iload_n 2, 1) := by decide +kernel
theorem dX10_plot_46 : decode cX10_plot 46 = .ok (.iload_n 3, 1) := by decide +kernel
theorem dX10_plot_47 : decode cX10_plot 47 = .ok (.invokevirtual 172, 3) := by decide +kernel
theorem dX10_plot_50 : decode cX10_plot 50 = .ok (.invokevirtual 140, 3) := by decide +kernel
theorem dX10_plot_53 : decode cX10_plot 53 = .ok (.ireturn, 1) := by decide +kernel
theorem dX10_stepX_0 : decode cX10_stepX 0 = .ok (.iload_n 0, 1) := by decide +kernel
theorem dX10_stepX_1 : decode cX10_stepX 1 = .ok (.iconst 1, 1) := by decide +kernel
theorem dX10_stepX_2 : decode cX10_stepX 2 = .ok (.if_icmp .ne 7, 3) := by decide +kernel
theorem dX10_stepX_5 : decode cX10_stepX 5 = .ok (.iconst 1, 1) := by decide +kernel
theorem dX10_stepX_6 : decode cX10_stepX 6 = .ok (.goto 13, 3) := by decide +kernel
theorem dX10_stepX_9 : decode cX10_stepX 9 = .ok (.iload_n 0, 1) := by decide +kernel
theorem dX10_stepX_10 : decode cX10_stepX 10 = .ok (.iconst 3, 1) := by decide +kernel
theorem dX10_stepX_11 : decode cX10_stepX 11 = .ok (.if_icmp .ne 7, 3) := by decide +kernel
theorem dX10_stepX_14 : decode cX10_stepX 14 = .ok (.iconst (-1), 1) := by decide +kernel
theorem dX10_stepX_15 : decode cX10_stepX 15 = .ok (.goto 4, 3) := by decide +kernel
theorem dX10_stepX_18 : decode cX10_stepX 18 = .ok (.iconst 0, 1) := by decide +kernel
theorem dX10_stepX_19 : decode cX10_stepX 19 = .ok (.ireturn, 1) := by decide +kernel
theorem dX10_stepY_0 : decode cX10_stepY 0 = .ok (.iload_n 0, 1) := by decide +kernel
theorem dX10_stepY_1 : decode cX10_stepY 1 = .ok (.ifCond .ne 7, 3) := by decide +kernel
theorem dX10_stepY_4 : decode cX10_stepY 4 = .ok (.iconst (-1), 1) := by decide +kernel
theorem dX10_stepY_5 : decode cX10_stepY 5 = .ok (.goto 13, 3) := by decide +kernel
theorem dX10_stepY_8 : decode cX10_stepY 8 = .ok (.iload_n 0, 1) := by decide +kernel
theorem dX10_stepY_9 : decode cX10_stepY 9 = .ok (.iconst 2, 1) := by decide +kernel
theorem dX10_stepY_10 : decode cX10_stepY 10 = .ok (.if_icmp .ne 7, 3) := by decide +kernel
theorem dX10_stepY_13 : decode cX10_stepY 13 = .ok (.iconst 1, 1) := by decide +kernel
theorem dX10_stepY_14 : decode cX10_stepY 14 = .ok (.goto 4, 3) := by decide +kernel
theorem dX10_stepY_17 : decode cX10_stepY 17 = .ok (.iconst 0, 1) := by decide +kernel
theorem dX10_stepY_18 : decode cX10_stepY 18 = .ok (.ireturn, 1) := by decide +kernel
theorem dX10_goesTo_0 : decode cX10_goesTo 0 = .ok (.aload_n 0, 1) := by decide +kernel
theorem dX10_goesTo_1 : decode cX10_goesTo 1 = .ok (.aload_n 0, 1) := by decide +kernel
theorem dX10_goesTo_2 : decode cX10_goesTo 2 = .ok (.iload_n 1, 1) := by decide +kernel
theorem dX10_goesTo_3 : decode cX10_goesTo 3 = .ok (.iconst 2, 1) := by decide +kernel
theorem dX10_goesTo_4 : decode cX10_goesTo 4 = .ok (.invokevirtual 111, 3) := by decide +kernel
theorem dX10_goesTo_7 : decode cX10_goesTo 7 = .ok (.putfield 54, 3) := by decide +kernel
theorem dX10_goesTo_10 : decode cX10_goesTo 10 = .ok (.aload_n 0, 1) := by decide +kernel
theorem dX10_goesTo_11 : decode cX10_goesTo 11 = .ok (.aload_n 0, 1) := by decide +kernel
theorem dX10_goesTo_12 : decode cX10_goesTo 12 = .ok (.iload_n 1, 1) := by decide +kernel
theorem dX10_goesTo_13 : decode cX10_goesTo 13 = .ok (.iconst 3, 1) := by decide +kernel
theorem dX10_goesTo_14 : decode cX10_goesTo 14 = .ok (.invokevirtual 111, 3) := by decide +kernel
theorem dX10_goesTo_17 : decode cX10_goesTo 17 = .ok (.putfield 57, 3) := by decide +kernel
theorem dX10_goesTo_20 : decode cX10_goesTo 20 = .ok (.iconst 0, 1) := by decide +kernel
theorem dX10_goesTo_21 : decode cX10_goesTo 21 = .ok (.istore_n 3, 1) := by decide +kernel
theorem dX10_goesTo_22 : decode cX10_goesTo 22 = .ok (.iload_n 3, 1) := by decide +kernel
theorem dX10_goesTo_23 : decode cX10_goesTo 23 = .ok (.iload_n 2, 1) := by decide +kernel
theorem dX10_goesTo_24 : decode cX10_goesTo 24 = .ok (.if_icmp .ge 59, 3) := by decide +kernel
theorem dX10_goesTo_27 : decode cX10_goesTo 27 = .ok (.aload_n 0, 1) := by decide +kernel
theorem dX10_goesTo_28 : decode cX10_goesTo 28 = .ok (.dup, 1) := by decide +kernel
theorem dX10_goesTo_29 : decode cX10_goesTo 29 = .ok (.getfield 54, 3) := by decide +kernel
theorem dX10_goesTo_32 : decode cX10_goesTo 32 = .ok (.aload_n 0, 1) := by decide +kernel
theorem dX10_goesTo_33 : decode cX10_goesTo 33 = .ok (.iload_n 1, 1) := by decide +kernel
theorem dX10_goesTo_34 : decode cX10_goesTo 34 = .ok (.iload_n 3, 1) := by decide +kernel
theorem dX10_goesTo_35 : decode cX10_goesTo 35 = .ok (.invokevirtual 175, 3) := by decide +kernel
theorem dX10_goesTo_38 : decode cX10_goesTo 38 = .ok (.aload_n 0, 1) := by decide +kernel
theorem dX10_goesTo_39 : decode cX10_goesTo 39 = .ok (.iload_n 1, 1) := by decide +kernel
theorem dX10_goesTo_40 : decode cX10_goesTo 40 = .ok (.iload_n 3, 1) := by decide +kernel
theorem dX10_goesTo_41 : decode cX10_goesTo 41 = .ok (.invokevirtual 178, 3) := by decide +kernel
theorem dX10_goesTo_44 : decode cX10_goesTo 44 = .ok (.invokestatic 181, 3) := by decide +kernel
theorem dX10_goesTo_47 : decode cX10_goesTo 47 = .ok (.imul, 1) := by decide +kernel
theorem dX10_goesTo_48 : decode cX10_goesTo 48 = .ok (.iadd, 1) := by decide +kernel
theorem dX10_goesTo_49 : decode cX10_goesTo 49 = .ok (.putfield 54, 3) := by decide +kernel
theorem dX10_goesTo_52 : decode cX10_goesTo 52 = .ok (.aload_n 0, 1) := by decide +kernel
theorem dX10_goesTo_53 : decode cX10_goesTo 53 = .ok (.dup, 1) := by decide +kernel
theorem dX10_goesTo_54 : decode cX10_goesTo 54 = .ok (.getfield 57, 3) := by decide +kernel
theorem dX10_goesTo_57 : decode cX10_goesTo 57 = .ok (.aload_n 0, 1) := by decide +kernel
theorem dX10_goesTo_58 : decode cX10_goesTo 58 = .ok (.iload_n 1, 1) := by decide +kernel
theorem dX10_goesTo_59 : decode cX10_goesTo 59 = .ok (.iload_n 3, 1) := by decide +kernel
theorem dX10_goesTo_60 : decode cX10_goesTo 60 = .ok (.invokevirtual 175, 3) := by decide +kernel
theorem dX10_goesTo_63 : decode cX10_goesTo 63 = .ok (.aload_n 0, 1) := by decide +kernel
theorem dX10_goesTo_64 : decode cX10_goesTo 64 = .ok (.iload_n 1, 1) := by decide +kernel
theorem dX10_goesTo_65 : decode cX10_goesTo 65 = .ok (.iload_n 3, 1) := by decide +kernel
theorem dX10_goesTo_66 : decode cX10_goesTo 66 = .ok (.invokevirtual 178, 3) := by decide +kernel
theorem dX10_goesTo_69 : decode cX10_goesTo 69 = .ok (.invokestatic 184, 3) := by decide +kernel
theorem dX10_goesTo_72 : decode cX10_goesTo 72 = .ok (.imul, 1) := by decide +kernel
theorem dX10_goesTo_73 : decode cX10_goesTo 73 = .ok (.iadd, 1) := by decide +kernel
theorem dX10_goesTo_74 : decode cX10_goesTo 74 = .ok (.putfield 57, 3) := by decide +kernel
theorem dX10_goesTo_77 : decode cX10_goesTo 77 = .ok (.iinc 3 1, 3) := by decide +kernel
theorem dX10_goesTo_80 : decode cX10_goesTo 80 = .ok (.goto (-58), 3) := by decide +kernel
theorem dX10_goesTo_83 : decode cX10_goesTo 83 = .ok (.return_, 1) := by decide +kernel
theorem dX10_marks_0 : decode cX10_marks 0 = .ok (.iconst 0, 1) := by decide +kernel
theorem dX10_marks_1 : decode cX10_marks 1 = .ok (.istore_n 3, 1) := by decide +kernel
theorem dX10_marks_2 : decode cX10_marks 2 = .ok (.iload_n 3, 1) := by decide +kernel
theorem dX10_marks_3 : decode cX10_marks 3 = .ok (.bipush 117, 2) := by decide +kernel
theorem dX10_marks_5 : decode cX10_marks 5 = .ok (.if_icmp .ge 16, 3) := by decide +kernel
theorem dX10_marks_8 : decode cX10_marks 8 = .ok (.aload_n 0, 1) := by decide +kernel
theorem dX10_marks_9 : decode cX10_marks 9 = .ok (.getfield 60, 3) := by decide +kernel
theorem dX10_marks_12 : decode cX10_marks 12 = .ok (.iload_n 3, 1) := by decide +kernel
theorem dX10_marks_13 : decode cX10_marks 13 = .ok (.iconst 0, 1) := by decide +kernel
theorem dX10_marks_14 : decode cX10_marks 14 = .ok (.bastore, 1) := by decide +kernel
theorem dX10_marks_15 : decode cX10_marks 15 = .ok (.iinc 3 1, 3) := by decide +kernel
theorem dX10_marks_18 : decode cX10_marks 18 = .ok (.goto (-16), 3) := by decide +kernel
theorem dX10_marks_21 : decode cX10_marks 21 = .ok (.aload_n 0, 1) := by decide +kernel
theorem dX10_marks_22 : decode cX10_marks 22 = .ok (.getfield 60, 3) := by decide +kernel
theorem dX10_marks_25 : decode cX10_marks 25 = .ok (.bipush 13, 2) := by decide +kernel
theorem dX10_marks_27 : decode cX10_marks 27 = .ok (.aload_n 0, 1) := by decide +kernel
theorem dX10_marks_28 : decode cX10_marks 28 = .ok (.iload_n 1, 1) := by decide +kernel
theorem dX10_marks_29 : decode cX10_marks 29 = .ok (.iconst 3, 1) := by decide +kernel
theorem dX10_marks_30 : decode cX10_marks 30 = .ok (.invokevirtual 111, 3) := by decide +kernel
theorem dX10_marks_33 : decode cX10_marks 33 = .ok (.imul, 1) := by decide +kernel
theorem dX10_marks_34 : decode cX10_marks 34 = .ok (.aload_n 0, 1) := by decide +kernel
theorem dX10_marks_35 : decode cX10_marks 35 = .ok (.iload_n 1, 1) := by decide +kernel
theorem dX10_marks_36 : decode cX10_marks 36 = .ok (.iconst 2, 1) := by decide +kernel
theorem dX10_marks_37 : decode cX10_marks 37 = .ok (.invokevirtual 111, 3) := by decide +kernel
theorem dX10_marks_40 : decode cX10_marks 40 = .ok (.iadd, 1) := by decide +kernel
theorem dX10_marks_41 : decode cX10_marks 41 = .ok (.iconst 1, 1) := by decide +kernel
theorem dX10_marks_42 : decode cX10_marks 42 = .ok (.bastore, 1) := by decide +kernel
theorem dX10_marks_43 : decode cX10_marks 43 = .ok (.iconst 0, 1) := by decide +kernel
theorem dX10_marks_44 : decode cX10_marks 44 = .ok (.istore_n 3, 1) := by decide +kernel
theorem dX10_marks_45 : decode cX10_marks 45 = .ok (.iload_n 3, 1) := by decide +kernel
theorem dX10_marks_46 : decode cX10_marks 46 = .ok (.aload_n 0, 1) := by decide +kernel
theorem dX10_marks_47 : decode cX10_marks 47 = .ok (.iload_n 1, 1) := by decide +kernel
theorem dX10_marks_48 : decode cX10_marks 48 = .ok (.iconst 4, 1) := by decide +kernel
theorem dX10_marks_49 : decode cX10_marks 49 = .ok (.invokevirtual 111, 3) := by decide +kernel
theorem dX10_marks_52 : decode cX10_marks 52 = .ok (.if_icmp .ge 84, 3) := by decide +kernel
theorem dX10_marks_55 : decode cX10_marks 55 = .ok (.aload_n 0, 1) := by decide +kernel
theorem dX10_marks_56 : decode cX10_marks 56 = .ok (.iload_n 1, 1) := by decide +kernel
theorem dX10_marks_57 : decode cX10_marks 57 = .ok (.iload_n 3, 1) := by decide +kernel
theorem dX10_marks_58 : decode cX10_marks 58 = .ok (.invokevirtual 187, 3) := by decide +kernel
theorem dX10_marks_61 : decode cX10_marks 61 = .ok (.iconst 0, 1) := by decide +kernel
theorem dX10_marks_62 : decode cX10_marks 62 = .ok (.istore 4, 2) := by decide +kernel
theorem dX10_marks_64 : decode cX10_marks 64 = .ok (.iload 4, 2) := by decide +kernel
theorem dX10_marks_66 : decode cX10_marks 66 = .ok (.aload_n 0, 1) := by decide +kernel
theorem dX10_marks_67 : decode cX10_marks 67 = .ok (.iload_n 1, 1) := by decide +kernel
theorem dX10_marks_68 : decode cX10_marks 68 = .ok (.iload_n 3, 1) := by decide +kernel
theorem dX10_marks_69 : decode cX10_marks 69 = .ok (.invokevirtual 175, 3) := by decide +kernel
theorem dX10_marks_72 : decode cX10_marks 72 = .ok (.if_icmp .gt 58, 3) := by decide +kernel
theorem dX10_marks_75 : decode cX10_marks 75 = .ok (.iload_n 3, 1) := by decide +kernel
theorem dX10_marks_76 : decode cX10_marks 76 = .ok (.iload_n 2, 1) := by decide +kernel
theorem dX10_marks_77 : decode cX10_marks 77 = .ok (.if_icmp .eq 53, 3) := by decide +kernel
theorem dX10_marks_80 : decode cX10_marks 80 = .ok (.aload_n 0, 1) := by decide +kernel
theorem dX10_marks_81 : decode cX10_marks 81 = .ok (.getfield 60, 3) := by decide +kernel
theorem dX10_marks_84 : decode cX10_marks 84 = .ok (.bipush 13, 2) := by decide +kernel
theorem dX10_marks_86 : decode cX10_marks 86 = .ok (.aload_n 0, 1) := by decide +kernel
theorem dX10_marks_87 : decode cX10_marks 87 = .ok (.getfield 57, 3) := by decide +kernel
theorem dX10_marks_90 : decode cX10_marks 90 = .ok (.iload 4, 2) := by decide +kernel
theorem dX10_marks_92 : decode cX10_marks 92 = .ok (.aload_n 0, 1) := by decide +kernel
theorem dX10_marks_93 : decode cX10_marks 93 = .ok (.iload_n 1, 1) := by decide +kernel
theorem dX10_marks_94 : decode cX10_marks 94 = .ok (.iload_n 3, 1) := by decide +kernel
theorem dX10_marks_95 : decode cX10_marks 95 = .ok (.invokevirtual 178, 3) := by decide +kernel
theorem dX10_marks_98 : decode cX10_marks 98 = .ok (.invokestatic 184, 3) := by decide +kernel
theorem dX10_marks_101 : decode cX10_marks 101 = .ok (.imul, 1) := by decide +kernel
theorem dX10_marks_102 : decode cX10_marks 102 = .ok (.iadd, 1) := by decide +kernel
theorem dX10_marks_103 : decode cX10_marks 103 = .ok (.imul, 1) := by decide +kernel
theorem dX10_marks_104 : decode cX10_marks 104 = .ok (.aload_n 0, 1) := by decide +kernel
theorem dX10_marks_105 : decode cX10_marks 105 = .ok (.getfield 54, 3) := by decide +kernel
theorem dX10_marks_108 : decode cX10_marks 108 = .ok (.iadd, 1) := by decide +kernel
theorem dX10_marks_109 : decode cX10_marks 109 = .ok (.iload 4, 2) := by decide +kernel
theorem dX10_marks_111 : decode cX10_marks 111 = .ok (.aload_n 0, 1) := by decide +kernel
theorem dX10_marks_112 : decode cX10_marks 112 = .ok (.iload_n 1, 1) := by decide +kernel
theorem dX10_marks_113 : decode cX10_marks 113 = .ok (.iload_n 3, 1) := by decide +kernel
theorem dX10_marks_114 : decode cX10_marks 114 = .ok (.invokevirtual 178, 3) := by decide +kernel
theorem dX10_marks_117 : decode cX10_marks 117 = .ok (.invokestatic 181, 3) := by decide +kernel
theorem dX10_marks_120 : decode cX10_marks 120 = .ok (.imul, 1) := by decide +kernel
theorem dX10_marks_121 : decode cX10_marks 121 = .ok (.iadd, 1) := by decide +kernel
theorem dX10_marks_122 : decode cX10_marks 122 = .ok (.iconst 1, 1) := by decide +kernel
theorem dX10_marks_123 : decode cX10_marks 123 = .ok (.bastore, 1) := by decide +kernel
theorem dX10_marks_124 : decode cX10_marks 124 = .ok (.iinc 4 1, 3) := by decide +kernel
theorem dX10_marks_127 : decode cX10_marks 127 = .ok (.goto (-63), 3) := by decide +kernel
theorem dX10_marks_130 : decode cX10_marks 130 = .ok (.iinc 3 1, 3) := by decide +kernel
theorem dX10_marks_133 : decode cX10_marks 133 = .ok (.goto (-88), 3) := by decide +kernel
theorem dX10_marks_136 : decode cX10_marks 136 = .ok (.return_, 1) := by decide +kernel
theorem dX10_isBarred_0 : decode cX10_isBarred 0 = .ok (.iload_n 1, 1) := by decide +kernel
theorem dX10_isBarred_1 : decode cX10_isBarred 1 = .ok (.iload_n 2, 1) := by decide +kernel
theorem dX10_isBarred_2 : decode cX10_isBarred 2 = .ok (.invokestatic 149, 3) := by decide +kernel
theorem dX10_isBarred_5 : decode cX10_isBarred 5 = .ok (.ifCond .ne 14, 3) := by decide +kernel
theorem dX10_isBarred_8 : decode cX10_isBarred 8 = .ok (.aload_n 0, 1) := by decide +kernel
theorem dX10_isBarred_9 : decode cX10_isBarred 9 = .ok (.bipush 7, 2) := by decide +kernel
theorem dX10_isBarred_11 : decode cX10_isBarred 11 = .ok (.aload_n 0, 1) := by decide +kernel
theorem dX10_isBarred_12 : decode cX10_isBarred 12 = .ok (.getfield 64, 3) := by decide +kernel
theorem dX10_isBarred_15 : decode cX10_isBarred 15 = .ok (.invokevirtual 119, 3) := by decide +kernel
theorem dX10_isBarred_18 : decode cX10_isBarred 18 = .ok (.ireturn, 1) := by decide +kernel
theorem dX10_isBarred_19 : decode cX10_isBarred 19 = .ok (.aload_n 0, 1) := by decide +kernel
theorem dX10_isBarred_20 : decode cX10_isBarred 20 = .ok (.getfield 60, 3) := by decide +kernel
theorem dX10_isBarred_23 : decode cX10_isBarred 23 = .ok (.bipush 13, 2) := by decide +kernel
theorem dX10_isBarred_25 : decode cX10_isBarred 25 = .ok (.iload_n 2, 1) := by decide +kernel
theorem dX10_isBarred_26 : decode cX10_isBarred 26 = .ok (.imul, 1) := by decide +kernel
theorem dX10_isBarred_27 : decode cX10_isBarred 27 = .ok (.iload_n 1, 1) := by decide +kernel
theorem dX10_isBarred_28 : decode cX10_isBarred 28 = .ok (.iadd, 1) := by decide +kernel
theorem dX10_isBarred_29 : decode cX10_isBarred 29 = .ok (.baload, 1) := by decide +kernel
theorem dX10_isBarred_30 : decode cX10_isBarred 30 = .ok (.ifCond .eq 18, 3) := by decide +kernel
theorem dX10_isBarred_33 : decode cX10_isBarred 33 = .ok (.iload_n 3, 1) := by decide +kernel
theorem dX10_isBarred_34 : decode cX10_isBarred 34 = .ok (.ifCond .ne 14, 3) := by decide +kernel
theorem dX10_isBarred_37 : decode cX10_isBarred 37 = .ok (.aload_n 0, 1) := by decide +kernel
theorem dX10_isBarred_38 : decode cX10_isBarred 38 = .ok (.bipush 8, 2) := by decide +kernel
theorem dX10_isBarred_40 : decode cX10_isBarred 40 = .ok (.aload_n 0, 1) := by decide +kernel
theorem dX10_isBarred_41 : decode cX10_isBarred 41 = .ok (.getfield 64, 3) := by decide +kernel
theorem dX10_isBarred_44 : decode cX10_isBarred 44 = .ok (.invokevirtual 119, 3) := by decide +kernel
theorem dX10_isBarred_47 : decode cX10_isBarred 47 = .ok (.ireturn, 1) := by decide +kernel
theorem dX10_isBarred_48 : decode cX10_isBarred 48 = .ok (.aload_n 0, 1) := by decide +kernel
theorem dX10_isBarred_49 : decode cX10_isBarred 49 = .ok (.iload_n 1, 1) := by decide +kernel
theorem dX10_isBarred_50 : decode cX10_isBarred 50 = .ok (.iload_n 2, 1) := by decide +kernel
theorem dX10_isBarred_51 : decode cX10_isBarred 51 = .ok (.invokevirtual 146, 3) := by decide +kernel
theorem dX10_isBarred_54 : decode cX10_isBarred 54 = .ok (.istore 4, 2) := by decide +kernel
theorem dX10_isBarred_56 : decode cX10_isBarred 56 = .ok (.iload 4, 2) := by decide +kernel
theorem dX10_isBarred_58 : decode cX10_isBarred 58 = .ok (.ifCond .lt 27, 3) := by decide +kernel
theorem dX10_isBarred_61 : decode cX10_isBarred 61 = .ok (.aload_n 0, 1) := by decide +kernel
theorem dX10_isBarred_62 : decode cX10_isBarred 62 = .ok (.iload 4, 2) := by decide +kernel
theorem dX10_isBarred_64 : decode cX10_isBarred 64 = .ok (.invokevirtual 191, 3) := by decide +kernel
theorem dX10_isBarred_67 : decode cX10_isBarred 67 = .ok (.ifCond .eq 18, 3) := by decide +kernel
theorem dX10_isBarred_70 : decode cX10_isBarred 70 = .ok (.aload_n 0, 1) := by decide +kernel
theorem dX10_isBarred_71 : decode cX10_isBarred 71 = .ok (.bipush 9, 2) := by decide +kernel
theorem dX10_isBarred_73 : decode cX10_isBarred 73 = .ok (.iload 4, 2) := by decide +kernel
theorem dX10_isBarred_75 : decode cX10_isBarred 75 = .ok (.invokevirtual 119, 3) := by decide +kernel
theorem dX10_isBarred_78 : decode cX10_isBarred 78 = .ok (.ifCond .eq 7, 3) := by decide +kernel
theorem dX10_isBarred_81 : decode cX10_isBarred 81 = .ok (.iconst 1, 1) := by decide +kernel
theorem dX10_isBarred_82 : decode cX10_isBarred 82 = .ok (.goto 4, 3) := by decide +kernel
theorem dX10_isBarred_85 : decode cX10_isBarred 85 = .ok (.iconst 0, 1) := by decide +kernel
theorem dX10_isBarred_86 : decode cX10_isBarred 86 = .ok (.ireturn, 1) := by decide +kernel
theorem dX10_isRefusedChain_0 : decode cX10_isRefusedChain 0 = .ok (.aload_n 0, 1) := by decide +kernel
theorem dX10_isRefusedChain_1 : decode cX10_isRefusedChain 1 = .ok (.iload_n 1, 1) := by decide +kernel
theorem dX10_isRefusedChain_2 : decode cX10_isRefusedChain 2 = .ok (.iconst 1, 1) := by decide +kernel
theorem dX10_isRefusedChain_3 : decode cX10_isRefusedChain 3 = .ok (.invokevirtual 111, 3) := by decide +kernel
theorem dX10_isRefusedChain_6 : decode cX10_isRefusedChain 6 = .ok (.ifCond .ne 10, 3) := by decide +kernel
theorem dX10_isRefusedChain_9 : decode cX10_isRefusedChain 9 = .ok (.aload_n 0, 1) := by decide +kernel
theorem dX10_isRefusedChain_10 : decode cX10_isRefusedChain 10 = .ok (.iconst 4, 1) := by decide +kernel
theorem dX10_isRefusedChain_11 : decode cX10_isRefusedChain 11 = .ok (.iload_n 1, 1) := by decide +kernel
theorem dX10_isRefusedChain_12 : decode cX10_isRefusedChain 12 = .ok (.invokevirtual 119, 3) := by decide +kernel
theorem dX10_isRefusedChain_15 : decode cX10_isRefusedChain 15 = .ok (.ireturn, 1) := by decide +kernel
theorem dX10_isRefusedChain_16 : decode cX10_isRefusedChain 16 = .ok (.aload_n 0, 1) := by decide +kernel
theorem dX10_isRefusedChain_17 : decode cX10_isRefusedChain 17 = .ok (.iload_n 1, 1) := by decide +kernel
theorem dX10_isRefusedChain_18 : decode cX10_isRefusedChain 18 = .ok (.iconst 1, 1) := by decide +kernel
theorem dX10_isRefusedChain_19 : decode cX10_isRefusedChain 19 = .ok (.invokevirtual 111, 3) := by decide +kernel
theorem dX10_isRefusedChain_22 : decode cX10_isRefusedChain 22 = .ok (.iconst 2, 1) := by decide +kernel
theorem dX10_isRefusedChain_23 : decode cX10_isRefusedChain 23 = .ok (.if_icmp .ne 15, 3) := by decide +kernel
theorem dX10_isRefusedChain_26 : decode cX10_isRefusedChain 26 = .ok (.aload_n 0, 1) := by decide +kernel
theorem dX10_isRefusedChain_27 : decode cX10_isRefusedChain 27 = .ok (.iconst 5, 1) := by decide +kernel
theorem dX10_isRefusedChain_28 : decode cX10_isRefusedChain 28 = .ok (.aload_n 0, 1) := by decide +kernel
theorem dX10_isRefusedChain_29 : decode cX10_isRefusedChain 29 = .ok (.iload_n 1, 1) := by decide +kernel
theorem dX10_isRefusedChain_30 : decode cX10_isRefusedChain 30 = .ok (.iconst 4, 1) := by decide +kernel
theorem dX10_isRefusedChain_31 : decode cX10_isRefusedChain 31 = .ok (.invokevirtual 111, 3) := by decide +kernel
theorem dX10_isRefusedChain_34 : decode cX10_isRefusedChain 34 = .ok (.invokevirtual 119, 3) := by decide +kernel
theorem dX10_isRefusedChain_37 : decode cX10_isRefusedChain 37 = .ok (.ireturn, 1) := by decide +kernel
theorem dX10_isRefusedChain_38 : decode cX10_isRefusedChain 38 = .ok (.aload_n 0, 1) := by decide +kernel
theorem dX10_isRefusedChain_39 : decode cX10_isRefusedChain 39 = .ok (.iload_n 1, 1) := by decide +kernel
theorem dX10_isRefusedChain_40 : decode cX10_isRefusedChain 40 = .ok (.iconst 4, 1) := by decide +kernel
theorem dX10_isRefusedChain_41 : decode cX10_isRefusedChain 41 = .ok (.invokevirtual 111, 3) := by decide +kernel
theorem dX10_isRefusedChain_44 : decode cX10_isRefusedChain 44 = .ok (.bipush 16, 2) := by decide +kernel
theorem dX10_isRefusedChain_46 : decode cX10_isRefusedChain 46 = .ok (.if_icmp .ne 11, 3) := by decide +kernel
theorem dX10_isRefusedChain_49 : decode cX10_isRefusedChain 49 = .ok (.aload_n 0, 1) := by decide +kernel
theorem dX10_isRefusedChain_50 : decode cX10_isRefusedChain 50 = .ok (.iconst 1, 1) := by decide +kernel
theorem dX10_isRefusedChain_51 : decode cX10_isRefusedChain 51 = .ok (.bipush 16, 2) := by decide +kernel
theorem dX10_isRefusedChain_53 : decode cX10_isRefusedChain 53 = .ok (.invokevirtual 119, 3) := by decide +kernel
theorem dX10_isRefusedChain_56 : decode cX10_isRefusedChain 56 = .ok (.ireturn, 1) := by decide +kernel
theorem dX10_isRefusedChain_57 : decode cX10_isRefusedChain 57 = .ok (.aload_n 0, 1) := by decide +kernel
theorem dX10_isRefusedChain_58 : decode cX10_isRefusedChain 58 = .ok (.iload_n 1, 1) := by decide +kernel
theorem dX10_isRefusedChain_59 : decode cX10_isRefusedChain 59 = .ok (.iconst (-1), 1) := by decide +kernel
theorem dX10_isRefusedChain_60 : decode cX10_isRefusedChain 60 = .ok (.invokevirtual 194, 3) := by decide +kernel
theorem dX10_isRefusedChain_63 : decode cX10_isRefusedChain 63 = .ok (.aload_n 0, 1) := by decide +kernel
theorem dX10_isRefusedChain_64 : decode cX10_isRefusedChain 64 = .ok (.iload_n 1, 1) := by decide +kernel
theorem dX10_isRefusedChain_65 : decode cX10_isRefusedChain 65 = .ok (.aload_n 0, 1) := by decide +kernel
theorem dX10_isRefusedChain_66 : decode cX10_isRefusedChain 66 = .ok (.iload_n 1, 1) := by decide +kernel
theorem dX10_isRefusedChain_67 : decode cX10_isRefusedChain 67 = .ok (.iconst 4, 1) := by decide +kernel
theorem dX10_isRefusedChain_68 : decode cX10_isRefusedChain 68 = .ok (.invokevirtual 111, 3) := by decide +kernel
theorem dX10_isRefusedChain_71 : decode cX10_isRefusedChain 71 = .ok (.invokevirtual 187, 3) := by decide +kernel
theorem dX10_isRefusedChain_74 : decode cX10_isRefusedChain 74 = .ok (.aload_n 0, 1) := by decide +kernel
theorem dX10_isRefusedChain_75 : decode cX10_isRefusedChain 75 = .ok (.iconst 0, 1) := by decide +kernel
theorem dX10_isRefusedChain_76 : decode cX10_isRefusedChain 76 = .ok (.putfield 64, 3) := by decide +kernel
theorem dX10_isRefusedChain_79 : decode cX10_isRefusedChain 79 = .ok (.iconst 1, 1) := by decide +kernel
theorem dX10_isRefusedChain_80 : decode cX10_isRefusedChain 80 = .ok (.istore 4, 2) := by decide +kernel
theorem dX10_isRefusedChain_82 : decode cX10_isRefusedChain 82 = .ok (.iload 4, 2) := by decide +kernel
theorem dX10_isRefusedChain_84 : decode cX10_isRefusedChain 84 = .ok (.iload_n 3, 1) := by decide +kernel
theorem dX10_isRefusedChain_85 : decode cX10_isRefusedChain 85 = .ok (.if_icmp .gt 107, 3) := by decide +kernel
theorem dX10_isRefusedChain_88 : decode cX10_isRefusedChain 88 = .ok (.aload_n 0, 1) := by decide +kernel
theorem dX10_isRefusedChain_89 : decode cX10_isRefusedChain 89 = .ok (.getfield 54, 3) := by decide +kernel
theorem dX10_isRefusedChain_92 : decode cX10_isRefusedChain 92 = .ok (.iload 4, 2) := by decide +kernel
theorem dX10_isRefusedChain_94 : decode cX10_isRefusedChain 94 = .ok (.iload_n 2, 1) := by decide +kernel
theorem dX10_isRefusedChain_95 : decode cX10_isRefusedChain 95 = .ok (.invokestatic 181, 3) := by decide +kernel
theorem dX10_isRefusedChain_98 : decode cX10_isRefusedChain 98 = .ok (.imul, 1) := by decide +kernel
theorem dX10_isRefusedChain_99 : decode cX10_isRefusedChain 99 = .ok (.iadd, 1) := by decide +kernel
theorem dX10_isRefusedChain_100 : decode cX10_isRefusedChain 100 = .ok (.istore 5, 2) := by decide +kernel
theorem dX10_isRefusedChain_102 : decode cX10_isRefusedChain 102 = .ok (.aload_n 0, 1) := by decide +kernel
theorem dX10_isRefusedChain_103 : decode cX10_isRefusedChain 103 = .ok (.getfield 57, 3) := by decide +kernel
theorem dX10_isRefusedChain_106 : decode cX10_isRefusedChain 106 = .ok (.iload 4, 2) := by decide +kernel
theorem dX10_isRefusedChain_108 : decode cX10_isRefusedChain 108 = .ok (.iload_n 2, 1) := by decide +kernel
theorem dX10_isRefusedChain_109 : decode cX10_isRefusedChain 109 = .ok (.invokestatic 184, 3) := by decide +kernel
theorem dX10_isRefusedChain_112 : decode cX10_isRefusedChain 112 = .ok (.imul, 1) := by decide +kernel
theorem dX10_isRefusedChain_113 : decode cX10_isRefusedChain 113 = .ok (.iadd, 1) := by decide +kernel
theorem dX10_isRefusedChain_114 : decode cX10_isRefusedChain 114 = .ok (.istore 6, 2) := by decide +kernel
theorem dX10_isRefusedChain_116 : decode cX10_isRefusedChain 116 = .ok (.iload 4, 2) := by decide +kernel
theorem dX10_isRefusedChain_118 : decode cX10_isRefusedChain 118 = .ok (.iload_n 3, 1) := by decide +kernel
theorem dX10_isRefusedChain_119 : decode cX10_isRefusedChain 119 = .ok (.if_icmp .ne 39, 3) := by decide +kernel
theorem dX10_isRefusedChain_122 : decode cX10_isRefusedChain 122 = .ok (.aload_n 0, 1) := by decide +kernel
theorem dX10_isRefusedChain_123 : decode cX10_isRefusedChain 123 = .ok (.iload_n 1, 1) := by decide +kernel
theorem dX10_isRefusedChain_124 : decode cX10_isRefusedChain 124 = .ok (.iconst 4, 1) := by decide +kernel
theorem dX10_isRefusedChain_125 : decode cX10_isRefusedChain 125 = .ok (.invokevirtual 111, 3) := by decide +kernel
theorem dX10_isRefusedChain_128 : decode cX10_isRefusedChain 128 = .ok (.iconst 3, 1) := by decide +kernel
theorem dX10_isRefusedChain_129 : decode cX10_isRefusedChain 129 = .ok (.if_icmp .lt 29, 3) := by decide +kernel
theorem dX10_isRefusedChain_132 : decode cX10_isRefusedChain 132 = .ok (.iload 5, 2) := by decide +kernel
theorem dX10_isRefusedChain_134 : decode cX10_isRefusedChain 134 = .ok (.aload_n 0, 1) := by decide +kernel
theorem dX10_isRefusedChain_135 : decode cX10_isRefusedChain 135 = .ok (.iload_n 1, 1) := by decide +kernel
theorem dX10_isRefusedChain_136 : decode cX10_isRefusedChain 136 = .ok (.iconst 2, 1) := by decide +kernel
theorem dX10_isRefusedChain_137 : decode cX10_isRefusedChain 137 = .ok (.invokevirtual 111, 3) := by decide +kernel
theorem dX10_isRefusedChain_140 : decode cX10_isRefusedChain 140 = .ok (.if_icmp .ne 18, 3) := by decide +kernel
theorem dX10_isRefusedChain_143 : decode cX10_isRefusedChain 143 = .ok (.iload 6, 2) := by decide +kernel
theorem dX10_isRefusedChain_145 : decode cX10_isRefusedChain 145 = .ok (.aload_n 0, 1) := by decide +kernel
theorem dX10_isRefusedChain_146 : decode cX10_isRefusedChain 146 = .ok (.iload_n 1, 1) := by decide +kernel
theorem dX10_isRefusedChain_147 : decode cX10_isRefusedChain 147 = .ok (.iconst 3, 1) := by decide +kernel
theorem dX10_isRefusedChain_148 : decode cX10_isRefusedChain 148 = .ok (.invokevirtual 111, 3) := by decide +kernel
theorem dX10_isRefusedChain_151 : decode cX10_isRefusedChain 151 = .ok (.if_icmp .ne 7, 3) := by decide +kernel
theorem dX10_isRefusedChain_154 : decode cX10_isRefusedChain 154 = .ok (.iconst 1, 1) := by decide +kernel
theorem dX10_isRefusedChain_155 : decode cX10_isRefusedChain 155 = .ok (.goto 4, 3) := by decide +kernel
theorem dX10_isRefusedChain_158 : decode cX10_isRefusedChain 158 = .ok (.iconst 0, 1) := by decide +kernel
theorem dX10_isRefusedChain_159 : decode cX10_isRefusedChain 159 = .ok (.istore 7, 2) := by decide +kernel
theorem dX10_isRefusedChain_161 : decode cX10_isRefusedChain 161 = .ok (.aload_n 0, 1) := by decide +kernel
theorem dX10_isRefusedChain_162 : decode cX10_isRefusedChain 162 = .ok (.iload 5, 2) := by decide +kernel
theorem dX10_isRefusedChain_164 : decode cX10_isRefusedChain 164 = .ok (.iload 6, 2) := by decide +kernel
theorem dX10_isRefusedChain_166 : decode cX10_isRefusedChain 166 = .ok (.iload 7, 2) := by decide +kernel
theorem dX10_isRefusedChain_168 : decode cX10_isRefusedChain 168 = .ok (.invokevirtual 197, 3) := by decide +kernel
theorem dX10_isRefusedChain_171 : decode cX10_isRefusedChain 171 = .ok (.ifCond .eq 5, 3) := by decide +kernel
theorem dX10_isRefusedChain_174 : decode cX10_isRefusedChain 174 = .ok (.iconst 1, 1) := by decide +kernel
theorem dX10_isRefusedChain_175 : decode cX10_isRefusedChain 175 = .ok (.ireturn, 1) := by decide +kernel
theorem dX10_isRefusedChain_176 : decode cX10_isRefusedChain 176 = .ok (.aload_n 0, 1) := by decide +kernel
