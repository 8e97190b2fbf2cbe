theorem dGX11_0 : decode cX11_init 0 = .ok (.aload_n 0, 1) ∧ decode cX11_init 1 = .ok (.invokespecial 1, 3) ∧ decode cX11_init 4 = .ok (.aload_n 0, 1) ∧ decode cX11_init 5 = .ok (.new 7, 3) ∧ decode cX11_init 8 = .ok (.dup, 1) ∧ decode cX11_init 9 = .ok (.invokespecial 9, 3) := by decide +kernel
theorem dX11_init_0 : decode cX11_init 0 = .ok (.aload_n 0, 1) := dGX11_0.1
theorem dX11_init_1 : decode cX11_init 1 = .ok (.invokespecial 1, 3) := dGX11_0.2.1
theorem dX11_init_4 : decode cX11_init 4 = .ok (.aload_n 0, 1) := dGX11_0.2.2.1
theorem dX11_init_5 : decode cX11_init 5 = .ok (.new 7, 3) := dGX11_0.2.2.2.1
theorem dX11_init_8 : decode cX11_init 8 = .ok (.dup, 1) := dGX11_0.2.2.2.2.1
theorem dX11_init_9 : decode cX11_init 9 = .ok (.invokespecial 9, 3) := dGX11_0.2.2.2.2.2
theorem dGX11_1 : decode cX11_init 12 = .ok (.putfield 10, 3) ∧ decode cX11_init 15 = .ok (.aload_n 0, 1) ∧ decode cX11_init 16 = .ok (.new 7, 3) ∧ decode cX11_init 19 = .ok (.dup, 1) ∧ decode cX11_init 20 = .ok (.invokespecial 9, 3) ∧ decode cX11_init 23 = .ok (.putfield 16, 3) := by decide +kernel
theorem dX11_init_12 : decode cX11_init 12 = .ok (.putfield 10, 3) := dGX11_1.1
theorem dX11_init_15 : decode cX11_init 15 = .ok (.aload_n 0, 1) := dGX11_1.2.1
theorem dX11_init_16 : decode cX11_init 16 = .ok (.new 7, 3) := dGX11_1.2.2.1
theorem dX11_init_19 : decode cX11_init 19 = .ok (.dup, 1) := dGX11_1.2.2.2.1
theorem dX11_init_20 : decode cX11_init 20 = .ok (.invokespecial 9, 3) := dGX11_1.2.2.2.2.1
theorem dX11_init_23 : decode cX11_init 23 = .ok (.putfield 16, 3) := dGX11_1.2.2.2.2.2
theorem dGX11_2 : decode cX11_init 26 = .ok (.aload_n 0, 1) ∧ decode cX11_init 27 = .ok (.new 7, 3) ∧ decode cX11_init 30 = .ok (.dup, 1) ∧ decode cX11_init 31 = .ok (.invokespecial 9, 3) ∧ decode cX11_init 34 = .ok (.putfield 19, 3) ∧ decode cX11_init 37 = .ok (.aload_n 0, 1) := by decide +kernel
theorem dX11_init_26 : decode cX11_init 26 = .ok (.aload_n 0, 1) := dGX11_2.1
theorem dX11_init_27 : decode cX11_init 27 = .ok (.new 7, 3) := dGX11_2.2.1
theorem dX11_init_30 : decode cX11_init 30 = .ok (.dup, 1) := dGX11_2.2.2.1
theorem dX11_init_31 : decode cX11_init 31 = .ok (.invokespecial 9, 3) := dGX11_2.2.2.2.1
theorem dX11_init_34 : decode cX11_init 34 = .ok (.putfield 19, 3) := dGX11_2.2.2.2.2.1
theorem dX11_init_37 : decode cX11_init 37 = .ok (.aload_n 0, 1) := dGX11_2.2.2.2.2.2
theorem dGX11_3 : decode cX11_init 38 = .ok (.new 22, 3) ∧ decode cX11_init 41 = .ok (.dup, 1) ∧ decode cX11_init 42 = .ok (.invokespecial 24, 3) ∧ decode cX11_init 45 = .ok (.putfield 25, 3) ∧ decode cX11_init 48 = .ok (.aload_n 0, 1) ∧ decode cX11_init 49 = .ok (.new 22, 3) := by decide +kernel
theorem dX11_init_38 : decode cX11_init 38 = .ok (.new 22, 3) := dGX11_3.1
theorem dX11_init_41 : decode cX11_init 41 = .ok (.dup, 1) := dGX11_3.2.1
theorem dX11_init_42 : decode cX11_init 42 = .ok (.invokespecial 24, 3) := dGX11_3.2.2.1
theorem dX11_init_45 : decode cX11_init 45 = .ok (.putfield 25, 3) := dGX11_3.2.2.2.1
theorem dX11_init_48 : decode cX11_init 48 = .ok (.aload_n 0, 1) := dGX11_3.2.2.2.2.1
theorem dX11_init_49 : decode cX11_init 49 = .ok (.new 22, 3) := dGX11_3.2.2.2.2.2
theorem dGX11_4 : decode cX11_init 52 = .ok (.dup, 1) ∧ decode cX11_init 53 = .ok (.invokespecial 24, 3) ∧ decode cX11_init 56 = .ok (.putfield 29, 3) ∧ decode cX11_init 59 = .ok (.aload_n 0, 1) ∧ decode cX11_init 60 = .ok (.new 32, 3) ∧ decode cX11_init 63 = .ok (.dup, 1) := by decide +kernel
theorem dX11_init_52 : decode cX11_init 52 = .ok (.dup, 1) := dGX11_4.1
theorem dX11_init_53 : decode cX11_init 53 = .ok (.invokespecial 24, 3) := dGX11_4.2.1
theorem dX11_init_56 : decode cX11_init 56 = .ok (.putfield 29, 3) := dGX11_4.2.2.1
theorem dX11_init_59 : decode cX11_init 59 = .ok (.aload_n 0, 1) := dGX11_4.2.2.2.1
theorem dX11_init_60 : decode cX11_init 60 = .ok (.new 32, 3) := dGX11_4.2.2.2.2.1
theorem dX11_init_63 : decode cX11_init 63 = .ok (.dup, 1) := dGX11_4.2.2.2.2.2
theorem dGX11_5 : decode cX11_init 64 = .ok (.invokespecial 34, 3) ∧ decode cX11_init 67 = .ok (.putfield 35, 3) ∧ decode cX11_init 70 = .ok (.aload_n 0, 1) ∧ decode cX11_init 71 = .ok (.new 39, 3) ∧ decode cX11_init 74 = .ok (.dup, 1) ∧ decode cX11_init 75 = .ok (.invokespecial 41, 3) := by decide +kernel
theorem dX11_init_64 : decode cX11_init 64 = .ok (.invokespecial 34, 3) := dGX11_5.1
theorem dX11_init_67 : decode cX11_init 67 = .ok (.putfield 35, 3) := dGX11_5.2.1
theorem dX11_init_70 : decode cX11_init 70 = .ok (.aload_n 0, 1) := dGX11_5.2.2.1
theorem dX11_init_71 : decode cX11_init 71 = .ok (.new 39, 3) := dGX11_5.2.2.2.1
theorem dX11_init_74 : decode cX11_init 74 = .ok (.dup, 1) := dGX11_5.2.2.2.2.1
theorem dX11_init_75 : decode cX11_init 75 = .ok (.invokespecial 41, 3) := dGX11_5.2.2.2.2.2
theorem dGX11_6 : decode cX11_init 78 = .ok (.putfield 42, 3) ∧ decode cX11_init 81 = .ok (.aload_n 0, 1) ∧ decode cX11_init 82 = .ok (.new 46, 3) ∧ decode cX11_init 85 = .ok (.dup, 1) ∧ decode cX11_init 86 = .ok (.invokespecial 48, 3) ∧ decode cX11_init 89 = .ok (.putfield 49, 3) := by decide +kernel
theorem dX11_init_78 : decode cX11_init 78 = .ok (.putfield 42, 3) := dGX11_6.1
theorem dX11_init_81 : decode cX11_init 81 = .ok (.aload_n 0, 1) := dGX11_6.2.1
theorem dX11_init_82 : decode cX11_init 82 = .ok (.new 46, 3) := dGX11_6.2.2.1
theorem dX11_init_85 : decode cX11_init 85 = .ok (.dup, 1) := dGX11_6.2.2.2.1
theorem dX11_init_86 : decode cX11_init 86 = .ok (.invokespecial 48, 3) := dGX11_6.2.2.2.2.1
theorem dX11_init_89 : decode cX11_init 89 = .ok (.putfield 49, 3) := dGX11_6.2.2.2.2.2
theorem dGX11_7 : decode cX11_init 92 = .ok (.aload_n 0, 1) ∧ decode cX11_init 93 = .ok (.new 53, 3) ∧ decode cX11_init 96 = .ok (.dup, 1) ∧ decode cX11_init 97 = .ok (.invokespecial 55, 3) ∧ decode cX11_init 100 = .ok (.putfield 56, 3) ∧ decode cX11_init 103 = .ok (.aload_n 0, 1) := by decide +kernel
theorem dX11_init_92 : decode cX11_init 92 = .ok (.aload_n 0, 1) := dGX11_7.1
theorem dX11_init_93 : decode cX11_init 93 = .ok (.new 53, 3) := dGX11_7.2.1
theorem dX11_init_96 : decode cX11_init 96 = .ok (.dup, 1) := dGX11_7.2.2.1
theorem dX11_init_97 : decode cX11_init 97 = .ok (.invokespecial 55, 3) := dGX11_7.2.2.2.1
theorem dX11_init_100 : decode cX11_init 100 = .ok (.putfield 56, 3) := dGX11_7.2.2.2.2.1
theorem dX11_init_103 : decode cX11_init 103 = .ok (.aload_n 0, 1) := dGX11_7.2.2.2.2.2
theorem dGX11_8 : decode cX11_init 104 = .ok (.new 60, 3) ∧ decode cX11_init 107 = .ok (.dup, 1) ∧ decode cX11_init 108 = .ok (.invokespecial 62, 3) ∧ decode cX11_init 111 = .ok (.putfield 63, 3) ∧ decode cX11_init 114 = .ok (.aload_n 0, 1) ∧ decode cX11_init 115 = .ok (.new 67, 3) := by decide +kernel
theorem dX11_init_104 : decode cX11_init 104 = .ok (.new 60, 3) := dGX11_8.1
theorem dX11_init_107 : decode cX11_init 107 = .ok (.dup, 1) := dGX11_8.2.1
theorem dX11_init_108 : decode cX11_init 108 = .ok (.invokespecial 62, 3) := dGX11_8.2.2.1
theorem dX11_init_111 : decode cX11_init 111 = .ok (.putfield 63, 3) := dGX11_8.2.2.2.1
theorem dX11_init_114 : decode cX11_init 114 = .ok (.aload_n 0, 1) := dGX11_8.2.2.2.2.1
theorem dX11_init_115 : decode cX11_init 115 = .ok (.new 67, 3) := dGX11_8.2.2.2.2.2
theorem dGX11_9 : decode cX11_init 118 = .ok (.dup, 1) ∧ decode cX11_init 119 = .ok (.invokespecial 69, 3) ∧ decode cX11_init 122 = .ok (.putfield 70, 3) ∧ decode cX11_init 125 = .ok (.aload_n 0, 1) ∧ decode cX11_init 126 = .ok (.new 67, 3) ∧ decode cX11_init 129 = .ok (.dup, 1) := by decide +kernel
theorem dX11_init_118 : decode cX11_init 118 = .ok (.dup, 1) := dGX11_9.1
theorem dX11_init_119 : decode cX11_init 119 = .ok (.invokespecial 69, 3) := dGX11_9.2.1
theorem dX11_init_122 : decode cX11_init 122 = .ok (.putfield 70, 3) := dGX11_9.2.2.1
theorem dX11_init_125 : decode cX11_init 125 = .ok (.aload_n 0, 1) := dGX11_9.2.2.2.1
theorem dX11_init_126 : decode cX11_init 126 = .ok (.new 67, 3) := dGX11_9.2.2.2.2.1
theorem dX11_init_129 : decode cX11_init 129 = .ok (.dup, 1) := dGX11_9.2.2.2.2.2
theorem dGX11_10 : decode cX11_init 130 = .ok (.invokespecial 69, 3) ∧ decode cX11_init 133 = .ok (.putfield 74, 3) ∧ decode cX11_init 136 = .ok (.aload_n 0, 1) ∧ decode cX11_init 137 = .ok (.iconst 0, 1) ∧ decode cX11_init 138 = .ok (.putfield 77, 3) ∧ decode cX11_init 141 = .ok (.return_, 1) := by decide +kernel
theorem dX11_init_130 : decode cX11_init 130 = .ok (.invokespecial 69, 3) := dGX11_10.1
theorem dX11_init_133 : decode cX11_init 133 = .ok (.putfield 74, 3) := dGX11_10.2.1
theorem dX11_init_136 : decode cX11_init 136 = .ok (.aload_n 0, 1) := dGX11_10.2.2.1
theorem dX11_init_137 : decode cX11_init 137 = .ok (.iconst 0, 1) := dGX11_10.2.2.2.1
theorem dX11_init_138 : decode cX11_init 138 = .ok (.putfield 77, 3) := dGX11_10.2.2.2.2.1
theorem dX11_init_141 : decode cX11_init 141 = .ok (.return_, 1) := dGX11_10.2.2.2.2.2
theorem dGX11_11 : decode cX11_roof 0 = .ok (.iload_n 1, 1) ∧ decode cX11_roof 1 = .ok (.iconst 0, 1) ∧ decode cX11_roof 2 = .ok (.bipush 99, 2) ∧ decode cX11_roof 4 = .ok (.invokestatic 81, 3) ∧ decode cX11_roof 7 = .ok (.ifCond .eq 22, 3) ∧ decode cX11_roof 10 = .ok (.iload_n 2, 1) := by decide +kernel
theorem dX11_roof_0 : decode cX11_roof 0 = .ok (.iload_n 1, 1) := dGX11_11.1
theorem dX11_roof_1 : decode cX11_roof 1 = .ok (.iconst 0, 1) := dGX11_11.2.1
theorem dX11_roof_2 : decode cX11_roof 2 = .ok (.bipush 99, 2) := dGX11_11.2.2.1
theorem dX11_roof_4 : decode cX11_roof 4 = .ok (.invokestatic 81, 3) := dGX11_11.2.2.2.1
theorem dX11_roof_7 : decode cX11_roof 7 = .ok (.ifCond .eq 22, 3) := dGX11_11.2.2.2.2.1
theorem dX11_roof_10 : decode cX11_roof 10 = .ok (.iload_n 2, 1) := dGX11_11.2.2.2.2.2
theorem dGX11_12 : decode cX11_roof 11 = .ok (.iconst 0, 1) ∧ decode cX11_roof 12 = .ok (.iload_n 1, 1) ∧ decode cX11_roof 13 = .ok (.invokestatic 81, 3) ∧ decode cX11_roof 16 = .ok (.ifCond .eq 13, 3) ∧ decode cX11_roof 19 = .ok (.iload_n 3, 1) ∧ decode cX11_roof 20 = .ok (.iconst 0, 1) := by decide +kernel
theorem dX11_roof_11 : decode cX11_roof 11 = .ok (.iconst 0, 1) := dGX11_12.1
theorem dX11_roof_12 : decode cX11_roof 12 = .ok (.iload_n 1, 1) := dGX11_12.2.1
theorem dX11_roof_13 : decode cX11_roof 13 = .ok (.invokestatic 81, 3) := dGX11_12.2.2.1
theorem dX11_roof_16 : decode cX11_roof 16 = .ok (.ifCond .eq 13, 3) := dGX11_12.2.2.2.1
theorem dX11_roof_19 : decode cX11_roof 19 = .ok (.iload_n 3, 1) := dGX11_12.2.2.2.2.1
theorem dX11_roof_20 : decode cX11_roof 20 = .ok (.iconst 0, 1) := dGX11_12.2.2.2.2.2
theorem dGX11_13 : decode cX11_roof 21 = .ok (.bipush 9, 2) ∧ decode cX11_roof 23 = .ok (.invokestatic 81, 3) ∧ decode cX11_roof 26 = .ok (.ifCond .ne 5, 3) ∧ decode cX11_roof 29 = .ok (.iconst (-1), 1) ∧ decode cX11_roof 30 = .ok (.ireturn, 1) ∧ decode cX11_roof 31 = .ok (.aload_n 0, 1) := by decide +kernel
theorem dX11_roof_21 : decode cX11_roof 21 = .ok (.bipush 9, 2) := dGX11_13.1
theorem dX11_roof_23 : decode cX11_roof 23 = .ok (.invokestatic 81, 3) := dGX11_13.2.1
theorem dX11_roof_26 : decode cX11_roof 26 = .ok (.ifCond .ne 5, 3) := dGX11_13.2.2.1
theorem dX11_roof_29 : decode cX11_roof 29 = .ok (.iconst (-1), 1) := dGX11_13.2.2.2.1
theorem dX11_roof_30 : decode cX11_roof 30 = .ok (.ireturn, 1) := dGX11_13.2.2.2.2.1
theorem dX11_roof_31 : decode cX11_roof 31 = .ok (.aload_n 0, 1) := dGX11_13.2.2.2.2.2
theorem dGX11_14 : decode cX11_roof 32 = .ok (.getfield 10, 3) ∧ decode cX11_roof 35 = .ok (.getfield 85, 3) ∧ decode cX11_roof 38 = .ok (.iload_n 1, 1) ∧ decode cX11_roof 39 = .ok (.iload_n 2, 1) ∧ decode cX11_roof 40 = .ok (.iload_n 3, 1) ∧ decode cX11_roof 41 = .ok (.invokevirtual 89, 3) := by decide +kernel
theorem dX11_roof_32 : decode cX11_roof 32 = .ok (.getfield 10, 3) := dGX11_14.1
theorem dX11_roof_35 : decode cX11_roof 35 = .ok (.getfield 85, 3) := dGX11_14.2.1
theorem dX11_roof_38 : decode cX11_roof 38 = .ok (.iload_n 1, 1) := dGX11_14.2.2.1
theorem dX11_roof_39 : decode cX11_roof 39 = .ok (.iload_n 2, 1) := dGX11_14.2.2.2.1
theorem dX11_roof_40 : decode cX11_roof 40 = .ok (.iload_n 3, 1) := dGX11_14.2.2.2.2.1
theorem dX11_roof_41 : decode cX11_roof 41 = .ok (.invokevirtual 89, 3) := dGX11_14.2.2.2.2.2
theorem dGX11_15 : decode cX11_roof 44 = .ok (.ireturn, 1) ∧ decode cX11_apprentice 0 = .ok (.iload_n 1, 1) ∧ decode cX11_apprentice 1 = .ok (.iconst 0, 1) ∧ decode cX11_apprentice 2 = .ok (.bipush 9, 2) ∧ decode cX11_apprentice 4 = .ok (.invokestatic 81, 3) ∧ decode cX11_apprentice 7 = .ok (.ifCond .eq 17, 3) := by decide +kernel
theorem dX11_roof_44 : decode cX11_roof 44 = .ok (.ireturn, 1) := dGX11_15.1
theorem dX11_apprentice_0 : decode cX11_apprentice 0 = .ok (.iload_n 1, 1) := dGX11_15.2.1
theorem dX11_apprentice_1 : decode cX11_apprentice 1 = .ok (.iconst 0, 1) := dGX11_15.2.2.1
theorem dX11_apprentice_2 : decode cX11_apprentice 2 = .ok (.bipush 9, 2) := dGX11_15.2.2.2.1
theorem dX11_apprentice_4 : decode cX11_apprentice 4 = .ok (.invokestatic 81, 3) := dGX11_15.2.2.2.2.1
theorem dX11_apprentice_7 : decode cX11_apprentice 7 = .ok (.ifCond .eq 17, 3) := dGX11_15.2.2.2.2.2
theorem dGX11_16 : decode cX11_apprentice 10 = .ok (.aload_n 0, 1) ∧ decode cX11_apprentice 11 = .ok (.getfield 10, 3) ∧ decode cX11_apprentice 14 = .ok (.getfield 95, 3) ∧ decode cX11_apprentice 17 = .ok (.iload_n 1, 1) ∧ decode cX11_apprentice 18 = .ok (.invokevirtual 99, 3) ∧ decode cX11_apprentice 21 = .ok (.goto 4, 3) := by decide +kernel
theorem dX11_apprentice_10 : decode cX11_apprentice 10 = .ok (.aload_n 0, 1) := dGX11_16.1
theorem dX11_apprentice_11 : decode cX11_apprentice 11 = .ok (.getfield 10, 3) := dGX11_16.2.1
theorem dX11_apprentice_14 : decode cX11_apprentice 14 = .ok (.getfield 95, 3) := dGX11_16.2.2.1
theorem dX11_apprentice_17 : decode cX11_apprentice 17 = .ok (.iload_n 1, 1) := dGX11_16.2.2.2.1
theorem dX11_apprentice_18 : decode cX11_apprentice 18 = .ok (.invokevirtual 99, 3) := dGX11_16.2.2.2.2.1
theorem dX11_apprentice_21 : decode cX11_apprentice 21 = .ok (.goto 4, 3) := dGX11_16.2.2.2.2.2
theorem dGX11_17 : decode cX11_apprentice 24 = .ok (.iconst (-1), 1) ∧ decode cX11_apprentice 25 = .ok (.ireturn, 1) ∧ decode cX11_master 0 = .ok (.iload_n 1, 1) ∧ decode cX11_master 1 = .ok (.iconst 0, 1) ∧ decode cX11_master 2 = .ok (.iconst 4, 1) ∧ decode cX11_master 3 = .ok (.invokestatic 81, 3) := by decide +kernel
theorem dX11_apprentice_24 : decode cX11_apprentice 24 = .ok (.iconst (-1), 1) := dGX11_17.1
theorem dX11_apprentice_25 : decode cX11_apprentice 25 = .ok (.ireturn, 1) := dGX11_17.2.1
theorem dX11_master_0 : decode cX11_master 0 = .ok (.iload_n 1, 1) := dGX11_17.2.2.1
theorem dX11_master_1 : decode cX11_master 1 = .ok (.iconst 0, 1) := dGX11_17.2.2.2.1
theorem dX11_master_2 : decode cX11_master 2 = .ok (.iconst 4, 1) := dGX11_17.2.2.2.2.1
theorem dX11_master_3 : decode cX11_master 3 = .ok (.invokestatic 81, 3) := dGX11_17.2.2.2.2.2
theorem dGX11_18 : decode cX11_master 6 = .ok (.ifCond .eq 26, 3) ∧ decode cX11_master 9 = .ok (.aload_n 0, 1) ∧ decode cX11_master 10 = .ok (.getfield 10, 3) ∧ decode cX11_master 13 = .ok (.getfield 104, 3) ∧ decode cX11_master 16 = .ok (.iload_n 1, 1) ∧ decode cX11_master 17 = .ok (.iload_n 2, 1) := by decide +kernel
theorem dX11_master_6 : decode cX11_master 6 = .ok (.ifCond .eq 26, 3) := dGX11_18.1
theorem dX11_master_9 : decode cX11_master 9 = .ok (.aload_n 0, 1) := dGX11_18.2.1
theorem dX11_master_10 : decode cX11_master 10 = .ok (.getfield 10, 3) := dGX11_18.2.2.1
theorem dX11_master_13 : decode cX11_master 13 = .ok (.getfield 104, 3) := dGX11_18.2.2.2.1
theorem dX11_master_16 : decode cX11_master 16 = .ok (.iload_n 1, 1) := dGX11_18.2.2.2.2.1
theorem dX11_master_17 : decode cX11_master 17 = .ok (.iload_n 2, 1) := dGX11_18.2.2.2.2.2
theorem dGX11_19 : decode cX11_master 18 = .ok (.ifCond .eq 7, 3) ∧ decode cX11_master 21 = .ok (.iconst 1, 1) ∧ decode cX11_master 22 = .ok (.goto 4, 3) ∧ decode cX11_master 25 = .ok (.iconst 0, 1) ∧ decode cX11_master 26 = .ok (.invokevirtual 108, 3) ∧ decode cX11_master 29 = .ok (.goto 4, 3) := by decide +kernel
theorem dX11_master_18 : decode cX11_master 18 = .ok (.ifCond .eq 7, 3) := dGX11_19.1
theorem dX11_master_21 : decode cX11_master 21 = .ok (.iconst 1, 1) := dGX11_19.2.1
theorem dX11_master_22 : decode cX11_master 22 = .ok (.goto 4, 3) := dGX11_19.2.2.1
theorem dX11_master_25 : decode cX11_master 25 = .ok (.iconst 0, 1) := dGX11_19.2.2.2.1
theorem dX11_master_26 : decode cX11_master 26 = .ok (.invokevirtual 108, 3) := dGX11_19.2.2.2.2.1
theorem dX11_master_29 : decode cX11_master 29 = .ok (.goto 4, 3) := dGX11_19.2.2.2.2.2
theorem dGX11_20 : decode cX11_master 32 = .ok (.iconst (-1), 1) ∧ decode cX11_master 33 = .ok (.ireturn, 1) ∧ decode cX11_on 0 = .ok (.aload_n 0, 1) ∧ decode cX11_on 1 = .ok (.getfield 10, 3) ∧ decode cX11_on 4 = .ok (.getfield 95, 3) ∧ decode cX11_on 7 = .ok (.iload_n 1, 1) := by decide +kernel
theorem dX11_master_32 : decode cX11_master 32 = .ok (.iconst (-1), 1) := dGX11_20.1
theorem dX11_master_33 : decode cX11_master 33 = .ok (.ireturn, 1) := dGX11_20.2.1
theorem dX11_on_0 : decode cX11_on 0 = .ok (.aload_n 0, 1) := dGX11_20.2.2.1
theorem dX11_on_1 : decode cX11_on 1 = .ok (.getfield 10, 3) := dGX11_20.2.2.2.1
theorem dX11_on_4 : decode cX11_on 4 = .ok (.getfield 95, 3) := dGX11_20.2.2.2.2.1
theorem dX11_on_7 : decode cX11_on 7 = .ok (.iload_n 1, 1) := dGX11_20.2.2.2.2.2
theorem dGX11_21 : decode cX11_on 8 = .ok (.invokevirtual 113, 3) ∧ decode cX11_on 11 = .ok (.ifCond .eq 11, 3) ∧ decode cX11_on 14 = .ok (.aload_n 0, 1) ∧ decode cX11_on 15 = .ok (.iload_n 2, 1) ∧ decode cX11_on 16 = .ok (.invokevirtual 117, 3) ∧ decode cX11_on 19 = .ok (.ifCond .ne 5, 3) := by decide +kernel
theorem dX11_on_8 : decode cX11_on 8 = .ok (.invokevirtual 113, 3) := dGX11_21.1
theorem dX11_on_11 : decode cX11_on 11 = .ok (.ifCond .eq 11, 3) := dGX11_21.2.1
theorem dX11_on_14 : decode cX11_on 14 = .ok (.aload_n 0, 1) := dGX11_21.2.2.1
theorem dX11_on_15 : decode cX11_on 15 = .ok (.iload_n 2, 1) := dGX11_21.2.2.2.1
theorem dX11_on_16 : decode cX11_on 16 = .ok (.invokevirtual 117, 3) := dGX11_21.2.2.2.2.1
theorem dX11_on_19 : decode cX11_on 19 = .ok (.ifCond .ne 5, 3) := dGX11_21.2.2.2.2.2
theorem dGX11_22 : decode cX11_on 22 = .ok (.iconst 0, 1) ∧ decode cX11_on 23 = .ok (.ireturn, 1) ∧ decode cX11_on 24 = .ok (.aload_n 0, 1) ∧ decode cX11_on 25 = .ok (.getfield 10, 3) ∧ decode cX11_on 28 = .ok (.getfield 95, 3) ∧ decode cX11_on 31 = .ok (.getfield 120, 3) := by decide +kernel
theorem dX11_on_22 : decode cX11_on 22 = .ok (.iconst 0, 1) := dGX11_22.1
theorem dX11_on_23 : decode cX11_on 23 = .ok (.ireturn, 1) := dGX11_22.2.1
theorem dX11_on_24 : decode cX11_on 24 = .ok (.aload_n 0, 1) := dGX11_22.2.2.1
theorem dX11_on_25 : decode cX11_on 25 = .ok (.getfield 10, 3) := dGX11_22.2.2.2.1
theorem dX11_on_28 : decode cX11_on 28 = .ok (.getfield 95, 3) := dGX11_22.2.2.2.2.1
theorem dX11_on_31 : decode cX11_on 31 = .ok (.getfield 120, 3) := dGX11_22.2.2.2.2.2
theorem dGX11_23 : decode cX11_on 34 = .ok (.iload_n 1, 1) ∧ decode cX11_on 35 = .ok (.iload_n 2, 1) ∧ decode cX11_on 36 = .ok (.iconst (-1), 1) ∧ decode cX11_on 37 = .ok (.if_icmp .ne 8, 3) ∧ decode cX11_on 40 = .ok (.bipush 10, 2) ∧ decode cX11_on 42 = .ok (.goto 4, 3) := by decide +kernel
theorem dX11_on_34 : decode cX11_on 34 = .ok (.iload_n 1, 1) := dGX11_23.1
theorem dX11_on_35 : decode cX11_on 35 = .ok (.iload_n 2, 1) := dGX11_23.2.1
theorem dX11_on_36 : decode cX11_on 36 = .ok (.iconst (-1), 1) := dGX11_23.2.2.1
theorem dX11_on_37 : decode cX11_on 37 = .ok (.if_icmp .ne 8, 3) := dGX11_23.2.2.2.1
theorem dX11_on_40 : decode cX11_on 40 = .ok (.bipush 10, 2) := dGX11_23.2.2.2.2.1
theorem dX11_on_42 : decode cX11_on 42 = .ok (.goto 4, 3) := dGX11_23.2.2.2.2.2
theorem dGX11_24 : decode cX11_on 45 = .ok (.iload_n 2, 1) ∧ decode cX11_on 46 = .ok (.iastore, 1) ∧ decode cX11_on 47 = .ok (.iconst 1, 1) ∧ decode cX11_on 48 = .ok (.ireturn, 1) ∧ decode cX11_below 0 = .ok (.aload_n 0, 1) ∧ decode cX11_below 1 = .ok (.getfield 10, 3) := by decide +kernel
theorem dX11_on_45 : decode cX11_on 45 = .ok (.iload_n 2, 1) := dGX11_24.1
theorem dX11_on_46 : decode cX11_on 46 = .ok (.iastore, 1) := dGX11_24.2.1
theorem dX11_on_47 : decode cX11_on 47 = .ok (.iconst 1, 1) := dGX11_24.2.2.1
theorem dX11_on_48 : decode cX11_on 48 = .ok (.ireturn, 1) := dGX11_24.2.2.2.1
theorem dX11_below_0 : decode cX11_below 0 = .ok (.aload_n 0, 1) := dGX11_24.2.2.2.2.1
theorem dX11_below_1 : decode cX11_below 1 = .ok (.getfield 10, 3) := dGX11_24.2.2.2.2.2
theorem dGX11_25 : decode cX11_below 4 = .ok (.getfield 104, 3) ∧ decode cX11_below 7 = .ok (.iload_n 1, 1) ∧ decode cX11_below 8 = .ok (.invokevirtual 124, 3) ∧ decode cX11_below 11 = .ok (.ifCond .eq 11, 3) ∧ decode cX11_below 14 = .ok (.aload_n 0, 1) ∧ decode cX11_below 15 = .ok (.iload_n 2, 1) := by decide +kernel
theorem dX11_below_4 : decode cX11_below 4 = .ok (.getfield 104, 3) := dGX11_25.1
theorem dX11_below_7 : decode cX11_below 7 = .ok (.iload_n 1, 1) := dGX11_25.2.1
theorem dX11_below_8 : decode cX11_below 8 = .ok (.invokevirtual 124, 3) := dGX11_25.2.2.1
theorem dX11_below_11 : decode cX11_below 11 = .ok (.ifCond .eq 11, 3) := dGX11_25.2.2.2.1
theorem dX11_below_14 : decode cX11_below 14 = .ok (.aload_n 0, 1) := dGX11_25.2.2.2.2.1
theorem dX11_below_15 : decode cX11_below 15 = .ok (.iload_n 2, 1) := dGX11_25.2.2.2.2.2
theorem dGX11_26 : decode cX11_below 16 = .ok (.invokevirtual 117, 3) ∧ decode cX11_below 19 = .ok (.ifCond .ne 5, 3) ∧ decode cX11_below 22 = .ok (.iconst 0, 1) ∧ decode cX11_below 23 = .ok (.ireturn, 1) ∧ decode cX11_below 24 = .ok (.aload_n 0, 1) ∧ decode cX11_below 25 = .ok (.getfield 10, 3) := by decide +kernel
theorem dX11_below_16 : decode cX11_below 16 = .ok (.invokevirtual 117, 3) := dGX11_26.1
theorem dX11_below_19 : decode cX11_below 19 = .ok (.ifCond .ne 5, 3) := dGX11_26.2.1
theorem dX11_below_22 : decode cX11_below 22 = .ok (.iconst 0, 1) := dGX11_26.2.2.1
theorem dX11_below_23 : decode cX11_below 23 = .ok (.ireturn, 1) := dGX11_26.2.2.2.1
theorem dX11_below_24 : decode cX11_below 24 = .ok (.aload_n 0, 1) := dGX11_26.2.2.2.2.1
theorem dX11_below_25 : decode cX11_below 25 = .ok (.getfield 10, 3) := dGX11_26.2.2.2.2.2
theorem dGX11_27 : decode cX11_below 28 = .ok (.getfield 104, 3) ∧ decode cX11_below 31 = .ok (.getfield 125, 3) ∧ decode cX11_below 34 = .ok (.iload_n 1, 1) ∧ decode cX11_below 35 = .ok (.iload_n 2, 1) ∧ decode cX11_below 36 = .ok (.iconst (-1), 1) ∧ decode cX11_below 37 = .ok (.if_icmp .ne 8, 3) := by decide +kernel
theorem dX11_below_28 : decode cX11_below 28 = .ok (.getfield 104, 3) := dGX11_27.1
theorem dX11_below_31 : decode cX11_below 31 = .ok (.getfield 125, 3) := dGX11_27.2.1
theorem dX11_below_34 : decode cX11_below 34 = .ok (.iload_n 1, 1) := dGX11_27.2.2.1
theorem dX11_below_35 : decode cX11_below 35 = .ok (.iload_n 2, 1) := dGX11_27.2.2.2.1
theorem dX11_below_36 : decode cX11_below 36 = .ok (.iconst (-1), 1) := dGX11_27.2.2.2.2.1
theorem dX11_below_37 : decode cX11_below 37 = .ok (.if_icmp .ne 8, 3) := dGX11_27.2.2.2.2.2
theorem dGX11_28 : decode cX11_below 40 = .ok (.bipush 10, 2) ∧ decode cX11_below 42 = .ok (.goto 4, 3) ∧ decode cX11_below 45 = .ok (.iload_n 2, 1) ∧ decode cX11_below 46 = .ok (.iastore, 1) ∧ decode cX11_below 47 = .ok (.iconst 1, 1) ∧ decode cX11_below 48 = .ok (.ireturn, 1) := by decide +kernel
theorem dX11_below_40 : decode cX11_below 40 = .ok (.bipush 10, 2) := dGX11_28.1
theorem dX11_below_42 : decode cX11_below 42 = .ok (.goto 4, 3) := dGX11_28.2.1
theorem dX11_below_45 : decode cX11_below 45 = .ok (.iload_n 2, 1) := dGX11_28.2.2.1
theorem dX11_below_46 : decode cX11_below 46 = .ok (.iastore, 1) := dGX11_28.2.2.2.1
theorem dX11_below_47 : decode cX11_below 47 = .ok (.iconst 1, 1) := dGX11_28.2.2.2.2.1
theorem dX11_below_48 : decode cX11_below 48 = .ok (.ireturn, 1) := dGX11_28.2.2.2.2.2
theorem dGX11_29 : decode cX11_gear 0 = .ok (.iload_n 3, 1) ∧ decode cX11_gear 1 = .ok (.ifCond .eq 7, 3) ∧ decode cX11_gear 4 = .ok (.iconst 1, 1) ∧ decode cX11_gear 5 = .ok (.goto 4, 3) ∧ decode cX11_gear 8 = .ok (.iconst 0, 1) ∧ decode cX11_gear 9 = .ok (.istore 4, 2) := by decide +kernel
theorem dX11_gear_0 : decode cX11_gear 0 = .ok (.iload_n 3, 1) := dGX11_29.1
theorem dX11_gear_1 : decode cX11_gear 1 = .ok (.ifCond .eq 7, 3) := dGX11_29.2.1
theorem dX11_gear_4 : decode cX11_gear 4 = .ok (.iconst 1, 1) := dGX11_29.2.2.1
theorem dX11_gear_5 : decode cX11_gear 5 = .ok (.goto 4, 3) := dGX11_29.2.2.2.1
theorem dX11_gear_8 : decode cX11_gear 8 = .ok (.iconst 0, 1) := dGX11_29.2.2.2.2.1
theorem dX11_gear_9 : decode cX11_gear 9 = .ok (.istore 4, 2) := dGX11_29.2.2.2.2.2
theorem dGX11_30 : decode cX11_gear 11 = .ok (.aload_n 0, 1) ∧ decode cX11_gear 12 = .ok (.iload_n 1, 1) ∧ decode cX11_gear 13 = .ok (.iload_n 2, 1) ∧ decode cX11_gear 14 = .ok (.invokevirtual 126, 3) ∧ decode cX11_gear 17 = .ok (.ifCond .eq 17, 3) ∧ decode cX11_gear 20 = .ok (.aload_n 0, 1) := by decide +kernel
theorem dX11_gear_11 : decode cX11_gear 11 = .ok (.aload_n 0, 1) := dGX11_30.1
theorem dX11_gear_12 : decode cX11_gear 12 = .ok (.iload_n 1, 1) := dGX11_30.2.1
theorem dX11_gear_13 : decode cX11_gear 13 = .ok (.iload_n 2, 1) := dGX11_30.2.2.1
theorem dX11_gear_14 : decode cX11_gear 14 = .ok (.invokevirtual 126, 3) := dGX11_30.2.2.2.1
theorem dX11_gear_17 : decode cX11_gear 17 = .ok (.ifCond .eq 17, 3) := dGX11_30.2.2.2.2.1
theorem dX11_gear_20 : decode cX11_gear 20 = .ok (.aload_n 0, 1) := dGX11_30.2.2.2.2.2
theorem dGX11_31 : decode cX11_gear 21 = .ok (.getfield 10, 3) ∧ decode cX11_gear 24 = .ok (.iload_n 1, 1) ∧ decode cX11_gear 25 = .ok (.iload_n 2, 1) ∧ decode cX11_gear 26 = .ok (.invokevirtual 130, 3) ∧ decode cX11_gear 29 = .ok (.iload 4, 2) ∧ decode cX11_gear 31 = .ok (.if_icmp .ne 5, 3) := by decide +kernel
theorem dX11_gear_21 : decode cX11_gear 21 = .ok (.getfield 10, 3) := dGX11_31.1
theorem dX11_gear_24 : decode cX11_gear 24 = .ok (.iload_n 1, 1) := dGX11_31.2.1
theorem dX11_gear_25 : decode cX11_gear 25 = .ok (.iload_n 2, 1) := dGX11_31.2.2.1
theorem dX11_gear_26 : decode cX11_gear 26 = .ok (.invokevirtual 130, 3) := dGX11_31.2.2.2.1
theorem dX11_gear_29 : decode cX11_gear 29 = .ok (.iload 4, 2) := dGX11_31.2.2.2.2.1
theorem dX11_gear_31 : decode cX11_gear 31 = .ok (.if_icmp .ne 5, 3) := dGX11_31.2.2.2.2.2
theorem dGX11_32 : decode cX11_gear 34 = .ok (.iconst 0, 1) ∧ decode cX11_gear 35 = .ok (.ireturn, 1) ∧ decode cX11_gear 36 = .ok (.aload_n 0, 1) ∧ decode cX11_gear 37 = .ok (.getfield 10, 3) ∧ decode cX11_gear 40 = .ok (.iload_n 1, 1) ∧ decode cX11_gear 41 = .ok (.iload_n 2, 1) := by decide +kernel
theorem dX11_gear_34 : decode cX11_gear 34 = .ok (.iconst 0, 1) := dGX11_32.1
theorem dX11_gear_35 : decode cX11_gear 35 = .ok (.ireturn, 1) := dGX11_32.2.1
theorem dX11_gear_36 : decode cX11_gear 36 = .ok (.aload_n 0, 1) := dGX11_32.2.2.1
theorem dX11_gear_37 : decode cX11_gear 37 = .ok (.getfield 10, 3) := dGX11_32.2.2.2.1
theorem dX11_gear_40 : decode cX11_gear 40 = .ok (.iload_n 1, 1) := dGX11_32.2.2.2.2.1
theorem dX11_gear_41 : decode cX11_gear 41 = .ok (.iload_n 2, 1) := dGX11_32.2.2.2.2.2
theorem dGX11_33 : decode cX11_gear 42 = .ok (.iload 4, 2) ∧ decode cX11_gear 44 = .ok (.invokevirtual 133, 3) ∧ decode cX11_gear 47 = .ok (.iconst 1, 1) ∧ decode cX11_gear 48 = .ok (.ireturn, 1) ∧ decode cX11_snow 0 = .ok (.iload_n 2, 1) ∧ decode cX11_snow 1 = .ok (.ifCond .eq 7, 3) := by decide +kernel
theorem dX11_gear_42 : decode cX11_gear 42 = .ok (.iload 4, 2) := dGX11_33.1
theorem dX11_gear_44 : decode cX11_gear 44 = .ok (.invokevirtual 133, 3) := dGX11_33.2.1
theorem dX11_gear_47 : decode cX11_gear 47 = .ok (.iconst 1, 1) := dGX11_33.2.2.1
theorem dX11_gear_48 : decode cX11_gear 48 = .ok (.ireturn, 1) := dGX11_33.2.2.2.1
theorem dX11_snow_0 : decode cX11_snow 0 = .ok (.iload_n 2, 1) := dGX11_33.2.2.2.2.1
theorem dX11_snow_1 : decode cX11_snow 1 = .ok (.ifCond .eq 7, 3) := dGX11_33.2.2.2.2.2
theorem dGX11_34 : decode cX11_snow 4 = .ok (.iconst 1, 1) ∧ decode cX11_snow 5 = .ok (.goto 4, 3) ∧ decode cX11_snow 8 = .ok (.iconst 0, 1) ∧ decode cX11_snow 9 = .ok (.istore_n 3, 1) ∧ decode cX11_snow 10 = .ok (.iload_n 1, 1) ∧ decode cX11_snow 11 = .ok (.iconst 0, 1) := by decide +kernel
theorem dX11_snow_4 : decode cX11_snow 4 = .ok (.iconst 1, 1) := dGX11_34.1
theorem dX11_snow_5 : decode cX11_snow 5 = .ok (.goto 4, 3) := dGX11_34.2.1
theorem dX11_snow_8 : decode cX11_snow 8 = .ok (.iconst 0, 1) := dGX11_34.2.2.1
theorem dX11_snow_9 : decode cX11_snow 9 = .ok (.istore_n 3, 1) := dGX11_34.2.2.2.1
theorem dX11_snow_10 : decode cX11_snow 10 = .ok (.iload_n 1, 1) := dGX11_34.2.2.2.2.1
theorem dX11_snow_11 : decode cX11_snow 11 = .ok (.iconst 0, 1) := dGX11_34.2.2.2.2.2
theorem dGX11_35 : decode cX11_snow 12 = .ok (.bipush 99, 2) ∧ decode cX11_snow 14 = .ok (.invokestatic 81, 3) ∧ decode cX11_snow 17 = .ok (.ifCond .eq 16, 3) ∧ decode cX11_snow 20 = .ok (.aload_n 0, 1) ∧ decode cX11_snow 21 = .ok (.getfield 10, 3) ∧ decode cX11_snow 24 = .ok (.getfield 137, 3) := by decide +kernel
theorem dX11_snow_12 : decode cX11_snow 12 = .ok (.bipush 99, 2) := dGX11_35.1
theorem dX11_snow_14 : decode cX11_snow 14 = .ok (.invokestatic 81, 3) := dGX11_35.2.1
theorem dX11_snow_17 : decode cX11_snow 17 = .ok (.ifCond .eq 16, 3) := dGX11_35.2.2.1
theorem dX11_snow_20 : decode cX11_snow 20 = .ok (.aload_n 0, 1) := dGX11_35.2.2.2.1
theorem dX11_snow_21 : decode cX11_snow 21 = .ok (.getfield 10, 3) := dGX11_35.2.2.2.2.1
theorem dX11_snow_24 : decode cX11_snow 24 = .ok (.getfield 137, 3) := dGX11_35.2.2.2.2.2
theorem dGX11_36 : decode cX11_snow 27 = .ok (.iload_n 1, 1) ∧ decode cX11_snow 28 = .ok (.iaload, 1) ∧ decode cX11_snow 29 = .ok (.iload_n 3, 1) ∧ decode cX11_snow 30 = .ok (.if_icmp .ne 5, 3) ∧ decode cX11_snow 33 = .ok (.iconst 0, 1) ∧ decode cX11_snow 34 = .ok (.ireturn, 1) := by decide +kernel
theorem dX11_snow_27 : decode cX11_snow 27 = .ok (.iload_n 1, 1) := dGX11_36.1
theorem dX11_snow_28 : decode cX11_snow 28 = .ok (.iaload, 1) := dGX11_36.2.1
theorem dX11_snow_29 : decode cX11_snow 29 = .ok (.iload_n 3, 1) := dGX11_36.2.2.1
theorem dX11_snow_30 : decode cX11_snow 30 = .ok (.if_icmp .ne 5, 3) := dGX11_36.2.2.2.1
theorem dX11_snow_33 : decode cX11_snow 33 = .ok (.iconst 0, 1) := dGX11_36.2.2.2.2.1
theorem dX11_snow_34 : decode cX11_snow 34 = .ok (.ireturn, 1) := dGX11_36.2.2.2.2.2
theorem dGX11_37 : decode cX11_snow 35 = .ok (.aload_n 0, 1) ∧ decode cX11_snow 36 = .ok (.getfield 10, 3) ∧ decode cX11_snow 39 = .ok (.getfield 137, 3) ∧ decode cX11_snow 42 = .ok (.iload_n 1, 1) ∧ decode cX11_snow 43 = .ok (.iload_n 3, 1) ∧ decode cX11_snow 44 = .ok (.iastore, 1) := by decide +kernel
theorem dX11_snow_35 : decode cX11_snow 35 = .ok (.aload_n 0, 1) := dGX11_37.1
theorem dX11_snow_36 : decode cX11_snow 36 = .ok (.getfield 10, 3) := dGX11_37.2.1
theorem dX11_snow_39 : decode cX11_snow 39 = .ok (.getfield 137, 3) := dGX11_37.2.2.1
theorem dX11_snow_42 : decode cX11_snow 42 = .ok (.iload_n 1, 1) := dGX11_37.2.2.2.1
theorem dX11_snow_43 : decode cX11_snow 43 = .ok (.iload_n 3, 1) := dGX11_37.2.2.2.2.1
theorem dX11_snow_44 : decode cX11_snow 44 = .ok (.iastore, 1) := dGX11_37.2.2.2.2.2
theorem dGX11_38 : decode cX11_snow 45 = .ok (.iconst 1, 1) ∧ decode cX11_snow 46 = .ok (.ireturn, 1) ∧ decode cX11_feed 0 = .ok (.aload_n 0, 1) ∧ decode cX11_feed 1 = .ok (.getfield 25, 3) ∧ decode cX11_feed 4 = .ok (.getfield 140, 3) ∧ decode cX11_feed 7 = .ok (.bipush 20, 2) := by decide +kernel
theorem dX11_snow_45 : decode cX11_snow 45 = .ok (.iconst 1, 1) := dGX11_38.1
theorem dX11_snow_46 : decode cX11_snow 46 = .ok (.ireturn, 1) := dGX11_38.2.1
theorem dX11_feed_0 : decode cX11_feed 0 = .ok (.aload_n 0, 1) := dGX11_38.2.2.1
theorem dX11_feed_1 : decode cX11_feed 1 = .ok (.getfield 25, 3) := dGX11_38.2.2.2.1
theorem dX11_feed_4 : decode cX11_feed 4 = .ok (.getfield 140, 3) := dGX11_38.2.2.2.2.1
theorem dX11_feed_7 : decode cX11_feed 7 = .ok (.bipush 20, 2) := dGX11_38.2.2.2.2.2
theorem dGX11_39 : decode cX11_feed 9 = .ok (.iadd, 1) ∧ decode cX11_feed 10 = .ok (.sipush 220, 3) ∧ decode cX11_feed 13 = .ok (.if_icmp .le 5, 3) ∧ decode cX11_feed 16 = .ok (.iconst (-1), 1) ∧ decode cX11_feed 17 = .ok (.ireturn, 1) ∧ decode cX11_feed 18 = .ok (.aload_n 0, 1) := by decide +kernel
theorem dX11_feed_9 : decode cX11_feed 9 = .ok (.iadd, 1) := dGX11_39.1
theorem dX11_feed_10 : decode cX11_feed 10 = .ok (.sipush 220, 3) := dGX11_39.2.1
theorem dX11_feed_13 : decode cX11_feed 13 = .ok (.if_icmp .le 5, 3) := dGX11_39.2.2.1
theorem dX11_feed_16 : decode cX11_feed 16 = .ok (.iconst (-1), 1) := dGX11_39.2.2.2.1
theorem dX11_feed_17 : decode cX11_feed 17 = .ok (.ireturn, 1) := dGX11_39.2.2.2.2.1
theorem dX11_feed_18 : decode cX11_feed 18 = .ok (.aload_n 0, 1) := dGX11_39.2.2.2.2.2
theorem dGX11_40 : decode cX11_feed 19 = .ok (.getfield 25, 3) ∧ decode cX11_feed 22 = .ok (.iload_n 1, 1) ∧ decode cX11_feed 23 = .ok (.invokevirtual 144, 3) ∧ decode cX11_feed 26 = .ok (.aload_n 0, 1) ∧ decode cX11_feed 27 = .ok (.getfield 25, 3) ∧ decode cX11_feed 30 = .ok (.iload_n 2, 1) := by decide +kernel
theorem dX11_feed_19 : decode cX11_feed 19 = .ok (.getfield 25, 3) := dGX11_40.1
theorem dX11_feed_22 : decode cX11_feed 22 = .ok (.iload_n 1, 1) := dGX11_40.2.1
theorem dX11_feed_23 : decode cX11_feed 23 = .ok (.invokevirtual 144, 3) := dGX11_40.2.2.1
theorem dX11_feed_26 : decode cX11_feed 26 = .ok (.aload_n 0, 1) := dGX11_40.2.2.2.1
theorem dX11_feed_27 : decode cX11_feed 27 = .ok (.getfield 25, 3) := dGX11_40.2.2.2.2.1
theorem dX11_feed_30 : decode cX11_feed 30 = .ok (.iload_n 2, 1) := dGX11_40.2.2.2.2.2
theorem dGX11_41 : decode cX11_feed 31 = .ok (.invokevirtual 144, 3) ∧ decode cX11_feed 34 = .ok (.aload_n 0, 1) ∧ decode cX11_feed 35 = .ok (.getfield 25, 3) ∧ decode cX11_feed 38 = .ok (.iload_n 3, 1) ∧ decode cX11_feed 39 = .ok (.invokevirtual 144, 3) ∧ decode cX11_feed 42 = .ok (.aload_n 0, 1) := by decide +kernel
theorem dX11_feed_31 : decode cX11_feed 31 = .ok (.invokevirtual 144, 3) := dGX11_41.1
theorem dX11_feed_34 : decode cX11_feed 34 = .ok (.aload_n 0, 1) := dGX11_41.2.1
theorem dX11_feed_35 : decode cX11_feed 35 = .ok (.getfield 25, 3) := dGX11_41.2.2.1
theorem dX11_feed_38 : decode cX11_feed 38 = .ok (.iload_n 3, 1) := dGX11_41.2.2.2.1
theorem dX11_feed_39 : decode cX11_feed 39 = .ok (.invokevirtual 144, 3) := dGX11_41.2.2.2.2.1
theorem dX11_feed_42 : decode cX11_feed 42 = .ok (.aload_n 0, 1) := dGX11_41.2.2.2.2.2
theorem dGX11_42 : decode cX11_feed 43 = .ok (.getfield 25, 3) ∧ decode cX11_feed 46 = .ok (.iload 4, 2) ∧ decode cX11_feed 48 = .ok (.invokevirtual 144, 3) ∧ decode cX11_feed 51 = .ok (.aload_n 0, 1) ∧ decode cX11_feed 52 = .ok (.getfield 25, 3) ∧ decode cX11_feed 55 = .ok (.iload 5, 2) := by decide +kernel
theorem dX11_feed_43 : decode cX11_feed 43 = .ok (.getfield 25, 3) := dGX11_42.1
theorem dX11_feed_46 : decode cX11_feed 46 = .ok (.iload 4, 2) := dGX11_42.2.1
theorem dX11_feed_48 : decode cX11_feed 48 = .ok (.invokevirtual 144, 3) := dGX11_42.2.2.1
theorem dX11_feed_51 : decode cX11_feed 51 = .ok (.aload_n 0, 1) := dGX11_42.2.2.2.1
theorem dX11_feed_52 : decode cX11_feed 52 = .ok (.getfield 25, 3) := dGX11_42.2.2.2.2.1
theorem dX11_feed_55 : decode cX11_feed 55 = .ok (.iload 5, 2) := dGX11_42.2.2.2.2.2
theorem dGX11_43 : decode cX11_feed 57 = .ok (.invokevirtual 144, 3) ∧ decode cX11_feed 60 = .ok (.aload_n 0, 1) ∧ decode cX11_feed 61 = .ok (.getfield 25, 3) ∧ decode cX11_feed 64 = .ok (.getfield 140, 3) ∧ decode cX11_feed 67 = .ok (.ireturn, 1) ∧ decode cX11_law 0 = .ok (.iload_n 1, 1) := by decide +kernel
theorem dX11_feed_57 : decode cX11_feed 57 = .ok (.invokevirtual 144, 3) := dGX11_43.1
theorem dX11_feed_60 : decode cX11_feed 60 = .ok (.aload_n 0, 1) := dGX11_43.2.1
theorem dX11_feed_61 : decode cX11_feed 61 = .ok (.getfield 25, 3) := dGX11_43.2.2.1
theorem dX11_feed_64 : decode cX11_feed 64 = .ok (.getfield 140, 3) := dGX11_43.2.2.2.1
theorem dX11_feed_67 : decode cX11_feed 67 = .ok (.ireturn, 1) := dGX11_43.2.2.2.2.1
theorem dX11_law_0 : decode cX11_law 0 = .ok (.iload_n 1, 1) := dGX11_43.2.2.2.2.2
theorem dGX11_44 : decode cX11_law 1 = .ok (.iconst 1, 1) ∧ decode cX11_law 2 = .ok (.sipush 200, 3) ∧ decode cX11_law 5 = .ok (.invokestatic 81, 3) ∧ decode cX11_law 8 = .ok (.ifCond .eq 14, 3) ∧ decode cX11_law 11 = .ok (.iload_n 1, 1) ∧ decode cX11_law 12 = .ok (.aload_n 0, 1) := by decide +kernel
theorem dX11_law_1 : decode cX11_law 1 = .ok (.iconst 1, 1) := dGX11_44.1
theorem dX11_law_2 : decode cX11_law 2 = .ok (.sipush 200, 3) := dGX11_44.2.1
theorem dX11_law_5 : decode cX11_law 5 = .ok (.invokestatic 81, 3) := dGX11_44.2.2.1
theorem dX11_law_8 : decode cX11_law 8 = .ok (.ifCond .eq 14, 3) := dGX11_44.2.2.2.1
theorem dX11_law_11 : decode cX11_law 11 = .ok (.iload_n 1, 1) := dGX11_44.2.2.2.2.1
theorem dX11_law_12 : decode cX11_law 12 = .ok (.aload_n 0, 1) := dGX11_44.2.2.2.2.2
theorem dGX11_45 : decode cX11_law 13 = .ok (.getfield 25, 3) ∧ decode cX11_law 16 = .ok (.getfield 140, 3) ∧ decode cX11_law 19 = .ok (.if_icmp .le 5, 3) ∧ decode cX11_law 22 = .ok (.iconst (-1), 1) ∧ decode cX11_law 23 = .ok (.ireturn, 1) ∧ decode cX11_law 24 = .ok (.aload_n 0, 1) := by decide +kernel
theorem dX11_law_13 : decode cX11_law 13 = .ok (.getfield 25, 3) := dGX11_45.1
theorem dX11_law_16 : decode cX11_law 16 = .ok (.getfield 140, 3) := dGX11_45.2.1
theorem dX11_law_19 : decode cX11_law 19 = .ok (.if_icmp .le 5, 3) := dGX11_45.2.2.1
theorem dX11_law_22 : decode cX11_law 22 = .ok (.iconst (-1), 1) := dGX11_45.2.2.2.1
theorem dX11_law_23 : decode cX11_law 23 = .ok (.ireturn, 1) := dGX11_45.2.2.2.2.1
theorem dX11_law_24 : decode cX11_law 24 = .ok (.aload_n 0, 1) := dGX11_45.2.2.2.2.2
theorem dGX11_46 : decode cX11_law 25 = .ok (.getfield 35, 3) ∧ decode cX11_law 28 = .ok (.aload_n 0, 1) ∧ decode cX11_law 29 = .ok (.getfield 25, 3) ∧ decode cX11_law 32 = .ok (.iload_n 1, 1) ∧ decode cX11_law 33 = .ok (.aload_n 0, 1) ∧ decode cX11_law 34 = .ok (.getfield 74, 3) := by decide +kernel
theorem dX11_law_25 : decode cX11_law 25 = .ok (.getfield 35, 3) := dGX11_46.1
theorem dX11_law_28 : decode cX11_law 28 = .ok (.aload_n 0, 1) := dGX11_46.2.1
theorem dX11_law_29 : decode cX11_law 29 = .ok (.getfield 25, 3) := dGX11_46.2.2.1
theorem dX11_law_32 : decode cX11_law 32 = .ok (.iload_n 1, 1) := dGX11_46.2.2.2.1
theorem dX11_law_33 : decode cX11_law 33 = .ok (.aload_n 0, 1) := dGX11_46.2.2.2.2.1
theorem dX11_law_34 : decode cX11_law 34 = .ok (.getfield 74, 3) := dGX11_46.2.2.2.2.2
theorem dGX11_47 : decode cX11_law 37 = .ok (.invokevirtual 148, 3) ∧ decode cX11_law 40 = .ok (.istore_n 2, 1) ∧ decode cX11_law 41 = .ok (.aload_n 0, 1) ∧ decode cX11_law 42 = .ok (.getfield 25, 3) ∧ decode cX11_law 45 = .ok (.iconst 0, 1) ∧ decode cX11_law 46 = .ok (.putfield 140, 3) := by decide +kernel
theorem dX11_law_37 : decode cX11_law 37 = .ok (.invokevirtual 148, 3) := dGX11_47.1
theorem dX11_law_40 : decode cX11_law 40 = .ok (.istore_n 2, 1) := dGX11_47.2.1
theorem dX11_law_41 : decode cX11_law 41 = .ok (.aload_n 0, 1) := dGX11_47.2.2.1
theorem dX11_law_42 : decode cX11_law 42 = .ok (.getfield 25, 3) := dGX11_47.2.2.2.1
theorem dX11_law_45 : decode cX11_law 45 = .ok (.iconst 0, 1) := dGX11_47.2.2.2.2.1
theorem dX11_law_46 : decode cX11_law 46 = .ok (.putfield 140, 3) := dGX11_47.2.2.2.2.2
theorem dGX11_48 : decode cX11_law 49 = .ok (.iload_n 2, 1) ∧ decode cX11_law 50 = .ok (.ifCond .lt 21, 3) ∧ decode cX11_law 53 = .ok (.aload_n 0, 1) ∧ decode cX11_law 54 = .ok (.getfield 70, 3) ∧ decode cX11_law 57 = .ok (.astore_n 3, 1) ∧ decode cX11_law 58 = .ok (.aload_n 0, 1) := by decide +kernel
theorem dX11_law_49 : decode cX11_law 49 = .ok (.iload_n 2, 1) := dGX11_48.1
theorem dX11_law_50 : decode cX11_law 50 = .ok (.ifCond .lt 21, 3) := dGX11_48.2.1
theorem dX11_law_53 : decode cX11_law 53 = .ok (.aload_n 0, 1) := dGX11_48.2.2.1
theorem dX11_law_54 : decode cX11_law 54 = .ok (.getfield 70, 3) := dGX11_48.2.2.2.1
theorem dX11_law_57 : decode cX11_law 57 = .ok (.astore_n 3, 1) := dGX11_48.2.2.2.2.1
theorem dX11_law_58 : decode cX11_law 58 = .ok (.aload_n 0, 1) := dGX11_48.2.2.2.2.2
theorem dGX11_49 : decode cX11_law 59 = .ok (.aload_n 0, 1) ∧ decode cX11_law 60 = .ok (.getfield 74, 3) ∧ decode cX11_law 63 = .ok (.putfield 70, 3) ∧ decode cX11_law 66 = .ok (.aload_n 0, 1) ∧ decode cX11_law 67 = .ok (.aload_n 3, 1) ∧ decode cX11_law 68 = .ok (.putfield 74, 3) := by decide +kernel
theorem dX11_law_59 : decode cX11_law 59 = .ok (.aload_n 0, 1) := dGX11_49.1
theorem dX11_law_60 : decode cX11_law 60 = .ok (.getfield 74, 3) := dGX11_49.2.1
theorem dX11_law_63 : decode cX11_law 63 = .ok (.putfield 70, 3) := dGX11_49.2.2.1
theorem dX11_law_66 : decode cX11_law 66 = .ok (.aload_n 0, 1) := dGX11_49.2.2.2.1
theorem dX11_law_67 : decode cX11_law 67 = .ok (.aload_n 3, 1) := dGX11_49.2.2.2.2.1
theorem dX11_law_68 : decode cX11_law 68 = .ok (.putfield 74, 3) := dGX11_49.2.2.2.2.2
theorem dGX11_50 : decode cX11_law 71 = .ok (.iload_n 2, 1) ∧ decode cX11_law 72 = .ok (.ireturn, 1) ∧ decode cX11_hours 0 = .ok (.iload_n 1, 1) ∧ decode cX11_hours 1 = .ok (.iconst 1, 1) ∧ decode cX11_hours 2 = .ok (.bipush 40, 2) ∧ decode cX11_hours 4 = .ok (.invokestatic 81, 3) := by decide +kernel
theorem dX11_law_71 : decode cX11_law 71 = .ok (.iload_n 2, 1) := dGX11_50.1
theorem dX11_law_72 : decode cX11_law 72 = .ok (.ireturn, 1) := dGX11_50.2.1
theorem dX11_hours_0 : decode cX11_hours 0 = .ok (.iload_n 1, 1) := dGX11_50.2.2.1
theorem dX11_hours_1 : decode cX11_hours 1 = .ok (.iconst 1, 1) := dGX11_50.2.2.2.1
theorem dX11_hours_2 : decode cX11_hours 2 = .ok (.bipush 40, 2) := dGX11_50.2.2.2.2.1
theorem dX11_hours_4 : decode cX11_hours 4 = .ok (.invokestatic 81, 3) := dGX11_50.2.2.2.2.2
theorem dGX11_51 : decode cX11_hours 7 = .ok (.ifCond .eq 18, 3) ∧ decode cX11_hours 10 = .ok (.aload_n 0, 1) ∧ decode cX11_hours 11 = .ok (.getfield 10, 3) ∧ decode cX11_hours 14 = .ok (.aload_n 0, 1) ∧ decode cX11_hours 15 = .ok (.getfield 70, 3) ∧ decode cX11_hours 18 = .ok (.iload_n 1, 1) := by decide +kernel
theorem dX11_hours_7 : decode cX11_hours 7 = .ok (.ifCond .eq 18, 3) := dGX11_51.1
theorem dX11_hours_10 : decode cX11_hours 10 = .ok (.aload_n 0, 1) := dGX11_51.2.1
theorem dX11_hours_11 : decode cX11_hours 11 = .ok (.getfield 10, 3) := dGX11_51.2.2.1
theorem dX11_hours_14 : decode cX11_hours 14 = .ok (.aload_n 0, 1) := dGX11_51.2.2.2.1
theorem dX11_hours_15 : decode cX11_hours 15 = .ok (.getfield 70, 3) := dGX11_51.2.2.2.2.1
theorem dX11_hours_18 : decode cX11_hours 18 = .ok (.iload_n 1, 1) := dGX11_51.2.2.2.2.2
theorem dGX11_52 : decode cX11_hours 19 = .ok (.invokevirtual 152, 3) ∧ decode cX11_hours 22 = .ok (.goto 4, 3) ∧ decode cX11_hours 25 = .ok (.iconst (-1), 1) ∧ decode cX11_hours 26 = .ok (.ireturn, 1) ∧ decode cX11_hour 0 = .ok (.iload_n 1, 1) ∧ decode cX11_hour 1 = .ok (.iconst 0, 1) := by decide +kernel
theorem dX11_hours_19 : decode cX11_hours 19 = .ok (.invokevirtual 152, 3) := dGX11_52.1
theorem dX11_hours_22 : decode cX11_hours 22 = .ok (.goto 4, 3) := dGX11_52.2.1
theorem dX11_hours_25 : decode cX11_hours 25 = .ok (.iconst (-1), 1) := dGX11_52.2.2.1
theorem dX11_hours_26 : decode cX11_hours 26 = .ok (.ireturn, 1) := dGX11_52.2.2.2.1
theorem dX11_hour_0 : decode cX11_hour 0 = .ok (.iload_n 1, 1) := dGX11_52.2.2.2.2.1
theorem dX11_hour_1 : decode cX11_hour 1 = .ok (.iconst 0, 1) := dGX11_52.2.2.2.2.2
theorem dGX11_53 : decode cX11_hour 2 = .ok (.bipush 9, 2) ∧ decode cX11_hour 4 = .ok (.invokestatic 81, 3) ∧ decode cX11_hour 7 = .ok (.ifCond .eq 18, 3) ∧ decode cX11_hour 10 = .ok (.aload_n 0, 1) ∧ decode cX11_hour 11 = .ok (.getfield 10, 3) ∧ decode cX11_hour 14 = .ok (.aload_n 0, 1) := by decide +kernel
theorem dX11_hour_2 : decode cX11_hour 2 = .ok (.bipush 9, 2) := dGX11_53.1
theorem dX11_hour_4 : decode cX11_hour 4 = .ok (.invokestatic 81, 3) := dGX11_53.2.1
theorem dX11_hour_7 : decode cX11_hour 7 = .ok (.ifCond .eq 18, 3) := dGX11_53.2.2.1
theorem dX11_hour_10 : decode cX11_hour 10 = .ok (.aload_n 0, 1) := dGX11_53.2.2.2.1
theorem dX11_hour_11 : decode cX11_hour 11 = .ok (.getfield 10, 3) := dGX11_53.2.2.2.2.1
theorem dX11_hour_14 : decode cX11_hour 14 = .ok (.aload_n 0, 1) := dGX11_53.2.2.2.2.2
theorem dGX11_54 : decode cX11_hour 15 = .ok (.getfield 70, 3) ∧ decode cX11_hour 18 = .ok (.iload_n 1, 1) ∧ decode cX11_hour 19 = .ok (.invokevirtual 156, 3) ∧ decode cX11_hour 22 = .ok (.goto 4, 3) ∧ decode cX11_hour 25 = .ok (.iconst (-1), 1) ∧ decode cX11_hour 26 = .ok (.ireturn, 1) := by decide +kernel
theorem dX11_hour_15 : decode cX11_hour 15 = .ok (.getfield 70, 3) := dGX11_54.1
theorem dX11_hour_18 : decode cX11_hour 18 = .ok (.iload_n 1, 1) := dGX11_54.2.1
theorem dX11_hour_19 : decode cX11_hour 19 = .ok (.invokevirtual 156, 3) := dGX11_54.2.2.1
theorem dX11_hour_22 : decode cX11_hour 22 = .ok (.goto 4, 3) := dGX11_54.2.2.2.1
theorem dX11_hour_25 : decode cX11_hour 25 = .ok (.iconst (-1), 1) := dGX11_54.2.2.2.2.1
theorem dX11_hour_26 : decode cX11_hour 26 = .ok (.ireturn, 1) := dGX11_54.2.2.2.2.2
theorem dGX11_55 : decode cX11_roofIs 0 = .ok (.aload_n 0, 1) ∧ decode cX11_roofIs 1 = .ok (.getfield 10, 3) ∧ decode cX11_roofIs 4 = .ok (.getfield 85, 3) ∧ decode cX11_roofIs 7 = .ok (.iload_n 1, 1) ∧ decode cX11_roofIs 8 = .ok (.invokevirtual 159, 3) ∧ decode cX11_roofIs 11 = .ok (.ifCond .ne 5, 3) := by decide +kernel
theorem dX11_roofIs_0 : decode cX11_roofIs 0 = .ok (.aload_n 0, 1) := dGX11_55.1
theorem dX11_roofIs_1 : decode cX11_roofIs 1 = .ok (.getfield 10, 3) := dGX11_55.2.1
theorem dX11_roofIs_4 : decode cX11_roofIs 4 = .ok (.getfield 85, 3) := dGX11_55.2.2.1
theorem dX11_roofIs_7 : decode cX11_roofIs 7 = .ok (.iload_n 1, 1) := dGX11_55.2.2.2.1
theorem dX11_roofIs_8 : decode cX11_roofIs 8 = .ok (.invokevirtual 159, 3) := dGX11_55.2.2.2.2.1
theorem dX11_roofIs_11 : decode cX11_roofIs 11 = .ok (.ifCond .ne 5, 3) := dGX11_55.2.2.2.2.2
theorem dGX11_56 : decode cX11_roofIs 14 = .ok (.iconst (-1), 1) ∧ decode cX11_roofIs 15 = .ok (.ireturn, 1) ∧ decode cX11_roofIs 16 = .ok (.iload_n 2, 1) ∧ decode cX11_roofIs 17 = .ok (.tableswitch 98 0 4 #[35, 48, 61, 74, 86], 35) ∧ decode cX11_roofIs 52 = .ok (.aload_n 0, 1) ∧ decode cX11_roofIs 53 = .ok (.getfield 10, 3) := by decide +kernel
theorem dX11_roofIs_14 : decode cX11_roofIs 14 = .ok (.iconst (-1), 1) := dGX11_56.1
theorem dX11_roofIs_15 : decode cX11_roofIs 15 = .ok (.ireturn, 1) := dGX11_56.2.1
theorem dX11_roofIs_16 : decode cX11_roofIs 16 = .ok (.iload_n 2, 1) := dGX11_56.2.2.1
theorem dX11_roofIs_17 : decode cX11_roofIs 17 = .ok (.tableswitch 98 0 4 #[35, 48, 61, 74, 86], 35) := dGX11_56.2.2.2.1
theorem dX11_roofIs_52 : decode cX11_roofIs 52 = .ok (.aload_n 0, 1) := dGX11_56.2.2.2.2.1
theorem dX11_roofIs_53 : decode cX11_roofIs 53 = .ok (.getfield 10, 3) := dGX11_56.2.2.2.2.2
theorem dGX11_57 : decode cX11_roofIs 56 = .ok (.getfield 85, 3) ∧ decode cX11_roofIs 59 = .ok (.getfield 160, 3) ∧ decode cX11_roofIs 62 = .ok (.iload_n 1, 1) ∧ decode cX11_roofIs 63 = .ok (.iaload, 1) ∧ decode cX11_roofIs 64 = .ok (.ireturn, 1) ∧ decode cX11_roofIs 65 = .ok (.aload_n 0, 1) := by decide +kernel
theorem dX11_roofIs_56 : decode cX11_roofIs 56 = .ok (.getfield 85, 3) := dGX11_57.1
theorem dX11_roofIs_59 : decode cX11_roofIs 59 = .ok (.getfield 160, 3) := dGX11_57.2.1
theorem dX11_roofIs_62 : decode cX11_roofIs 62 = .ok (.iload_n 1, 1) := dGX11_57.2.2.1
theorem dX11_roofIs_63 : decode cX11_roofIs 63 = .ok (.iaload, 1) := dGX11_57.2.2.2.1
theorem dX11_roofIs_64 : decode cX11_roofIs 64 = .ok (.ireturn, 1) := dGX11_57.2.2.2.2.1
theorem dX11_roofIs_65 : decode cX11_roofIs 65 = .ok (.aload_n 0, 1) := dGX11_57.2.2.2.2.2
theorem dGX11_58 : decode cX11_roofIs 66 = .ok (.getfield 10, 3) ∧ decode cX11_roofIs 69 = .ok (.getfield 85, 3) ∧ decode cX11_roofIs 72 = .ok (.getfield 163, 3) ∧ decode cX11_roofIs 75 = .ok (.iload_n 1, 1) ∧ decode cX11_roofIs 76 = .ok (.iaload, 1) ∧ decode cX11_roofIs 77 = .ok (.ireturn, 1) := by decide +kernel
theorem dX11_roofIs_66 : decode cX11_roofIs 66 = .ok (.getfield 10, 3) := dGX11_58.1
theorem dX11_roofIs_69 : decode cX11_roofIs 69 = .ok (.getfield 85, 3) := dGX11_58.2.1
theorem dX11_roofIs_72 : decode cX11_roofIs 72 = .ok (.getfield 163, 3) := dGX11_58.2.2.1
theorem dX11_roofIs_75 : decode cX11_roofIs 75 = .ok (.iload_n 1, 1) := dGX11_58.2.2.2.1
theorem dX11_roofIs_76 : decode cX11_roofIs 76 = .ok (.iaload, 1) := dGX11_58.2.2.2.2.1
theorem dX11_roofIs_77 : decode cX11_roofIs 77 = .ok (.ireturn, 1) := dGX11_58.2.2.2.2.2
theorem dGX11_59 : decode cX11_roofIs 78 = .ok (.aload_n 0, 1) ∧ decode cX11_roofIs 79 = .ok (.getfield 10, 3) ∧ decode cX11_roofIs 82 = .ok (.getfield 85, 3) ∧ decode cX11_roofIs 85 = .ok (.getfield 166, 3) ∧ decode cX11_roofIs 88 = .ok (.iload_n 1, 1) ∧ decode cX11_roofIs 89 = .ok (.iaload, 1) := by decide +kernel
theorem dX11_roofIs_78 : decode cX11_roofIs 78 = .ok (.aload_n 0, 1) := dGX11_59.1
theorem dX11_roofIs_79 : decode cX11_roofIs 79 = .ok (.getfield 10, 3) := dGX11_59.2.1
theorem dX11_roofIs_82 : decode cX11_roofIs 82 = .ok (.getfield 85, 3) := dGX11_59.2.2.1
theorem dX11_roofIs_85 : decode cX11_roofIs 85 = .ok (.getfield 166, 3) := dGX11_59.2.2.2.1
theorem dX11_roofIs_88 : decode cX11_roofIs 88 = .ok (.iload_n 1, 1) := dGX11_59.2.2.2.2.1
theorem dX11_roofIs_89 : decode cX11_roofIs 89 = .ok (.iaload, 1) := dGX11_59.2.2.2.2.2
theorem dGX11_60 : decode cX11_roofIs 90 = .ok (.ireturn, 1) ∧ decode cX11_roofIs 91 = .ok (.aload_n 0, 1) ∧ decode cX11_roofIs 92 = .ok (.getfield 10, 3) ∧ decode cX11_roofIs 95 = .ok (.getfield 95, 3) ∧ decode cX11_roofIs 98 = .ok (.iload_n 1, 1) ∧ decode cX11_roofIs 99 = .ok (.invokevirtual 169, 3) := by decide +kernel
theorem dX11_roofIs_90 : decode cX11_roofIs 90 = .ok (.ireturn, 1) := dGX11_60.1
theorem dX11_roofIs_91 : decode cX11_roofIs 91 = .ok (.aload_n 0, 1) := dGX11_60.2.1
theorem dX11_roofIs_92 : decode cX11_roofIs 92 = .ok (.getfield 10, 3) := dGX11_60.2.2.1
theorem dX11_roofIs_95 : decode cX11_roofIs 95 = .ok (.getfield 95, 3) := dGX11_60.2.2.2.1
theorem dX11_roofIs_98 : decode cX11_roofIs 98 = .ok (.iload_n 1, 1) := dGX11_60.2.2.2.2.1
theorem dX11_roofIs_99 : decode cX11_roofIs 99 = .ok (.invokevirtual 169, 3) := dGX11_60.2.2.2.2.2
theorem dGX11_61 : decode cX11_roofIs 102 = .ok (.ireturn, 1) ∧ decode cX11_roofIs 103 = .ok (.aload_n 0, 1) ∧ decode cX11_roofIs 104 = .ok (.getfield 10, 3) ∧ decode cX11_roofIs 107 = .ok (.getfield 104, 3) ∧ decode cX11_roofIs 110 = .ok (.iload_n 1, 1) ∧ decode cX11_roofIs 111 = .ok (.invokevirtual 172, 3) := by decide +kernel
theorem dX11_roofIs_102 : decode cX11_roofIs 102 = .ok (.ireturn, 1) := dGX11_61.1
theorem dX11_roofIs_103 : decode cX11_roofIs 103 = .ok (.aload_n 0, 1) := dGX11_61.2.1
theorem dX11_roofIs_104 : decode cX11_roofIs 104 = .ok (.getfield 10, 3) := dGX11_61.2.2.1
theorem dX11_roofIs_107 : decode cX11_roofIs 107 = .ok (.getfield 104, 3) := dGX11_61.2.2.2.1
theorem dX11_roofIs_110 : decode cX11_roofIs 110 = .ok (.iload_n 1, 1) := dGX11_61.2.2.2.2.1
theorem dX11_roofIs_111 : decode cX11_roofIs 111 = .ok (.invokevirtual 172, 3) := dGX11_61.2.2.2.2.2
theorem dGX11_62 : decode cX11_roofIs 114 = .ok (.ireturn, 1) ∧ decode cX11_roofIs 115 = .ok (.iconst (-1), 1) ∧ decode cX11_roofIs 116 = .ok (.ireturn, 1) ∧ decode cX11_apprenticeIs 0 = .ok (.aload_n 0, 1) ∧ decode cX11_apprenticeIs 1 = .ok (.getfield 10, 3) ∧ decode cX11_apprenticeIs 4 = .ok (.getfield 95, 3) := by decide +kernel
theorem dX11_roofIs_114 : decode cX11_roofIs 114 = .ok (.ireturn, 1) := dGX11_62.1
theorem dX11_roofIs_115 : decode cX11_roofIs 115 = .ok (.iconst (-1), 1) := dGX11_62.2.1
theorem dX11_roofIs_116 : decode cX11_roofIs 116 = .ok (.ireturn, 1) := dGX11_62.2.2.1
theorem dX11_apprenticeIs_0 : decode cX11_apprenticeIs 0 = .ok (.aload_n 0, 1) := dGX11_62.2.2.2.1
theorem dX11_apprenticeIs_1 : decode cX11_apprenticeIs 1 = .ok (.getfield 10, 3) := dGX11_62.2.2.2.2.1
theorem dX11_apprenticeIs_4 : decode cX11_apprenticeIs 4 = .ok (.getfield 95, 3) := dGX11_62.2.2.2.2.2
theorem dGX11_63 : decode cX11_apprenticeIs 7 = .ok (.iload_n 1, 1) ∧ decode cX11_apprenticeIs 8 = .ok (.invokevirtual 113, 3) ∧ decode cX11_apprenticeIs 11 = .ok (.ifCond .ne 5, 3) ∧ decode cX11_apprenticeIs 14 = .ok (.iconst (-1), 1) ∧ decode cX11_apprenticeIs 15 = .ok (.ireturn, 1) ∧ decode cX11_apprenticeIs 16 = .ok (.iload_n 2, 1) := by decide +kernel
theorem dX11_apprenticeIs_7 : decode cX11_apprenticeIs 7 = .ok (.iload_n 1, 1) := dGX11_63.1
theorem dX11_apprenticeIs_8 : decode cX11_apprenticeIs 8 = .ok (.invokevirtual 113, 3) := dGX11_63.2.1
theorem dX11_apprenticeIs_11 : decode cX11_apprenticeIs 11 = .ok (.ifCond .ne 5, 3) := dGX11_63.2.2.1
theorem dX11_apprenticeIs_14 : decode cX11_apprenticeIs 14 = .ok (.iconst (-1), 1) := dGX11_63.2.2.2.1
theorem dX11_apprenticeIs_15 : decode cX11_apprenticeIs 15 = .ok (.ireturn, 1) := dGX11_63.2.2.2.2.1
theorem dX11_apprenticeIs_16 : decode cX11_apprenticeIs 16 = .ok (.iload_n 2, 1) := dGX11_63.2.2.2.2.2
theorem dGX11_64 : decode cX11_apprenticeIs 17 = .ok (.bipush 10, 2) ∧ decode cX11_apprenticeIs 19 = .ok (.bipush 14, 2) ∧ decode cX11_apprenticeIs 21 = .ok (.invokestatic 81, 3) ∧ decode cX11_apprenticeIs 24 = .ok (.ifCond .eq 23, 3) ∧ decode cX11_apprenticeIs 27 = .ok (.aload_n 0, 1) ∧ decode cX11_apprenticeIs 28 = .ok (.getfield 10, 3) := by decide +kernel
theorem dX11_apprenticeIs_17 : decode cX11_apprenticeIs 17 = .ok (.bipush 10, 2) := dGX11_64.1
theorem dX11_apprenticeIs_19 : decode cX11_apprenticeIs 19 = .ok (.bipush 14, 2) := dGX11_64.2.1
theorem dX11_apprenticeIs_21 : decode cX11_apprenticeIs 21 = .ok (.invokestatic 81, 3) := dGX11_64.2.2.1
theorem dX11_apprenticeIs_24 : decode cX11_apprenticeIs 24 = .ok (.ifCond .eq 23, 3) := dGX11_64.2.2.2.1
theorem dX11_apprenticeIs_27 : decode cX11_apprenticeIs 27 = .ok (.aload_n 0, 1) := dGX11_64.2.2.2.2.1
theorem dX11_apprenticeIs_28 : decode cX11_apprenticeIs 28 = .ok (.getfield 10, 3) := dGX11_64.2.2.2.2.2
theorem dGX11_65 : decode cX11_apprenticeIs 31 = .ok (.getfield 95, 3) ∧ decode cX11_apprenticeIs 34 = .ok (.getfield 175, 3) ∧ decode cX11_apprenticeIs 37 = .ok (.iload_n 1, 1) ∧ decode cX11_apprenticeIs 38 = .ok (.iconst 5, 1) ∧ decode cX11_apprenticeIs 39 = .ok (.imul, 1) ∧ decode cX11_apprenticeIs 40 = .ok (.iload_n 2, 1) := by decide +kernel
theorem dX11_apprenticeIs_31 : decode cX11_apprenticeIs 31 = .ok (.getfield 95, 3) := dGX11_65.1
theorem dX11_apprenticeIs_34 : decode cX11_apprenticeIs 34 = .ok (.getfield 175, 3) := dGX11_65.2.1
theorem dX11_apprenticeIs_37 : decode cX11_apprenticeIs 37 = .ok (.iload_n 1, 1) := dGX11_65.2.2.1
theorem dX11_apprenticeIs_38 : decode cX11_apprenticeIs 38 = .ok (.iconst 5, 1) := dGX11_65.2.2.2.1
theorem dX11_apprenticeIs_39 : decode cX11_apprenticeIs 39 = .ok (.imul, 1) := dGX11_65.2.2.2.2.1
theorem dX11_apprenticeIs_40 : decode cX11_apprenticeIs 40 = .ok (.iload_n 2, 1) := dGX11_65.2.2.2.2.2
theorem dGX11_66 : decode cX11_apprenticeIs 41 = .ok (.iadd, 1) ∧ decode cX11_apprenticeIs 42 = .ok (.bipush 10, 2) ∧ decode cX11_apprenticeIs 44 = .ok (.isub, 1) ∧ decode cX11_apprenticeIs 45 = .ok (.iaload, 1) ∧ decode cX11_apprenticeIs 46 = .ok (.ireturn, 1) ∧ decode cX11_apprenticeIs 47 = .ok (.iload_n 2, 1) := by decide +kernel
theorem dX11_apprenticeIs_41 : decode cX11_apprenticeIs 41 = .ok (.iadd, 1) := dGX11_66.1
theorem dX11_apprenticeIs_42 : decode cX11_apprenticeIs 42 = .ok (.bipush 10, 2) := dGX11_66.2.1
theorem dX11_apprenticeIs_44 : decode cX11_apprenticeIs 44 = .ok (.isub, 1) := dGX11_66.2.2.1
theorem dX11_apprenticeIs_45 : decode cX11_apprenticeIs 45 = .ok (.iaload, 1) := dGX11_66.2.2.2.1
theorem dX11_apprenticeIs_46 : decode cX11_apprenticeIs 46 = .ok (.ireturn, 1) := dGX11_66.2.2.2.2.1
theorem dX11_apprenticeIs_47 : decode cX11_apprenticeIs 47 = .ok (.iload_n 2, 1) := dGX11_66.2.2.2.2.2
theorem dGX11_67 : decode cX11_apprenticeIs 48 = .ok (.tableswitch 97 0 4 #[36, 49, 62, 75, 84], 36) ∧ decode cX11_apprenticeIs 84 = .ok (.aload_n 0, 1) ∧ decode cX11_apprenticeIs 85 = .ok (.getfield 10, 3) ∧ decode cX11_apprenticeIs 88 = .ok (.getfield 95, 3) ∧ decode cX11_apprenticeIs 91 = .ok (.getfield 120, 3) ∧ decode cX11_apprenticeIs 94 = .ok (.iload_n 1, 1) := by decide +kernel
theorem dX11_apprenticeIs_48 : decode cX11_apprenticeIs 48 = .ok (.tableswitch 97 0 4 #[36, 49, 62, 75, 84], 36) := dGX11_67.1
theorem dX11_apprenticeIs_84 : decode cX11_apprenticeIs 84 = .ok (.aload_n 0, 1) := dGX11_67.2.1
theorem dX11_apprenticeIs_85 : decode cX11_apprenticeIs 85 = .ok (.getfield 10, 3) := dGX11_67.2.2.1
theorem dX11_apprenticeIs_88 : decode cX11_apprenticeIs 88 = .ok (.getfield 95, 3) := dGX11_67.2.2.2.1
theorem dX11_apprenticeIs_91 : decode cX11_apprenticeIs 91 = .ok (.getfield 120, 3) := dGX11_67.2.2.2.2.1
theorem dX11_apprenticeIs_94 : decode cX11_apprenticeIs 94 = .ok (.iload_n 1, 1) := dGX11_67.2.2.2.2.2
theorem dGX11_68 : decode cX11_apprenticeIs 95 = .ok (.iaload, 1) ∧ decode cX11_apprenticeIs 96 = .ok (.ireturn, 1) ∧ decode cX11_apprenticeIs 97 = .ok (.aload_n 0, 1) ∧ decode cX11_apprenticeIs 98 = .ok (.getfield 10, 3) ∧ decode cX11_apprenticeIs 101 = .ok (.getfield 95, 3) ∧ decode cX11_apprenticeIs 104 = .ok (.getfield 178, 3) := by decide +kernel
theorem dX11_apprenticeIs_95 : decode cX11_apprenticeIs 95 = .ok (.iaload, 1) := dGX11_68.1
theorem dX11_apprenticeIs_96 : decode cX11_apprenticeIs 96 = .ok (.ireturn, 1) := dGX11_68.2.1
theorem dX11_apprenticeIs_97 : decode cX11_apprenticeIs 97 = .ok (.aload_n 0, 1) := dGX11_68.2.2.1
theorem dX11_apprenticeIs_98 : decode cX11_apprenticeIs 98 = .ok (.getfield 10, 3) := dGX11_68.2.2.2.1
theorem dX11_apprenticeIs_101 : decode cX11_apprenticeIs 101 = .ok (.getfield 95, 3) := dGX11_68.2.2.2.2.1
theorem dX11_apprenticeIs_104 : decode cX11_apprenticeIs 104 = .ok (.getfield 178, 3) := dGX11_68.2.2.2.2.2
theorem dGX11_69 : decode cX11_apprenticeIs 107 = .ok (.iload_n 1, 1) ∧ decode cX11_apprenticeIs 108 = .ok (.iaload, 1) ∧ decode cX11_apprenticeIs 109 = .ok (.ireturn, 1) ∧ decode cX11_apprenticeIs 110 = .ok (.aload_n 0, 1) ∧ decode cX11_apprenticeIs 111 = .ok (.getfield 10, 3) ∧ decode cX11_apprenticeIs 114 = .ok (.getfield 95, 3) := by decide +kernel
theorem dX11_apprenticeIs_107 : decode cX11_apprenticeIs 107 = .ok (.iload_n 1, 1) := dGX11_69.1
theorem dX11_apprenticeIs_108 : decode cX11_apprenticeIs 108 = .ok (.iaload, 1) := dGX11_69.2.1
theorem dX11_apprenticeIs_109 : decode cX11_apprenticeIs 109 = .ok (.ireturn, 1) := dGX11_69.2.2.1
theorem dX11_apprenticeIs_110 : decode cX11_apprenticeIs 110 = .ok (.aload_n 0, 1) := dGX11_69.2.2.2.1
theorem dX11_apprenticeIs_111 : decode cX11_apprenticeIs 111 = .ok (.getfield 10, 3) := dGX11_69.2.2.2.2.1
theorem dX11_apprenticeIs_114 : decode cX11_apprenticeIs 114 = .ok (.getfield 95, 3) := dGX11_69.2.2.2.2.2
theorem dGX11_70 : decode cX11_apprenticeIs 117 = .ok (.getfield 181, 3) ∧ decode cX11_apprenticeIs 120 = .ok (.iload_n 1, 1) ∧ decode cX11_apprenticeIs 121 = .ok (.iaload, 1) ∧ decode cX11_apprenticeIs 122 = .ok (.ireturn, 1) ∧ decode cX11_apprenticeIs 123 = .ok (.aload_n 0, 1) ∧ decode cX11_apprenticeIs 124 = .ok (.getfield 10, 3) := by decide +kernel
theorem dX11_apprenticeIs_117 : decode cX11_apprenticeIs 117 = .ok (.getfield 181, 3) := dGX11_70.1
theorem dX11_apprenticeIs_120 : decode cX11_apprenticeIs 120 = .ok (.iload_n 1, 1) := dGX11_70.2.1
theorem dX11_apprenticeIs_121 : decode cX11_apprenticeIs 121 = .ok (.iaload, 1) := dGX11_70.2.2.1
theorem dX11_apprenticeIs_122 : decode cX11_apprenticeIs 122 = .ok (.ireturn, 1) := dGX11_70.2.2.2.1
theorem dX11_apprenticeIs_123 : decode cX11_apprenticeIs 123 = .ok (.aload_n 0, 1) := dGX11_70.2.2.2.2.1
theorem dX11_apprenticeIs_124 : decode cX11_apprenticeIs 124 = .ok (.getfield 10, 3) := dGX11_70.2.2.2.2.2
theorem dGX11_71 : decode cX11_apprenticeIs 127 = .ok (.iload_n 1, 1) ∧ decode cX11_apprenticeIs 128 = .ok (.invokevirtual 184, 3) ∧ decode cX11_apprenticeIs 131 = .ok (.ireturn, 1) ∧ decode cX11_apprenticeIs 132 = .ok (.aload_n 0, 1) ∧ decode cX11_apprenticeIs 133 = .ok (.getfield 10, 3) ∧ decode cX11_apprenticeIs 136 = .ok (.getfield 95, 3) := by decide +kernel
theorem dX11_apprenticeIs_127 : decode cX11_apprenticeIs 127 = .ok (.iload_n 1, 1) := dGX11_71.1
theorem dX11_apprenticeIs_128 : decode cX11_apprenticeIs 128 = .ok (.invokevirtual 184, 3) := dGX11_71.2.1
theorem dX11_apprenticeIs_131 : decode cX11_apprenticeIs 131 = .ok (.ireturn, 1) := dGX11_71.2.2.1
theorem dX11_apprenticeIs_132 : decode cX11_apprenticeIs 132 = .ok (.aload_n 0, 1) := dGX11_71.2.2.2.1
theorem dX11_apprenticeIs_133 : decode cX11_apprenticeIs 133 = .ok (.getfield 10, 3) := dGX11_71.2.2.2.2.1
theorem dX11_apprenticeIs_136 : decode cX11_apprenticeIs 136 = .ok (.getfield 95, 3) := dGX11_71.2.2.2.2.2
theorem dGX11_72 : decode cX11_apprenticeIs 139 = .ok (.getfield 187, 3) ∧ decode cX11_apprenticeIs 142 = .ok (.iload_n 1, 1) ∧ decode cX11_apprenticeIs 143 = .ok (.iaload, 1) ∧ decode cX11_apprenticeIs 144 = .ok (.ireturn, 1) ∧ decode cX11_apprenticeIs 145 = .ok (.iconst (-1), 1) ∧ decode cX11_apprenticeIs 146 = .ok (.ireturn, 1) := by decide +kernel
theorem dX11_apprenticeIs_139 : decode cX11_apprenticeIs 139 = .ok (.getfield 187, 3) := dGX11_72.1
theorem dX11_apprenticeIs_142 : decode cX11_apprenticeIs 142 = .ok (.iload_n 1, 1) := dGX11_72.2.1
theorem dX11_apprenticeIs_143 : decode cX11_apprenticeIs 143 = .ok (.iaload, 1) := dGX11_72.2.2.1
theorem dX11_apprenticeIs_144 : decode cX11_apprenticeIs 144 = .ok (.ireturn, 1) := dGX11_72.2.2.2.1
theorem dX11_apprenticeIs_145 : decode cX11_apprenticeIs 145 = .ok (.iconst (-1), 1) := dGX11_72.2.2.2.2.1
theorem dX11_apprenticeIs_146 : decode cX11_apprenticeIs 146 = .ok (.ireturn, 1) := dGX11_72.2.2.2.2.2
theorem dGX11_73 : decode cX11_masterIs 0 = .ok (.aload_n 0, 1) ∧ decode cX11_masterIs 1 = .ok (.getfield 10, 3) ∧ decode cX11_masterIs 4 = .ok (.getfield 104, 3) ∧ decode cX11_masterIs 7 = .ok (.iload_n 1, 1) ∧ decode cX11_masterIs 8 = .ok (.invokevirtual 124, 3) ∧ decode cX11_masterIs 11 = .ok (.ifCond .ne 5, 3) := by decide +kernel
theorem dX11_masterIs_0 : decode cX11_masterIs 0 = .ok (.aload_n 0, 1) := dGX11_73.1
theorem dX11_masterIs_1 : decode cX11_masterIs 1 = .ok (.getfield 10, 3) := dGX11_73.2.1
theorem dX11_masterIs_4 : decode cX11_masterIs 4 = .ok (.getfield 104, 3) := dGX11_73.2.2.1
theorem dX11_masterIs_7 : decode cX11_masterIs 7 = .ok (.iload_n 1, 1) := dGX11_73.2.2.2.1
theorem dX11_masterIs_8 : decode cX11_masterIs 8 = .ok (.invokevirtual 124, 3) := dGX11_73.2.2.2.2.1
theorem dX11_masterIs_11 : decode cX11_masterIs 11 = .ok (.ifCond .ne 5, 3) := dGX11_73.2.2.2.2.2
theorem dGX11_74 : decode cX11_masterIs 14 = .ok (.iconst (-1), 1) ∧ decode cX11_masterIs 15 = .ok (.ireturn, 1) ∧ decode cX11_masterIs 16 = .ok (.iload_n 2, 1) ∧ decode cX11_masterIs 17 = .ok (.tableswitch 96 0 4 #[35, 48, 61, 74, 83], 35) ∧ decode cX11_masterIs 52 = .ok (.aload_n 0, 1) ∧ decode cX11_masterIs 53 = .ok (.getfield 10, 3) := by decide +kernel
theorem dX11_masterIs_14 : decode cX11_masterIs 14 = .ok (.iconst (-1), 1) := dGX11_74.1
theorem dX11_masterIs_15 : decode cX11_masterIs 15 = .ok (.ireturn, 1) := dGX11_74.2.1
theorem dX11_masterIs_16 : decode cX11_masterIs 16 = .ok (.iload_n 2, 1) := dGX11_74.2.2.1
theorem dX11_masterIs_17 : decode cX11_masterIs 17 = .ok (.tableswitch 96 0 4 #[35, 48, 61, 74, 83], 35) := dGX11_74.2.2.2.1
theorem dX11_masterIs_52 : decode cX11_masterIs 52 = .ok (.aload_n 0, 1) := dGX11_74.2.2.2.2.1
theorem dX11_masterIs_53 : decode cX11_masterIs 53 = .ok (.getfield 10, 3) := dGX11_74.2.2.2.2.2
theorem dGX11_75 : decode cX11_masterIs 56 = .ok (.getfield 104, 3) ∧ decode cX11_masterIs 59 = .ok (.getfield 125, 3) ∧ decode cX11_masterIs 62 = .ok (.iload_n 1, 1) ∧ decode cX11_masterIs 63 = .ok (.iaload, 1) ∧ decode cX11_masterIs 64 = .ok (.ireturn, 1) ∧ decode cX11_masterIs 65 = .ok (.aload_n 0, 1) := by decide +kernel
theorem dX11_masterIs_56 : decode cX11_masterIs 56 = .ok (.getfield 104, 3) := dGX11_75.1
theorem dX11_masterIs_59 : decode cX11_masterIs 59 = .ok (.getfield 125, 3) := dGX11_75.2.1
theorem dX11_masterIs_62 : decode cX11_masterIs 62 = .ok (.iload_n 1, 1) := dGX11_75.2.2.1
theorem dX11_masterIs_63 : decode cX11_masterIs 63 = .ok (.iaload, 1) := dGX11_75.2.2.2.1
theorem dX11_masterIs_64 : decode cX11_masterIs 64 = .ok (.ireturn, 1) := dGX11_75.2.2.2.2.1
theorem dX11_masterIs_65 : decode cX11_masterIs 65 = .ok (.aload_n 0, 1) := dGX11_75.2.2.2.2.2
theorem dGX11_76 : decode cX11_masterIs 66 = .ok (.getfield 10, 3) ∧ decode cX11_masterIs 69 = .ok (.getfield 104, 3) ∧ decode cX11_masterIs 72 = .ok (.getfield 190, 3) ∧ decode cX11_masterIs 75 = .ok (.iload_n 1, 1) ∧ decode cX11_masterIs 76 = .ok (.iaload, 1) ∧ decode cX11_masterIs 77 = .ok (.ireturn, 1) := by decide +kernel
theorem dX11_masterIs_66 : decode cX11_masterIs 66 = .ok (.getfield 10, 3) := dGX11_76.1
theorem dX11_masterIs_69 : decode cX11_masterIs 69 = .ok (.getfield 104, 3) := dGX11_76.2.1
theorem dX11_masterIs_72 : decode cX11_masterIs 72 = .ok (.getfield 190, 3) := dGX11_76.2.2.1
theorem dX11_masterIs_75 : decode cX11_masterIs 75 = .ok (.iload_n 1, 1) := dGX11_76.2.2.2.1
theorem dX11_masterIs_76 : decode cX11_masterIs 76 = .ok (.iaload, 1) := dGX11_76.2.2.2.2.1
theorem dX11_masterIs_77 : decode cX11_masterIs 77 = .ok (.ireturn, 1) := dGX11_76.2.2.2.2.2
theorem dGX11_77 : decode cX11_masterIs 78 = .ok (.aload_n 0, 1) ∧ decode cX11_masterIs 79 = .ok (.getfield 10, 3) ∧ decode cX11_masterIs 82 = .ok (.getfield 104, 3) ∧ decode cX11_masterIs 85 = .ok (.getfield 193, 3) ∧ decode cX11_masterIs 88 = .ok (.iload_n 1, 1) ∧ decode cX11_masterIs 89 = .ok (.iaload, 1) := by decide +kernel
theorem dX11_masterIs_78 : decode cX11_masterIs 78 = .ok (.aload_n 0, 1) := dGX11_77.1
theorem dX11_masterIs_79 : decode cX11_masterIs 79 = .ok (.getfield 10, 3) := dGX11_77.2.1
theorem dX11_masterIs_82 : decode cX11_masterIs 82 = .ok (.getfield 104, 3) := dGX11_77.2.2.1
theorem dX11_masterIs_85 : decode cX11_masterIs 85 = .ok (.getfield 193, 3) := dGX11_77.2.2.2.1
theorem dX11_masterIs_88 : decode cX11_masterIs 88 = .ok (.iload_n 1, 1) := dGX11_77.2.2.2.2.1
theorem dX11_masterIs_89 : decode cX11_masterIs 89 = .ok (.iaload, 1) := dGX11_77.2.2.2.2.2
theorem dGX11_78 : decode cX11_masterIs 90 = .ok (.ireturn, 1) ∧ decode cX11_masterIs 91 = .ok (.aload_n 0, 1) ∧ decode cX11_masterIs 92 = .ok (.getfield 10, 3) ∧ decode cX11_masterIs 95 = .ok (.iload_n 1, 1) ∧ decode cX11_masterIs 96 = .ok (.invokevirtual 196, 3) ∧ decode cX11_masterIs 99 = .ok (.ireturn, 1) := by decide +kernel
theorem dX11_masterIs_90 : decode cX11_masterIs 90 = .ok (.ireturn, 1) := dGX11_78.1
theorem dX11_masterIs_91 : decode cX11_masterIs 91 = .ok (.aload_n 0, 1) := dGX11_78.2.1
theorem dX11_masterIs_92 : decode cX11_masterIs 92 = .ok (.getfield 10, 3) := dGX11_78.2.2.1
theorem dX11_masterIs_95 : decode cX11_masterIs 95 = .ok (.iload_n 1, 1) := dGX11_78.2.2.2.1
theorem dX11_masterIs_96 : decode cX11_masterIs 96 = .ok (.invokevirtual 196, 3) := dGX11_78.2.2.2.2.1
theorem dX11_masterIs_99 : decode cX11_masterIs 99 = .ok (.ireturn, 1) := dGX11_78.2.2.2.2.2
theorem dGX11_79 : decode cX11_masterIs 100 = .ok (.aload_n 0, 1) ∧ decode cX11_masterIs 101 = .ok (.getfield 10, 3) ∧ decode cX11_masterIs 104 = .ok (.getfield 104, 3) ∧ decode cX11_masterIs 107 = .ok (.getfield 199, 3) ∧ decode cX11_masterIs 110 = .ok (.iload_n 1, 1) ∧ decode cX11_masterIs 111 = .ok (.iaload, 1) := by decide +kernel
theorem dX11_masterIs_100 : decode cX11_masterIs 100 = .ok (.aload_n 0, 1) := dGX11_79.1
theorem dX11_masterIs_101 : decode cX11_masterIs 101 = .ok (.getfield 10, 3) := dGX11_79.2.1
theorem dX11_masterIs_104 : decode cX11_masterIs 104 = .ok (.getfield 104, 3) := dGX11_79.2.2.1
theorem dX11_masterIs_107 : decode cX11_masterIs 107 = .ok (.getfield 199, 3) := dGX11_79.2.2.2.1
theorem dX11_masterIs_110 : decode cX11_masterIs 110 = .ok (.iload_n 1, 1) := dGX11_79.2.2.2.2.1
theorem dX11_masterIs_111 : decode cX11_masterIs 111 = .ok (.iaload, 1) := dGX11_79.2.2.2.2.2
theorem dGX11_80 : decode cX11_masterIs 112 = .ok (.ireturn, 1) ∧ decode cX11_masterIs 113 = .ok (.iconst (-1), 1) ∧ decode cX11_masterIs 114 = .ok (.ireturn, 1) ∧ decode cX11_tried 0 = .ok (.iload_n 2, 1) ∧ decode cX11_tried 1 = .ok (.bipush 10, 2) ∧ decode cX11_tried 3 = .ok (.if_icmp .lt 24, 3) := by decide +kernel
theorem dX11_masterIs_112 : decode cX11_masterIs 112 = .ok (.ireturn, 1) := dGX11_80.1
theorem dX11_masterIs_113 : decode cX11_masterIs 113 = .ok (.iconst (-1), 1) := dGX11_80.2.1
theorem dX11_masterIs_114 : decode cX11_masterIs 114 = .ok (.ireturn, 1) := dGX11_80.2.2.1
theorem dX11_tried_0 : decode cX11_tried 0 = .ok (.iload_n 2, 1) := dGX11_80.2.2.2.1
theorem dX11_tried_1 : decode cX11_tried 1 = .ok (.bipush 10, 2) := dGX11_80.2.2.2.2.1
theorem dX11_tried_3 : decode cX11_tried 3 = .ok (.if_icmp .lt 24, 3) := dGX11_80.2.2.2.2.2
theorem dGX11_81 : decode cX11_tried 6 = .ok (.aload_n 0, 1) ∧ decode cX11_tried 7 = .ok (.getfield 10, 3) ∧ decode cX11_tried 10 = .ok (.getfield 85, 3) ∧ decode cX11_tried 13 = .ok (.iload_n 2, 1) ∧ decode cX11_tried 14 = .ok (.bipush 10, 2) ∧ decode cX11_tried 16 = .ok (.isub, 1) := by decide +kernel
theorem dX11_tried_6 : decode cX11_tried 6 = .ok (.aload_n 0, 1) := dGX11_81.1
theorem dX11_tried_7 : decode cX11_tried 7 = .ok (.getfield 10, 3) := dGX11_81.2.1
theorem dX11_tried_10 : decode cX11_tried 10 = .ok (.getfield 85, 3) := dGX11_81.2.2.1
theorem dX11_tried_13 : decode cX11_tried 13 = .ok (.iload_n 2, 1) := dGX11_81.2.2.2.1
theorem dX11_tried_14 : decode cX11_tried 14 = .ok (.bipush 10, 2) := dGX11_81.2.2.2.2.1
theorem dX11_tried_16 : decode cX11_tried 16 = .ok (.isub, 1) := dGX11_81.2.2.2.2.2
theorem dGX11_82 : decode cX11_tried 17 = .ok (.invokevirtual 159, 3) ∧ decode cX11_tried 20 = .ok (.ifCond .eq 7, 3) ∧ decode cX11_tried 23 = .ok (.iconst 1, 1) ∧ decode cX11_tried 24 = .ok (.goto 4, 3) ∧ decode cX11_tried 27 = .ok (.iconst 0, 1) ∧ decode cX11_tried 28 = .ok (.istore_n 3, 1) := by decide +kernel
theorem dX11_tried_17 : decode cX11_tried 17 = .ok (.invokevirtual 159, 3) := dGX11_82.1
theorem dX11_tried_20 : decode cX11_tried 20 = .ok (.ifCond .eq 7, 3) := dGX11_82.2.1
theorem dX11_tried_23 : decode cX11_tried 23 = .ok (.iconst 1, 1) := dGX11_82.2.2.1
theorem dX11_tried_24 : decode cX11_tried 24 = .ok (.goto 4, 3) := dGX11_82.2.2.2.1
theorem dX11_tried_27 : decode cX11_tried 27 = .ok (.iconst 0, 1) := dGX11_82.2.2.2.2.1
theorem dX11_tried_28 : decode cX11_tried 28 = .ok (.istore_n 3, 1) := dGX11_82.2.2.2.2.2
theorem dGX11_83 : decode cX11_tried 29 = .ok (.iload_n 2, 1) ∧ decode cX11_tried 30 = .ok (.bipush 20, 2) ∧ decode cX11_tried 32 = .ok (.if_icmp .lt 24, 3) ∧ decode cX11_tried 35 = .ok (.aload_n 0, 1) ∧ decode cX11_tried 36 = .ok (.getfield 10, 3) ∧ decode cX11_tried 39 = .ok (.getfield 104, 3) := by decide +kernel
theorem dX11_tried_29 : decode cX11_tried 29 = .ok (.iload_n 2, 1) := dGX11_83.1
theorem dX11_tried_30 : decode cX11_tried 30 = .ok (.bipush 20, 2) := dGX11_83.2.1
theorem dX11_tried_32 : decode cX11_tried 32 = .ok (.if_icmp .lt 24, 3) := dGX11_83.2.2.1
theorem dX11_tried_35 : decode cX11_tried 35 = .ok (.aload_n 0, 1) := dGX11_83.2.2.2.1
theorem dX11_tried_36 : decode cX11_tried 36 = .ok (.getfield 10, 3) := dGX11_83.2.2.2.2.1
theorem dX11_tried_39 : decode cX11_tried 39 = .ok (.getfield 104, 3) := dGX11_83.2.2.2.2.2
theorem dGX11_84 : decode cX11_tried 42 = .ok (.iload_n 2, 1) ∧ decode cX11_tried 43 = .ok (.bipush 20, 2) ∧ decode cX11_tried 45 = .ok (.isub, 1) ∧ decode cX11_tried 46 = .ok (.invokevirtual 124, 3) ∧ decode cX11_tried 49 = .ok (.ifCond .eq 7, 3) ∧ decode cX11_tried 52 = .ok (.iconst 1, 1) := by decide +kernel
theorem dX11_tried_42 : decode cX11_tried 42 = .ok (.iload_n 2, 1) := dGX11_84.1
theorem dX11_tried_43 : decode cX11_tried 43 = .ok (.bipush 20, 2) := dGX11_84.2.1
theorem dX11_tried_45 : decode cX11_tried 45 = .ok (.isub, 1) := dGX11_84.2.2.1
theorem dX11_tried_46 : decode cX11_tried 46 = .ok (.invokevirtual 124, 3) := dGX11_84.2.2.2.1
theorem dX11_tried_49 : decode cX11_tried 49 = .ok (.ifCond .eq 7, 3) := dGX11_84.2.2.2.2.1
theorem dX11_tried_52 : decode cX11_tried 52 = .ok (.iconst 1, 1) := dGX11_84.2.2.2.2.2
theorem dGX11_85 : decode cX11_tried 53 = .ok (.goto 4, 3) ∧ decode cX11_tried 56 = .ok (.iconst 0, 1) ∧ decode cX11_tried 57 = .ok (.istore 4, 2) ∧ decode cX11_tried 59 = .ok (.iload_n 1, 1) ∧ decode cX11_tried 60 = .ok (.iconst 1, 1) ∧ decode cX11_tried 61 = .ok (.bipush 40, 2) := by decide +kernel
theorem dX11_tried_53 : decode cX11_tried 53 = .ok (.goto 4, 3) := dGX11_85.1
theorem dX11_tried_56 : decode cX11_tried 56 = .ok (.iconst 0, 1) := dGX11_85.2.1
theorem dX11_tried_57 : decode cX11_tried 57 = .ok (.istore 4, 2) := dGX11_85.2.2.1
theorem dX11_tried_59 : decode cX11_tried 59 = .ok (.iload_n 1, 1) := dGX11_85.2.2.2.1
theorem dX11_tried_60 : decode cX11_tried 60 = .ok (.iconst 1, 1) := dGX11_85.2.2.2.2.1
theorem dX11_tried_61 : decode cX11_tried 61 = .ok (.bipush 40, 2) := dGX11_85.2.2.2.2.2
theorem dGX11_86 : decode cX11_tried 63 = .ok (.invokestatic 81, 3) ∧ decode cX11_tried 66 = .ok (.ifCond .eq 21, 3) ∧ decode cX11_tried 69 = .ok (.iload_n 2, 1) ∧ decode cX11_tried 70 = .ok (.iconst 0, 1) ∧ decode cX11_tried 71 = .ok (.iconst 3, 1) ∧ decode cX11_tried 72 = .ok (.invokestatic 81, 3) := by decide +kernel
theorem dX11_tried_63 : decode cX11_tried 63 = .ok (.invokestatic 81, 3) := dGX11_86.1
theorem dX11_tried_66 : decode cX11_tried 66 = .ok (.ifCond .eq 21, 3) := dGX11_86.2.1
theorem dX11_tried_69 : decode cX11_tried 69 = .ok (.iload_n 2, 1) := dGX11_86.2.2.1
theorem dX11_tried_70 : decode cX11_tried 70 = .ok (.iconst 0, 1) := dGX11_86.2.2.2.1
theorem dX11_tried_71 : decode cX11_tried 71 = .ok (.iconst 3, 1) := dGX11_86.2.2.2.2.1
theorem dX11_tried_72 : decode cX11_tried 72 = .ok (.invokestatic 81, 3) := dGX11_86.2.2.2.2.2
theorem dGX11_87 : decode cX11_tried 75 = .ok (.ifCond .ne 14, 3) ∧ decode cX11_tried 78 = .ok (.iload_n 3, 1) ∧ decode cX11_tried 79 = .ok (.ifCond .ne 10, 3) ∧ decode cX11_tried 82 = .ok (.iload 4, 2) ∧ decode cX11_tried 84 = .ok (.ifCond .ne 5, 3) ∧ decode cX11_tried 87 = .ok (.iconst (-1), 1) := by decide +kernel
theorem dX11_tried_75 : decode cX11_tried 75 = .ok (.ifCond .ne 14, 3) := dGX11_87.1
theorem dX11_tried_78 : decode cX11_tried 78 = .ok (.iload_n 3, 1) := dGX11_87.2.1
theorem dX11_tried_79 : decode cX11_tried 79 = .ok (.ifCond .ne 10, 3) := dGX11_87.2.2.1
theorem dX11_tried_82 : decode cX11_tried 82 = .ok (.iload 4, 2) := dGX11_87.2.2.2.1
theorem dX11_tried_84 : decode cX11_tried 84 = .ok (.ifCond .ne 5, 3) := dGX11_87.2.2.2.2.1
theorem dX11_tried_87 : decode cX11_tried 87 = .ok (.iconst (-1), 1) := dGX11_87.2.2.2.2.2
theorem dGX11_88 : decode cX11_tried 88 = .ok (.ireturn, 1) ∧ decode cX11_tried 89 = .ok (.aload_n 0, 1) ∧ decode cX11_tried 90 = .ok (.getfield 16, 3) ∧ decode cX11_tried 93 = .ok (.aload_n 0, 1) ∧ decode cX11_tried 94 = .ok (.getfield 10, 3) ∧ decode cX11_tried 97 = .ok (.invokevirtual 202, 3) := by decide +kernel
theorem dX11_tried_88 : decode cX11_tried 88 = .ok (.ireturn, 1) := dGX11_88.1
theorem dX11_tried_89 : decode cX11_tried 89 = .ok (.aload_n 0, 1) := dGX11_88.2.1
theorem dX11_tried_90 : decode cX11_tried 90 = .ok (.getfield 16, 3) := dGX11_88.2.2.1
theorem dX11_tried_93 : decode cX11_tried 93 = .ok (.aload_n 0, 1) := dGX11_88.2.2.2.1
theorem dX11_tried_94 : decode cX11_tried 94 = .ok (.getfield 10, 3) := dGX11_88.2.2.2.2.1
theorem dX11_tried_97 : decode cX11_tried 97 = .ok (.invokevirtual 202, 3) := dGX11_88.2.2.2.2.2
theorem dGX11_89 : decode cX11_tried 100 = .ok (.aload_n 0, 1) ∧ decode cX11_tried 101 = .ok (.getfield 16, 3) ∧ decode cX11_tried 104 = .ok (.aload_n 0, 1) ∧ decode cX11_tried 105 = .ok (.getfield 70, 3) ∧ decode cX11_tried 108 = .ok (.iload_n 1, 1) ∧ decode cX11_tried 109 = .ok (.invokevirtual 152, 3) := by decide +kernel
theorem dX11_tried_100 : decode cX11_tried 100 = .ok (.aload_n 0, 1) := dGX11_89.1
theorem dX11_tried_101 : decode cX11_tried 101 = .ok (.getfield 16, 3) := dGX11_89.2.1
theorem dX11_tried_104 : decode cX11_tried 104 = .ok (.aload_n 0, 1) := dGX11_89.2.2.1
theorem dX11_tried_105 : decode cX11_tried 105 = .ok (.getfield 70, 3) := dGX11_89.2.2.2.1
theorem dX11_tried_108 : decode cX11_tried 108 = .ok (.iload_n 1, 1) := dGX11_89.2.2.2.2.1
theorem dX11_tried_109 : decode cX11_tried 109 = .ok (.invokevirtual 152, 3) := dGX11_89.2.2.2.2.2
theorem dGX11_90 : decode cX11_tried 112 = .ok (.istore 5, 2) ∧ decode cX11_tried 114 = .ok (.iload_n 3, 1) ∧ decode cX11_tried 115 = .ok (.ifCond .eq 19, 3) ∧ decode cX11_tried 118 = .ok (.aload_n 0, 1) ∧ decode cX11_tried 119 = .ok (.getfield 16, 3) ∧ decode cX11_tried 122 = .ok (.getfield 85, 3) := by decide +kernel
theorem dX11_tried_112 : decode cX11_tried 112 = .ok (.istore 5, 2) := dGX11_90.1
theorem dX11_tried_114 : decode cX11_tried 114 = .ok (.iload_n 3, 1) := dGX11_90.2.1
theorem dX11_tried_115 : decode cX11_tried 115 = .ok (.ifCond .eq 19, 3) := dGX11_90.2.2.1
theorem dX11_tried_118 : decode cX11_tried 118 = .ok (.aload_n 0, 1) := dGX11_90.2.2.2.1
theorem dX11_tried_119 : decode cX11_tried 119 = .ok (.getfield 16, 3) := dGX11_90.2.2.2.2.1
theorem dX11_tried_122 : decode cX11_tried 122 = .ok (.getfield 85, 3) := dGX11_90.2.2.2.2.2
theorem dGX11_91 : decode cX11_tried 125 = .ok (.getfield 163, 3) ∧ decode cX11_tried 128 = .ok (.iload_n 2, 1) ∧ decode cX11_tried 129 = .ok (.bipush 10, 2) ∧ decode cX11_tried 131 = .ok (.isub, 1) ∧ decode cX11_tried 132 = .ok (.iaload, 1) ∧ decode cX11_tried 133 = .ok (.ireturn, 1) := by decide +kernel
theorem dX11_tried_125 : decode cX11_tried 125 = .ok (.getfield 163, 3) := dGX11_91.1
theorem dX11_tried_128 : decode cX11_tried 128 = .ok (.iload_n 2, 1) := dGX11_91.2.1
theorem dX11_tried_129 : decode cX11_tried 129 = .ok (.bipush 10, 2) := dGX11_91.2.2.1
theorem dX11_tried_131 : decode cX11_tried 131 = .ok (.isub, 1) := dGX11_91.2.2.2.1
theorem dX11_tried_132 : decode cX11_tried 132 = .ok (.iaload, 1) := dGX11_91.2.2.2.2.1
theorem dX11_tried_133 : decode cX11_tried 133 = .ok (.ireturn, 1) := dGX11_91.2.2.2.2.2
theorem dGX11_92 : decode cX11_tried 134 = .ok (.iload 4, 2) ∧ decode cX11_tried 136 = .ok (.ifCond .eq 19, 3) ∧ decode cX11_tried 139 = .ok (.aload_n 0, 1) ∧ decode cX11_tried 140 = .ok (.getfield 16, 3) ∧ decode cX11_tried 143 = .ok (.getfield 104, 3) ∧ decode cX11_tried 146 = .ok (.getfield 199, 3) := by decide +kernel
theorem dX11_tried_134 : decode cX11_tried 134 = .ok (.iload 4, 2) := dGX11_92.1
theorem dX11_tried_136 : decode cX11_tried 136 = .ok (.ifCond .eq 19, 3) := dGX11_92.2.1
theorem dX11_tried_139 : decode cX11_tried 139 = .ok (.aload_n 0, 1) := dGX11_92.2.2.1
theorem dX11_tried_140 : decode cX11_tried 140 = .ok (.getfield 16, 3) := dGX11_92.2.2.2.1
theorem dX11_tried_143 : decode cX11_tried 143 = .ok (.getfield 104, 3) := dGX11_92.2.2.2.2.1
theorem dX11_tried_146 : decode cX11_tried 146 = .ok (.getfield 199, 3) := dGX11_92.2.2.2.2.2
theorem dGX11_93 : decode cX11_tried 149 = .ok (.iload_n 2, 1) ∧ decode cX11_tried 150 = .ok (.bipush 20, 2) ∧ decode cX11_tried 152 = .ok (.isub, 1) ∧ decode cX11_tried 153 = .ok (.iaload, 1) ∧ decode cX11_tried 154 = .ok (.ireturn, 1) ∧ decode cX11_tried 155 = .ok (.iload_n 2, 1) := by decide +kernel
theorem dX11_tried_149 : decode cX11_tried 149 = .ok (.iload_n 2, 1) := dGX11_93.1
theorem dX11_tried_150 : decode cX11_tried 150 = .ok (.bipush 20, 2) := dGX11_93.2.1
theorem dX11_tried_152 : decode cX11_tried 152 = .ok (.isub, 1) := dGX11_93.2.2.1
theorem dX11_tried_153 : decode cX11_tried 153 = .ok (.iaload, 1) := dGX11_93.2.2.2.1
theorem dX11_tried_154 : decode cX11_tried 154 = .ok (.ireturn, 1) := dGX11_93.2.2.2.2.1
theorem dX11_tried_155 : decode cX11_tried 155 = .ok (.iload_n 2, 1) := dGX11_93.2.2.2.2.2
theorem dGX11_94 : decode cX11_tried 156 = .ok (.tableswitch 53 0 2 #[28, 39, 42], 28) ∧ decode cX11_tried 184 = .ok (.aload_n 0, 1) ∧ decode cX11_tried 185 = .ok (.getfield 16, 3) ∧ decode cX11_tried 188 = .ok (.getfield 85, 3) ∧ decode cX11_tried 191 = .ok (.invokevirtual 206, 3) ∧ decode cX11_tried 194 = .ok (.ireturn, 1) := by decide +kernel
theorem dX11_tried_156 : decode cX11_tried 156 = .ok (.tableswitch 53 0 2 #[28, 39, 42], 28) := dGX11_94.1
theorem dX11_tried_184 : decode cX11_tried 184 = .ok (.aload_n 0, 1) := dGX11_94.2.1
theorem dX11_tried_185 : decode cX11_tried 185 = .ok (.getfield 16, 3) := dGX11_94.2.2.1
theorem dX11_tried_188 : decode cX11_tried 188 = .ok (.getfield 85, 3) := dGX11_94.2.2.2.1
theorem dX11_tried_191 : decode cX11_tried 191 = .ok (.invokevirtual 206, 3) := dGX11_94.2.2.2.2.1
theorem dX11_tried_194 : decode cX11_tried 194 = .ok (.ireturn, 1) := dGX11_94.2.2.2.2.2
theorem dGX11_95 : decode cX11_tried 195 = .ok (.iload 5, 2) ∧ decode cX11_tried 197 = .ok (.ireturn, 1) ∧ decode cX11_tried 198 = .ok (.aload_n 0, 1) ∧ decode cX11_tried 199 = .ok (.getfield 16, 3) ∧ decode cX11_tried 202 = .ok (.getfield 104, 3) ∧ decode cX11_tried 205 = .ok (.invokevirtual 210, 3) := by decide +kernel
theorem dX11_tried_195 : decode cX11_tried 195 = .ok (.iload 5, 2) := dGX11_95.1
theorem dX11_tried_197 : decode cX11_tried 197 = .ok (.ireturn, 1) := dGX11_95.2.1
theorem dX11_tried_198 : decode cX11_tried 198 = .ok (.aload_n 0, 1) := dGX11_95.2.2.1
theorem dX11_tried_199 : decode cX11_tried 199 = .ok (.getfield 16, 3) := dGX11_95.2.2.2.1
theorem dX11_tried_202 : decode cX11_tried 202 = .ok (.getfield 104, 3) := dGX11_95.2.2.2.2.1
theorem dX11_tried_205 : decode cX11_tried 205 = .ok (.invokevirtual 210, 3) := dGX11_95.2.2.2.2.2
theorem dGX11_96 : decode cX11_tried 208 = .ok (.ireturn, 1) ∧ decode cX11_tried 209 = .ok (.aload_n 0, 1) ∧ decode cX11_tried 210 = .ok (.getfield 16, 3) ∧ decode cX11_tried 213 = .ok (.getfield 213, 3) ∧ decode cX11_tried 216 = .ok (.ireturn, 1) ∧ decode cX11_set 0 = .ok (.aload_n 0, 1) := by decide +kernel
theorem dX11_tried_208 : decode cX11_tried 208 = .ok (.ireturn, 1) := dGX11_96.1
theorem dX11_tried_209 : decode cX11_tried 209 = .ok (.aload_n 0, 1) := dGX11_96.2.1
theorem dX11_tried_210 : decode cX11_tried 210 = .ok (.getfield 16, 3) := dGX11_96.2.2.1
theorem dX11_tried_213 : decode cX11_tried 213 = .ok (.getfield 213, 3) := dGX11_96.2.2.2.1
theorem dX11_tried_216 : decode cX11_tried 216 = .ok (.ireturn, 1) := dGX11_96.2.2.2.2.1
theorem dX11_set_0 : decode cX11_set 0 = .ok (.aload_n 0, 1) := dGX11_96.2.2.2.2.2
theorem dGX11_97 : decode cX11_set 1 = .ok (.getfield 10, 3) ∧ decode cX11_set 4 = .ok (.getfield 95, 3) ∧ decode cX11_set 7 = .ok (.iload 4, 2) ∧ decode cX11_set 9 = .ok (.invokevirtual 113, 3) ∧ decode cX11_set 12 = .ok (.ifCond .eq 17, 3) ∧ decode cX11_set 15 = .ok (.iload_n 1, 1) := by decide +kernel
theorem dX11_set_1 : decode cX11_set 1 = .ok (.getfield 10, 3) := dGX11_97.1
theorem dX11_set_4 : decode cX11_set 4 = .ok (.getfield 95, 3) := dGX11_97.2.1
theorem dX11_set_7 : decode cX11_set 7 = .ok (.iload 4, 2) := dGX11_97.2.2.1
theorem dX11_set_9 : decode cX11_set 9 = .ok (.invokevirtual 113, 3) := dGX11_97.2.2.2.1
theorem dX11_set_12 : decode cX11_set 12 = .ok (.ifCond .eq 17, 3) := dGX11_97.2.2.2.2.1
theorem dX11_set_15 : decode cX11_set 15 = .ok (.iload_n 1, 1) := dGX11_97.2.2.2.2.2
theorem dGX11_98 : decode cX11_set 16 = .ok (.iload 4, 2) ∧ decode cX11_set 18 = .ok (.ishr, 1) ∧ decode cX11_set 19 = .ok (.iconst 1, 1) ∧ decode cX11_set 20 = .ok (.iand, 1) ∧ decode cX11_set 21 = .ok (.iconst 1, 1) ∧ decode cX11_set 22 = .ok (.if_icmp .ne 7, 3) := by decide +kernel
theorem dX11_set_16 : decode cX11_set 16 = .ok (.iload 4, 2) := dGX11_98.1
theorem dX11_set_18 : decode cX11_set 18 = .ok (.ishr, 1) := dGX11_98.2.1
theorem dX11_set_19 : decode cX11_set 19 = .ok (.iconst 1, 1) := dGX11_98.2.2.1
theorem dX11_set_20 : decode cX11_set 20 = .ok (.iand, 1) := dGX11_98.2.2.2.1
theorem dX11_set_21 : decode cX11_set 21 = .ok (.iconst 1, 1) := dGX11_98.2.2.2.2.1
theorem dX11_set_22 : decode cX11_set 22 = .ok (.if_icmp .ne 7, 3) := dGX11_98.2.2.2.2.2
theorem dGX11_99 : decode cX11_set 25 = .ok (.iconst 1, 1) ∧ decode cX11_set 26 = .ok (.goto 4, 3) ∧ decode cX11_set 29 = .ok (.iconst 0, 1) ∧ decode cX11_set 30 = .ok (.istore 5, 2) ∧ decode cX11_set 32 = .ok (.aload_n 0, 1) ∧ decode cX11_set 33 = .ok (.iload_n 1, 1) := by decide +kernel
theorem dX11_set_25 : decode cX11_set 25 = .ok (.iconst 1, 1) := dGX11_99.1
theorem dX11_set_26 : decode cX11_set 26 = .ok (.goto 4, 3) := dGX11_99.2.1
theorem dX11_set_29 : decode cX11_set 29 = .ok (.iconst 0, 1) := dGX11_99.2.2.1
theorem dX11_set_30 : decode cX11_set 30 = .ok (.istore 5, 2) := dGX11_99.2.2.2.1
theorem dX11_set_32 : decode cX11_set 32 = .ok (.aload_n 0, 1) := dGX11_99.2.2.2.2.1
theorem dX11_set_33 : decode cX11_set 33 = .ok (.iload_n 1, 1) := dGX11_99.2.2.2.2.2
theorem dGX11_100 : decode cX11_set 34 = .ok (.invokevirtual 216, 3) ∧ decode cX11_set 37 = .ok (.ifCond .eq 44, 3) ∧ decode cX11_set 40 = .ok (.aload_n 0, 1) ∧ decode cX11_set 41 = .ok (.getfield 10, 3) ∧ decode cX11_set 44 = .ok (.getfield 85, 3) ∧ decode cX11_set 47 = .ok (.iload_n 2, 1) := by decide +kernel
theorem dX11_set_34 : decode cX11_set 34 = .ok (.invokevirtual 216, 3) := dGX11_100.1
theorem dX11_set_37 : decode cX11_set 37 = .ok (.ifCond .eq 44, 3) := dGX11_100.2.1
theorem dX11_set_40 : decode cX11_set 40 = .ok (.aload_n 0, 1) := dGX11_100.2.2.1
theorem dX11_set_41 : decode cX11_set 41 = .ok (.getfield 10, 3) := dGX11_100.2.2.2.1
theorem dX11_set_44 : decode cX11_set 44 = .ok (.getfield 85, 3) := dGX11_100.2.2.2.2.1
theorem dX11_set_47 : decode cX11_set 47 = .ok (.iload_n 2, 1) := dGX11_100.2.2.2.2.2
theorem dGX11_101 : decode cX11_set 48 = .ok (.invokevirtual 159, 3) ∧ decode cX11_set 51 = .ok (.ifCond .eq 30, 3) ∧ decode cX11_set 54 = .ok (.iload_n 3, 1) ∧ decode cX11_set 55 = .ok (.iconst 1, 1) ∧ decode cX11_set 56 = .ok (.bipush 20, 2) ∧ decode cX11_set 58 = .ok (.invokestatic 81, 3) := by decide +kernel
theorem dX11_set_48 : decode cX11_set 48 = .ok (.invokevirtual 159, 3) := dGX11_101.1
theorem dX11_set_51 : decode cX11_set 51 = .ok (.ifCond .eq 30, 3) := dGX11_101.2.1
theorem dX11_set_54 : decode cX11_set 54 = .ok (.iload_n 3, 1) := dGX11_101.2.2.1
theorem dX11_set_55 : decode cX11_set 55 = .ok (.iconst 1, 1) := dGX11_101.2.2.2.1
theorem dX11_set_56 : decode cX11_set 56 = .ok (.bipush 20, 2) := dGX11_101.2.2.2.2.1
theorem dX11_set_58 : decode cX11_set 58 = .ok (.invokestatic 81, 3) := dGX11_101.2.2.2.2.2
theorem dGX11_102 : decode cX11_set 61 = .ok (.ifCond .eq 20, 3) ∧ decode cX11_set 64 = .ok (.iload 4, 2) ∧ decode cX11_set 66 = .ok (.bipush 10, 2) ∧ decode cX11_set 68 = .ok (.bipush 12, 2) ∧ decode cX11_set 70 = .ok (.invokestatic 81, 3) ∧ decode cX11_set 73 = .ok (.ifCond .ne 10, 3) := by decide +kernel
theorem dX11_set_61 : decode cX11_set 61 = .ok (.ifCond .eq 20, 3) := dGX11_102.1
theorem dX11_set_64 : decode cX11_set 64 = .ok (.iload 4, 2) := dGX11_102.2.1
theorem dX11_set_66 : decode cX11_set 66 = .ok (.bipush 10, 2) := dGX11_102.2.2.1
theorem dX11_set_68 : decode cX11_set 68 = .ok (.bipush 12, 2) := dGX11_102.2.2.2.1
theorem dX11_set_70 : decode cX11_set 70 = .ok (.invokestatic 81, 3) := dGX11_102.2.2.2.2.1
theorem dX11_set_73 : decode cX11_set 73 = .ok (.ifCond .ne 10, 3) := dGX11_102.2.2.2.2.2
theorem dGX11_103 : decode cX11_set 76 = .ok (.iload 5, 2) ∧ decode cX11_set 78 = .ok (.ifCond .ne 5, 3) ∧ decode cX11_set 81 = .ok (.iconst (-1), 1) ∧ decode cX11_set 82 = .ok (.ireturn, 1) ∧ decode cX11_set 83 = .ok (.aload_n 0, 1) ∧ decode cX11_set 84 = .ok (.getfield 42, 3) := by decide +kernel
theorem dX11_set_76 : decode cX11_set 76 = .ok (.iload 5, 2) := dGX11_103.1
theorem dX11_set_78 : decode cX11_set 78 = .ok (.ifCond .ne 5, 3) := dGX11_103.2.1
theorem dX11_set_81 : decode cX11_set 81 = .ok (.iconst (-1), 1) := dGX11_103.2.2.1
theorem dX11_set_82 : decode cX11_set 82 = .ok (.ireturn, 1) := dGX11_103.2.2.2.1
theorem dX11_set_83 : decode cX11_set 83 = .ok (.aload_n 0, 1) := dGX11_103.2.2.2.2.1
theorem dX11_set_84 : decode cX11_set 84 = .ok (.getfield 42, 3) := dGX11_103.2.2.2.2.2
theorem dGX11_104 : decode cX11_set 87 = .ok (.aload_n 0, 1) ∧ decode cX11_set 88 = .ok (.getfield 10, 3) ∧ decode cX11_set 91 = .ok (.aload_n 0, 1) ∧ decode cX11_set 92 = .ok (.getfield 16, 3) ∧ decode cX11_set 95 = .ok (.aload_n 0, 1) ∧ decode cX11_set 96 = .ok (.getfield 70, 3) := by decide +kernel
theorem dX11_set_87 : decode cX11_set 87 = .ok (.aload_n 0, 1) := dGX11_104.1
theorem dX11_set_88 : decode cX11_set 88 = .ok (.getfield 10, 3) := dGX11_104.2.1
theorem dX11_set_91 : decode cX11_set 91 = .ok (.aload_n 0, 1) := dGX11_104.2.2.1
theorem dX11_set_92 : decode cX11_set 92 = .ok (.getfield 16, 3) := dGX11_104.2.2.2.1
theorem dX11_set_95 : decode cX11_set 95 = .ok (.aload_n 0, 1) := dGX11_104.2.2.2.2.1
theorem dX11_set_96 : decode cX11_set 96 = .ok (.getfield 70, 3) := dGX11_104.2.2.2.2.2
theorem dGX11_105 : decode cX11_set 99 = .ok (.iload_n 1, 1) ∧ decode cX11_set 100 = .ok (.iload_n 2, 1) ∧ decode cX11_set 101 = .ok (.iload_n 3, 1) ∧ decode cX11_set 102 = .ok (.invokevirtual 219, 3) ∧ decode cX11_set 105 = .ok (.aload_n 0, 1) ∧ decode cX11_set 106 = .ok (.getfield 42, 3) := by decide +kernel
theorem dX11_set_99 : decode cX11_set 99 = .ok (.iload_n 1, 1) := dGX11_105.1
theorem dX11_set_100 : decode cX11_set 100 = .ok (.iload_n 2, 1) := dGX11_105.2.1
theorem dX11_set_101 : decode cX11_set 101 = .ok (.iload_n 3, 1) := dGX11_105.2.2.1
theorem dX11_set_102 : decode cX11_set 102 = .ok (.invokevirtual 219, 3) := dGX11_105.2.2.2.1
theorem dX11_set_105 : decode cX11_set 105 = .ok (.aload_n 0, 1) := dGX11_105.2.2.2.2.1
theorem dX11_set_106 : decode cX11_set 106 = .ok (.getfield 42, 3) := dGX11_105.2.2.2.2.2
theorem dGX11_106 : decode cX11_set 109 = .ok (.getfield 223, 3) ∧ decode cX11_set 112 = .ok (.iconst (-1), 1) ∧ decode cX11_set 113 = .ok (.if_icmp .ne 6, 3) ∧ decode cX11_set 116 = .ok (.bipush (-2), 2) ∧ decode cX11_set 118 = .ok (.ireturn, 1) ∧ decode cX11_set 119 = .ok (.iload 4, 2) := by decide +kernel
theorem dX11_set_109 : decode cX11_set 109 = .ok (.getfield 223, 3) := dGX11_106.1
theorem dX11_set_112 : decode cX11_set 112 = .ok (.iconst (-1), 1) := dGX11_106.2.1
theorem dX11_set_113 : decode cX11_set 113 = .ok (.if_icmp .ne 6, 3) := dGX11_106.2.2.1
theorem dX11_set_116 : decode cX11_set 116 = .ok (.bipush (-2), 2) := dGX11_106.2.2.2.1
theorem dX11_set_118 : decode cX11_set 118 = .ok (.ireturn, 1) := dGX11_106.2.2.2.2.1
theorem dX11_set_119 : decode cX11_set 119 = .ok (.iload 4, 2) := dGX11_106.2.2.2.2.2
theorem dGX11_107 : decode cX11_set 121 = .ok (.bipush 12, 2) ∧ decode cX11_set 123 = .ok (.if_icmp .ne 21, 3) ∧ decode cX11_set 126 = .ok (.aload_n 0, 1) ∧ decode cX11_set 127 = .ok (.getfield 42, 3) ∧ decode cX11_set 130 = .ok (.aload_n 0, 1) ∧ decode cX11_set 131 = .ok (.getfield 10, 3) := by decide +kernel
theorem dX11_set_121 : decode cX11_set 121 = .ok (.bipush 12, 2) := dGX11_107.1
theorem dX11_set_123 : decode cX11_set 123 = .ok (.if_icmp .ne 21, 3) := dGX11_107.2.1
theorem dX11_set_126 : decode cX11_set 126 = .ok (.aload_n 0, 1) := dGX11_107.2.2.1
theorem dX11_set_127 : decode cX11_set 127 = .ok (.getfield 42, 3) := dGX11_107.2.2.2.1
theorem dX11_set_130 : decode cX11_set 130 = .ok (.aload_n 0, 1) := dGX11_107.2.2.2.2.1
theorem dX11_set_131 : decode cX11_set 131 = .ok (.getfield 10, 3) := dGX11_107.2.2.2.2.2
theorem dGX11_108 : decode cX11_set 134 = .ok (.aload_n 0, 1) ∧ decode cX11_set 135 = .ok (.getfield 42, 3) ∧ decode cX11_set 138 = .ok (.getfield 226, 3) ∧ decode cX11_set 141 = .ok (.invokevirtual 229, 3) ∧ decode cX11_set 144 = .ok (.iload 4, 2) ∧ decode cX11_set 146 = .ok (.bipush 11, 2) := by decide +kernel
theorem dX11_set_134 : decode cX11_set 134 = .ok (.aload_n 0, 1) := dGX11_108.1
theorem dX11_set_135 : decode cX11_set 135 = .ok (.getfield 42, 3) := dGX11_108.2.1
theorem dX11_set_138 : decode cX11_set 138 = .ok (.getfield 226, 3) := dGX11_108.2.2.1
theorem dX11_set_141 : decode cX11_set 141 = .ok (.invokevirtual 229, 3) := dGX11_108.2.2.2.1
theorem dX11_set_144 : decode cX11_set 144 = .ok (.iload 4, 2) := dGX11_108.2.2.2.2.1
theorem dX11_set_146 : decode cX11_set 146 = .ok (.bipush 11, 2) := dGX11_108.2.2.2.2.2
theorem dGX11_109 : decode cX11_set 148 = .ok (.if_icmp .ne 11, 3) ∧ decode cX11_set 151 = .ok (.aload_n 0, 1) ∧ decode cX11_set 152 = .ok (.getfield 42, 3) ∧ decode cX11_set 155 = .ok (.getfield 233, 3) ∧ decode cX11_set 158 = .ok (.ireturn, 1) ∧ decode cX11_set 159 = .ok (.iload 5, 2) := by decide +kernel
theorem dX11_set_148 : decode cX11_set 148 = .ok (.if_icmp .ne 11, 3) := dGX11_109.1
theorem dX11_set_151 : decode cX11_set 151 = .ok (.aload_n 0, 1) := dGX11_109.2.1
theorem dX11_set_152 : decode cX11_set 152 = .ok (.getfield 42, 3) := dGX11_109.2.2.1
theorem dX11_set_155 : decode cX11_set 155 = .ok (.getfield 233, 3) := dGX11_109.2.2.2.1
theorem dX11_set_158 : decode cX11_set 158 = .ok (.ireturn, 1) := dGX11_109.2.2.2.2.1
theorem dX11_set_159 : decode cX11_set 159 = .ok (.iload 5, 2) := dGX11_109.2.2.2.2.2
theorem dGX11_110 : decode cX11_set 161 = .ok (.ifCond .eq 15, 3) ∧ decode cX11_set 164 = .ok (.aload_n 0, 1) ∧ decode cX11_set 165 = .ok (.getfield 42, 3) ∧ decode cX11_set 168 = .ok (.iload 4, 2) ∧ decode cX11_set 170 = .ok (.invokevirtual 235, 3) ∧ decode cX11_set 173 = .ok (.goto 10, 3) := by decide +kernel
theorem dX11_set_161 : decode cX11_set 161 = .ok (.ifCond .eq 15, 3) := dGX11_110.1
theorem dX11_set_164 : decode cX11_set 164 = .ok (.aload_n 0, 1) := dGX11_110.2.1
theorem dX11_set_165 : decode cX11_set 165 = .ok (.getfield 42, 3) := dGX11_110.2.2.1
theorem dX11_set_168 : decode cX11_set 168 = .ok (.iload 4, 2) := dGX11_110.2.2.2.1
theorem dX11_set_170 : decode cX11_set 170 = .ok (.invokevirtual 235, 3) := dGX11_110.2.2.2.2.1
theorem dX11_set_173 : decode cX11_set 173 = .ok (.goto 10, 3) := dGX11_110.2.2.2.2.2
theorem dGX11_111 : decode cX11_set 176 = .ok (.aload_n 0, 1) ∧ decode cX11_set 177 = .ok (.getfield 42, 3) ∧ decode cX11_set 180 = .ok (.getfield 223, 3) ∧ decode cX11_set 183 = .ok (.ireturn, 1) ∧ decode cX11_free 0 = .ok (.iload_n 1, 1) ∧ decode cX11_free 1 = .ok (.iconst 1, 1) := by decide +kernel
theorem dX11_set_176 : decode cX11_set 176 = .ok (.aload_n 0, 1) := dGX11_111.1
theorem dX11_set_177 : decode cX11_set 177 = .ok (.getfield 42, 3) := dGX11_111.2.1
theorem dX11_set_180 : decode cX11_set 180 = .ok (.getfield 223, 3) := dGX11_111.2.2.1
theorem dX11_set_183 : decode cX11_set 183 = .ok (.ireturn, 1) := dGX11_111.2.2.2.1
theorem dX11_free_0 : decode cX11_free 0 = .ok (.iload_n 1, 1) := dGX11_111.2.2.2.2.1
theorem dX11_free_1 : decode cX11_free 1 = .ok (.iconst 1, 1) := dGX11_111.2.2.2.2.2
theorem dGX11_112 : decode cX11_free 2 = .ok (.bipush 8, 2) ∧ decode cX11_free 4 = .ok (.invokestatic 81, 3) ∧ decode cX11_free 7 = .ok (.ifCond .eq 22, 3) ∧ decode cX11_free 10 = .ok (.iload_n 2, 1) ∧ decode cX11_free 11 = .ok (.iconst 0, 1) ∧ decode cX11_free 12 = .ok (.bipush 8, 2) := by decide +kernel
theorem dX11_free_2 : decode cX11_free 2 = .ok (.bipush 8, 2) := dGX11_112.1
theorem dX11_free_4 : decode cX11_free 4 = .ok (.invokestatic 81, 3) := dGX11_112.2.1
theorem dX11_free_7 : decode cX11_free 7 = .ok (.ifCond .eq 22, 3) := dGX11_112.2.2.1
theorem dX11_free_10 : decode cX11_free 10 = .ok (.iload_n 2, 1) := dGX11_112.2.2.2.1
theorem dX11_free_11 : decode cX11_free 11 = .ok (.iconst 0, 1) := dGX11_112.2.2.2.2.1
theorem dX11_free_12 : decode cX11_free 12 = .ok (.bipush 8, 2) := dGX11_112.2.2.2.2.2
theorem dGX11_113 : decode cX11_free 14 = .ok (.invokestatic 81, 3) ∧ decode cX11_free 17 = .ok (.ifCond .eq 12, 3) ∧ decode cX11_free 20 = .ok (.iload_n 3, 1) ∧ decode cX11_free 21 = .ok (.iconst 0, 1) ∧ decode cX11_free 22 = .ok (.iconst 2, 1) ∧ decode cX11_free 23 = .ok (.invokestatic 81, 3) := by decide +kernel
theorem dX11_free_14 : decode cX11_free 14 = .ok (.invokestatic 81, 3) := dGX11_113.1
theorem dX11_free_17 : decode cX11_free 17 = .ok (.ifCond .eq 12, 3) := dGX11_113.2.1
theorem dX11_free_20 : decode cX11_free 20 = .ok (.iload_n 3, 1) := dGX11_113.2.2.1
theorem dX11_free_21 : decode cX11_free 21 = .ok (.iconst 0, 1) := dGX11_113.2.2.2.1
theorem dX11_free_22 : decode cX11_free 22 = .ok (.iconst 2, 1) := dGX11_113.2.2.2.2.1
theorem dX11_free_23 : decode cX11_free 23 = .ok (.invokestatic 81, 3) := dGX11_113.2.2.2.2.2
theorem dGX11_114 : decode cX11_free 26 = .ok (.ifCond .ne 5, 3) ∧ decode cX11_free 29 = .ok (.iconst (-1), 1) ∧ decode cX11_free 30 = .ok (.ireturn, 1) ∧ decode cX11_free 31 = .ok (.aload_n 0, 1) ∧ decode cX11_free 32 = .ok (.getfield 10, 3) ∧ decode cX11_free 35 = .ok (.iload_n 1, 1) := by decide +kernel
theorem dX11_free_26 : decode cX11_free 26 = .ok (.ifCond .ne 5, 3) := dGX11_114.1
theorem dX11_free_29 : decode cX11_free 29 = .ok (.iconst (-1), 1) := dGX11_114.2.1
theorem dX11_free_30 : decode cX11_free 30 = .ok (.ireturn, 1) := dGX11_114.2.2.1
theorem dX11_free_31 : decode cX11_free 31 = .ok (.aload_n 0, 1) := dGX11_114.2.2.2.1
theorem dX11_free_32 : decode cX11_free 32 = .ok (.getfield 10, 3) := dGX11_114.2.2.2.2.1
theorem dX11_free_35 : decode cX11_free 35 = .ok (.iload_n 1, 1) := dGX11_114.2.2.2.2.2
theorem dGX11_115 : decode cX11_free 36 = .ok (.invokevirtual 238, 3) ∧ decode cX11_free 39 = .ok (.istore 4, 2) ∧ decode cX11_free 41 = .ok (.iload 4, 2) ∧ decode cX11_free 43 = .ok (.invokestatic 241, 3) ∧ decode cX11_free 46 = .ok (.iload_n 2, 1) ∧ decode cX11_free 47 = .ok (.if_icmp .ge 6, 3) := by decide +kernel
theorem dX11_free_36 : decode cX11_free 36 = .ok (.invokevirtual 238, 3) := dGX11_115.1
theorem dX11_free_39 : decode cX11_free 39 = .ok (.istore 4, 2) := dGX11_115.2.1
theorem dX11_free_41 : decode cX11_free 41 = .ok (.iload 4, 2) := dGX11_115.2.2.1
theorem dX11_free_43 : decode cX11_free 43 = .ok (.invokestatic 241, 3) := dGX11_115.2.2.2.1
theorem dX11_free_46 : decode cX11_free 46 = .ok (.iload_n 2, 1) := dGX11_115.2.2.2.2.1
theorem dX11_free_47 : decode cX11_free 47 = .ok (.if_icmp .ge 6, 3) := dGX11_115.2.2.2.2.2
theorem dGX11_116 : decode cX11_free 50 = .ok (.bipush (-2), 2) ∧ decode cX11_free 52 = .ok (.ireturn, 1) ∧ decode cX11_free 53 = .ok (.iconst (-1), 1) ∧ decode cX11_free 54 = .ok (.istore 5, 2) ∧ decode cX11_free 56 = .ok (.iconst 0, 1) ∧ decode cX11_free 57 = .ok (.istore 6, 2) := by decide +kernel
theorem dX11_free_50 : decode cX11_free 50 = .ok (.bipush (-2), 2) := dGX11_116.1
theorem dX11_free_52 : decode cX11_free 52 = .ok (.ireturn, 1) := dGX11_116.2.1
theorem dX11_free_53 : decode cX11_free 53 = .ok (.iconst (-1), 1) := dGX11_116.2.2.1
theorem dX11_free_54 : decode cX11_free 54 = .ok (.istore 5, 2) := dGX11_116.2.2.2.1
theorem dX11_free_56 : decode cX11_free 56 = .ok (.iconst 0, 1) := dGX11_116.2.2.2.2.1
theorem dX11_free_57 : decode cX11_free 57 = .ok (.istore 6, 2) := dGX11_116.2.2.2.2.2
theorem dGX11_117 : decode cX11_free 59 = .ok (.iconst 0, 1) ∧ decode cX11_free 60 = .ok (.istore 7, 2) ∧ decode cX11_free 62 = .ok (.iconst 0, 1) ∧ decode cX11_free 63 = .ok (.istore 8, 2) ∧ decode cX11_free 65 = .ok (.iload 8, 2) ∧ decode cX11_free 67 = .ok (.iload 4, 2) := by decide +kernel
theorem dX11_free_59 : decode cX11_free 59 = .ok (.iconst 0, 1) := dGX11_117.1
theorem dX11_free_60 : decode cX11_free 60 = .ok (.istore 7, 2) := dGX11_117.2.1
theorem dX11_free_62 : decode cX11_free 62 = .ok (.iconst 0, 1) := dGX11_117.2.2.1
theorem dX11_free_63 : decode cX11_free 63 = .ok (.istore 8, 2) := dGX11_117.2.2.2.1
theorem dX11_free_65 : decode cX11_free 65 = .ok (.iload 8, 2) := dGX11_117.2.2.2.2.1
theorem dX11_free_67 : decode cX11_free 67 = .ok (.iload 4, 2) := dGX11_117.2.2.2.2.2
theorem dGX11_118 : decode cX11_free 69 = .ok (.if_icmp .gt 125, 3) ∧ decode cX11_free 72 = .ok (.iload 8, 2) ∧ decode cX11_free 74 = .ok (.iload 4, 2) ∧ decode cX11_free 76 = .ok (.iconst (-1), 1) ∧ decode cX11_free 77 = .ok (.ixor, 1) ∧ decode cX11_free 78 = .ok (.iand, 1) := by decide +kernel
theorem dX11_free_69 : decode cX11_free 69 = .ok (.if_icmp .gt 125, 3) := dGX11_118.1
theorem dX11_free_72 : decode cX11_free 72 = .ok (.iload 8, 2) := dGX11_118.2.1
theorem dX11_free_74 : decode cX11_free 74 = .ok (.iload 4, 2) := dGX11_118.2.2.1
theorem dX11_free_76 : decode cX11_free 76 = .ok (.iconst (-1), 1) := dGX11_118.2.2.2.1
theorem dX11_free_77 : decode cX11_free 77 = .ok (.ixor, 1) := dGX11_118.2.2.2.2.1
theorem dX11_free_78 : decode cX11_free 78 = .ok (.iand, 1) := dGX11_118.2.2.2.2.2
theorem dGX11_119 : decode cX11_free 79 = .ok (.ifCond .ne 109, 3) ∧ decode cX11_free 82 = .ok (.iload 8, 2) ∧ decode cX11_free 84 = .ok (.invokestatic 241, 3) ∧ decode cX11_free 87 = .ok (.iload_n 2, 1) ∧ decode cX11_free 88 = .ok (.if_icmp .ne 100, 3) ∧ decode cX11_free 91 = .ok (.aload_n 0, 1) := by decide +kernel
theorem dX11_free_79 : decode cX11_free 79 = .ok (.ifCond .ne 109, 3) := dGX11_119.1
theorem dX11_free_82 : decode cX11_free 82 = .ok (.iload 8, 2) := dGX11_119.2.1
theorem dX11_free_84 : decode cX11_free 84 = .ok (.invokestatic 241, 3) := dGX11_119.2.2.1
theorem dX11_free_87 : decode cX11_free 87 = .ok (.iload_n 2, 1) := dGX11_119.2.2.2.1
theorem dX11_free_88 : decode cX11_free 88 = .ok (.if_icmp .ne 100, 3) := dGX11_119.2.2.2.2.1
theorem dX11_free_91 : decode cX11_free 91 = .ok (.aload_n 0, 1) := dGX11_119.2.2.2.2.2
theorem dGX11_120 : decode cX11_free 92 = .ok (.getfield 16, 3) ∧ decode cX11_free 95 = .ok (.aload_n 0, 1) ∧ decode cX11_free 96 = .ok (.getfield 10, 3) ∧ decode cX11_free 99 = .ok (.invokevirtual 202, 3) ∧ decode cX11_free 102 = .ok (.aload_n 0, 1) ∧ decode cX11_free 103 = .ok (.getfield 16, 3) := by decide +kernel
theorem dX11_free_92 : decode cX11_free 92 = .ok (.getfield 16, 3) := dGX11_120.1
theorem dX11_free_95 : decode cX11_free 95 = .ok (.aload_n 0, 1) := dGX11_120.2.1
theorem dX11_free_96 : decode cX11_free 96 = .ok (.getfield 10, 3) := dGX11_120.2.2.1
theorem dX11_free_99 : decode cX11_free 99 = .ok (.invokevirtual 202, 3) := dGX11_120.2.2.2.1
theorem dX11_free_102 : decode cX11_free 102 = .ok (.aload_n 0, 1) := dGX11_120.2.2.2.2.1
theorem dX11_free_103 : decode cX11_free 103 = .ok (.getfield 16, 3) := dGX11_120.2.2.2.2.2
theorem dGX11_121 : decode cX11_free 106 = .ok (.iload 8, 2) ∧ decode cX11_free 108 = .ok (.iload_n 1, 1) ∧ decode cX11_free 109 = .ok (.invokevirtual 246, 3) ∧ decode cX11_free 112 = .ok (.aload_n 0, 1) ∧ decode cX11_free 113 = .ok (.getfield 16, 3) ∧ decode cX11_free 116 = .ok (.aload_n 0, 1) := by decide +kernel
theorem dX11_free_106 : decode cX11_free 106 = .ok (.iload 8, 2) := dGX11_121.1
theorem dX11_free_108 : decode cX11_free 108 = .ok (.iload_n 1, 1) := dGX11_121.2.1
theorem dX11_free_109 : decode cX11_free 109 = .ok (.invokevirtual 246, 3) := dGX11_121.2.2.1
theorem dX11_free_112 : decode cX11_free 112 = .ok (.aload_n 0, 1) := dGX11_121.2.2.2.1
theorem dX11_free_113 : decode cX11_free 113 = .ok (.getfield 16, 3) := dGX11_121.2.2.2.2.1
theorem dX11_free_116 : decode cX11_free 116 = .ok (.aload_n 0, 1) := dGX11_121.2.2.2.2.2
theorem dGX11_122 : decode cX11_free 117 = .ok (.getfield 70, 3) ∧ decode cX11_free 120 = .ok (.iload_n 1, 1) ∧ decode cX11_free 121 = .ok (.invokevirtual 152, 3) ∧ decode cX11_free 124 = .ok (.pop, 1) ∧ decode cX11_free 125 = .ok (.aload_n 0, 1) ∧ decode cX11_free 126 = .ok (.getfield 16, 3) := by decide +kernel
theorem dX11_free_117 : decode cX11_free 117 = .ok (.getfield 70, 3) := dGX11_122.1
theorem dX11_free_120 : decode cX11_free 120 = .ok (.iload_n 1, 1) := dGX11_122.2.1
theorem dX11_free_121 : decode cX11_free 121 = .ok (.invokevirtual 152, 3) := dGX11_122.2.2.1
theorem dX11_free_124 : decode cX11_free 124 = .ok (.pop, 1) := dGX11_122.2.2.2.1
theorem dX11_free_125 : decode cX11_free 125 = .ok (.aload_n 0, 1) := dGX11_122.2.2.2.2.1
theorem dX11_free_126 : decode cX11_free 126 = .ok (.getfield 16, 3) := dGX11_122.2.2.2.2.2
theorem dGX11_123 : decode cX11_free 129 = .ok (.getfield 104, 3) ∧ decode cX11_free 132 = .ok (.invokevirtual 210, 3) ∧ decode cX11_free 135 = .ok (.istore 9, 2) ∧ decode cX11_free 137 = .ok (.aload_n 0, 1) ∧ decode cX11_free 138 = .ok (.getfield 16, 3) ∧ decode cX11_free 141 = .ok (.getfield 85, 3) := by decide +kernel
theorem dX11_free_129 : decode cX11_free 129 = .ok (.getfield 104, 3) := dGX11_123.1
theorem dX11_free_132 : decode cX11_free 132 = .ok (.invokevirtual 210, 3) := dGX11_123.2.1
theorem dX11_free_135 : decode cX11_free 135 = .ok (.istore 9, 2) := dGX11_123.2.2.1
theorem dX11_free_137 : decode cX11_free 137 = .ok (.aload_n 0, 1) := dGX11_123.2.2.2.1
theorem dX11_free_138 : decode cX11_free 138 = .ok (.getfield 16, 3) := dGX11_123.2.2.2.2.1
theorem dX11_free_141 : decode cX11_free 141 = .ok (.getfield 85, 3) := dGX11_123.2.2.2.2.2
theorem dGX11_124 : decode cX11_free 144 = .ok (.invokevirtual 206, 3) ∧ decode cX11_free 147 = .ok (.istore 10, 2) ∧ decode cX11_free 149 = .ok (.iload 5, 2) ∧ decode cX11_free 151 = .ok (.iconst (-1), 1) ∧ decode cX11_free 152 = .ok (.if_icmp .eq 24, 3) ∧ decode cX11_free 155 = .ok (.iload 9, 2) := by decide +kernel
theorem dX11_free_144 : decode cX11_free 144 = .ok (.invokevirtual 206, 3) := dGX11_124.1
theorem dX11_free_147 : decode cX11_free 147 = .ok (.istore 10, 2) := dGX11_124.2.1
theorem dX11_free_149 : decode cX11_free 149 = .ok (.iload 5, 2) := dGX11_124.2.2.1
theorem dX11_free_151 : decode cX11_free 151 = .ok (.iconst (-1), 1) := dGX11_124.2.2.2.1
theorem dX11_free_152 : decode cX11_free 152 = .ok (.if_icmp .eq 24, 3) := dGX11_124.2.2.2.2.1
theorem dX11_free_155 : decode cX11_free 155 = .ok (.iload 9, 2) := dGX11_124.2.2.2.2.2
theorem dGX11_125 : decode cX11_free 157 = .ok (.iload 6, 2) ∧ decode cX11_free 159 = .ok (.if_icmp .lt 17, 3) ∧ decode cX11_free 162 = .ok (.iload 9, 2) ∧ decode cX11_free 164 = .ok (.iload 6, 2) ∧ decode cX11_free 166 = .ok (.if_icmp .ne 22, 3) ∧ decode cX11_free 169 = .ok (.iload 10, 2) := by decide +kernel
theorem dX11_free_157 : decode cX11_free 157 = .ok (.iload 6, 2) := dGX11_125.1
theorem dX11_free_159 : decode cX11_free 159 = .ok (.if_icmp .lt 17, 3) := dGX11_125.2.1
theorem dX11_free_162 : decode cX11_free 162 = .ok (.iload 9, 2) := dGX11_125.2.2.1
theorem dX11_free_164 : decode cX11_free 164 = .ok (.iload 6, 2) := dGX11_125.2.2.2.1
theorem dX11_free_166 : decode cX11_free 166 = .ok (.if_icmp .ne 22, 3) := dGX11_125.2.2.2.2.1
theorem dX11_free_169 : decode cX11_free 169 = .ok (.iload 10, 2) := dGX11_125.2.2.2.2.2
theorem dGX11_126 : decode cX11_free 171 = .ok (.iload 7, 2) ∧ decode cX11_free 173 = .ok (.if_icmp .le 15, 3) ∧ decode cX11_free 176 = .ok (.iload 8, 2) ∧ decode cX11_free 178 = .ok (.istore 5, 2) ∧ decode cX11_free 180 = .ok (.iload 9, 2) ∧ decode cX11_free 182 = .ok (.istore 6, 2) := by decide +kernel
theorem dX11_free_171 : decode cX11_free 171 = .ok (.iload 7, 2) := dGX11_126.1
theorem dX11_free_173 : decode cX11_free 173 = .ok (.if_icmp .le 15, 3) := dGX11_126.2.1
theorem dX11_free_176 : decode cX11_free 176 = .ok (.iload 8, 2) := dGX11_126.2.2.1
theorem dX11_free_178 : decode cX11_free 178 = .ok (.istore 5, 2) := dGX11_126.2.2.2.1
theorem dX11_free_180 : decode cX11_free 180 = .ok (.iload 9, 2) := dGX11_126.2.2.2.2.1
theorem dX11_free_182 : decode cX11_free 182 = .ok (.istore 6, 2) := dGX11_126.2.2.2.2.2
theorem dGX11_127 : decode cX11_free 184 = .ok (.iload 10, 2) ∧ decode cX11_free 186 = .ok (.istore 7, 2) ∧ decode cX11_free 188 = .ok (.iinc 8 1, 3) ∧ decode cX11_free 191 = .ok (.goto (-126), 3) ∧ decode cX11_free 194 = .ok (.iload_n 3, 1) ∧ decode cX11_free 195 = .ok (.lookupswitch 31 #[(0, 25), (1, 28)], 25) := by decide +kernel
theorem dX11_free_184 : decode cX11_free 184 = .ok (.iload 10, 2) := dGX11_127.1
theorem dX11_free_186 : decode cX11_free 186 = .ok (.istore 7, 2) := dGX11_127.2.1
theorem dX11_free_188 : decode cX11_free 188 = .ok (.iinc 8 1, 3) := dGX11_127.2.2.1
theorem dX11_free_191 : decode cX11_free 191 = .ok (.goto (-126), 3) := dGX11_127.2.2.2.1
theorem dX11_free_194 : decode cX11_free 194 = .ok (.iload_n 3, 1) := dGX11_127.2.2.2.2.1
theorem dX11_free_195 : decode cX11_free 195 = .ok (.lookupswitch 31 #[(0, 25), (1, 28)], 25) := dGX11_127.2.2.2.2.2
theorem dGX11_128 : decode cX11_free 220 = .ok (.iload 5, 2) ∧ decode cX11_free 222 = .ok (.ireturn, 1) ∧ decode cX11_free 223 = .ok (.iload 6, 2) ∧ decode cX11_free 225 = .ok (.ireturn, 1) ∧ decode cX11_free 226 = .ok (.iload 7, 2) ∧ decode cX11_free 228 = .ok (.ireturn, 1) := by decide +kernel
theorem dX11_free_220 : decode cX11_free 220 = .ok (.iload 5, 2) := dGX11_128.1
theorem dX11_free_222 : decode cX11_free 222 = .ok (.ireturn, 1) := dGX11_128.2.1
theorem dX11_free_223 : decode cX11_free 223 = .ok (.iload 6, 2) := dGX11_128.2.2.1
theorem dX11_free_225 : decode cX11_free 225 = .ok (.ireturn, 1) := dGX11_128.2.2.2.1
theorem dX11_free_226 : decode cX11_free 226 = .ok (.iload 7, 2) := dGX11_128.2.2.2.2.1
theorem dX11_free_228 : decode cX11_free 228 = .ok (.ireturn, 1) := dGX11_128.2.2.2.2.2
theorem dGX11_129 : decode cX11_worth 0 = .ok (.aload_n 0, 1) ∧ decode cX11_worth 1 = .ok (.iload_n 1, 1) ∧ decode cX11_worth 2 = .ok (.iload_n 2, 1) ∧ decode cX11_worth 3 = .ok (.invokevirtual 126, 3) ∧ decode cX11_worth 6 = .ok (.ifCond .eq 26, 3) ∧ decode cX11_worth 9 = .ok (.iload_n 3, 1) := by decide +kernel
theorem dX11_worth_0 : decode cX11_worth 0 = .ok (.aload_n 0, 1) := dGX11_129.1
theorem dX11_worth_1 : decode cX11_worth 1 = .ok (.iload_n 1, 1) := dGX11_129.2.1
theorem dX11_worth_2 : decode cX11_worth 2 = .ok (.iload_n 2, 1) := dGX11_129.2.2.1
theorem dX11_worth_3 : decode cX11_worth 3 = .ok (.invokevirtual 126, 3) := dGX11_129.2.2.2.1
theorem dX11_worth_6 : decode cX11_worth 6 = .ok (.ifCond .eq 26, 3) := dGX11_129.2.2.2.2.1
theorem dX11_worth_9 : decode cX11_worth 9 = .ok (.iload_n 3, 1) := dGX11_129.2.2.2.2.2
theorem dGX11_130 : decode cX11_worth 10 = .ok (.iconst 1, 1) ∧ decode cX11_worth 11 = .ok (.bipush 40, 2) ∧ decode cX11_worth 13 = .ok (.invokestatic 81, 3) ∧ decode cX11_worth 16 = .ok (.ifCond .eq 16, 3) ∧ decode cX11_worth 19 = .ok (.aload_n 0, 1) ∧ decode cX11_worth 20 = .ok (.getfield 10, 3) := by decide +kernel
theorem dX11_worth_10 : decode cX11_worth 10 = .ok (.iconst 1, 1) := dGX11_130.1
theorem dX11_worth_11 : decode cX11_worth 11 = .ok (.bipush 40, 2) := dGX11_130.2.1
theorem dX11_worth_13 : decode cX11_worth 13 = .ok (.invokestatic 81, 3) := dGX11_130.2.2.1
theorem dX11_worth_16 : decode cX11_worth 16 = .ok (.ifCond .eq 16, 3) := dGX11_130.2.2.2.1
theorem dX11_worth_19 : decode cX11_worth 19 = .ok (.aload_n 0, 1) := dGX11_130.2.2.2.2.1
theorem dX11_worth_20 : decode cX11_worth 20 = .ok (.getfield 10, 3) := dGX11_130.2.2.2.2.2
theorem dGX11_131 : decode cX11_worth 23 = .ok (.iload_n 1, 1) ∧ decode cX11_worth 24 = .ok (.iload_n 2, 1) ∧ decode cX11_worth 25 = .ok (.invokevirtual 130, 3) ∧ decode cX11_worth 28 = .ok (.iconst 1, 1) ∧ decode cX11_worth 29 = .ok (.if_icmp .ne 7, 3) ∧ decode cX11_worth 32 = .ok (.sipush (-10000), 3) := by decide +kernel
theorem dX11_worth_23 : decode cX11_worth 23 = .ok (.iload_n 1, 1) := dGX11_131.1
theorem dX11_worth_24 : decode cX11_worth 24 = .ok (.iload_n 2, 1) := dGX11_131.2.1
theorem dX11_worth_25 : decode cX11_worth 25 = .ok (.invokevirtual 130, 3) := dGX11_131.2.2.1
theorem dX11_worth_28 : decode cX11_worth 28 = .ok (.iconst 1, 1) := dGX11_131.2.2.2.1
theorem dX11_worth_29 : decode cX11_worth 29 = .ok (.if_icmp .ne 7, 3) := dGX11_131.2.2.2.2.1
theorem dX11_worth_32 : decode cX11_worth 32 = .ok (.sipush (-10000), 3) := dGX11_131.2.2.2.2.2
theorem dGX11_132 : decode cX11_worth 35 = .ok (.ireturn, 1) ∧ decode cX11_worth 36 = .ok (.aload_n 0, 1) ∧ decode cX11_worth 37 = .ok (.getfield 16, 3) ∧ decode cX11_worth 40 = .ok (.aload_n 0, 1) ∧ decode cX11_worth 41 = .ok (.getfield 10, 3) ∧ decode cX11_worth 44 = .ok (.invokevirtual 202, 3) := by decide +kernel
theorem dX11_worth_35 : decode cX11_worth 35 = .ok (.ireturn, 1) := dGX11_132.1
theorem dX11_worth_36 : decode cX11_worth 36 = .ok (.aload_n 0, 1) := dGX11_132.2.1
theorem dX11_worth_37 : decode cX11_worth 37 = .ok (.getfield 16, 3) := dGX11_132.2.2.1
theorem dX11_worth_40 : decode cX11_worth 40 = .ok (.aload_n 0, 1) := dGX11_132.2.2.2.1
theorem dX11_worth_41 : decode cX11_worth 41 = .ok (.getfield 10, 3) := dGX11_132.2.2.2.2.1
theorem dX11_worth_44 : decode cX11_worth 44 = .ok (.invokevirtual 202, 3) := dGX11_132.2.2.2.2.2
theorem dGX11_133 : decode cX11_worth 47 = .ok (.aload_n 0, 1) ∧ decode cX11_worth 48 = .ok (.getfield 16, 3) ∧ decode cX11_worth 51 = .ok (.aload_n 0, 1) ∧ decode cX11_worth 52 = .ok (.getfield 70, 3) ∧ decode cX11_worth 55 = .ok (.iload_n 3, 1) ∧ decode cX11_worth 56 = .ok (.invokevirtual 152, 3) := by decide +kernel
theorem dX11_worth_47 : decode cX11_worth 47 = .ok (.aload_n 0, 1) := dGX11_133.1
theorem dX11_worth_48 : decode cX11_worth 48 = .ok (.getfield 16, 3) := dGX11_133.2.1
theorem dX11_worth_51 : decode cX11_worth 51 = .ok (.aload_n 0, 1) := dGX11_133.2.2.1
theorem dX11_worth_52 : decode cX11_worth 52 = .ok (.getfield 70, 3) := dGX11_133.2.2.2.1
theorem dX11_worth_55 : decode cX11_worth 55 = .ok (.iload_n 3, 1) := dGX11_133.2.2.2.2.1
theorem dX11_worth_56 : decode cX11_worth 56 = .ok (.invokevirtual 152, 3) := dGX11_133.2.2.2.2.2
theorem dGX11_134 : decode cX11_worth 59 = .ok (.pop, 1) ∧ decode cX11_worth 60 = .ok (.aload_n 0, 1) ∧ decode cX11_worth 61 = .ok (.getfield 16, 3) ∧ decode cX11_worth 64 = .ok (.getfield 104, 3) ∧ decode cX11_worth 67 = .ok (.invokevirtual 210, 3) ∧ decode cX11_worth 70 = .ok (.istore 4, 2) := by decide +kernel
theorem dX11_worth_59 : decode cX11_worth 59 = .ok (.pop, 1) := dGX11_134.1
theorem dX11_worth_60 : decode cX11_worth 60 = .ok (.aload_n 0, 1) := dGX11_134.2.1
theorem dX11_worth_61 : decode cX11_worth 61 = .ok (.getfield 16, 3) := dGX11_134.2.2.1
theorem dX11_worth_64 : decode cX11_worth 64 = .ok (.getfield 104, 3) := dGX11_134.2.2.2.1
theorem dX11_worth_67 : decode cX11_worth 67 = .ok (.invokevirtual 210, 3) := dGX11_134.2.2.2.2.1
theorem dX11_worth_70 : decode cX11_worth 70 = .ok (.istore 4, 2) := dGX11_134.2.2.2.2.2
theorem dGX11_135 : decode cX11_worth 72 = .ok (.aload_n 0, 1) ∧ decode cX11_worth 73 = .ok (.getfield 16, 3) ∧ decode cX11_worth 76 = .ok (.aload_n 0, 1) ∧ decode cX11_worth 77 = .ok (.getfield 10, 3) ∧ decode cX11_worth 80 = .ok (.invokevirtual 202, 3) ∧ decode cX11_worth 83 = .ok (.aload_n 0, 1) := by decide +kernel
theorem dX11_worth_72 : decode cX11_worth 72 = .ok (.aload_n 0, 1) := dGX11_135.1
theorem dX11_worth_73 : decode cX11_worth 73 = .ok (.getfield 16, 3) := dGX11_135.2.1
theorem dX11_worth_76 : decode cX11_worth 76 = .ok (.aload_n 0, 1) := dGX11_135.2.2.1
theorem dX11_worth_77 : decode cX11_worth 77 = .ok (.getfield 10, 3) := dGX11_135.2.2.2.1
theorem dX11_worth_80 : decode cX11_worth 80 = .ok (.invokevirtual 202, 3) := dGX11_135.2.2.2.2.1
theorem dX11_worth_83 : decode cX11_worth 83 = .ok (.aload_n 0, 1) := dGX11_135.2.2.2.2.2
theorem dGX11_136 : decode cX11_worth 84 = .ok (.getfield 16, 3) ∧ decode cX11_worth 87 = .ok (.iload_n 1, 1) ∧ decode cX11_worth 88 = .ok (.iload_n 2, 1) ∧ decode cX11_worth 89 = .ok (.iconst 1, 1) ∧ decode cX11_worth 90 = .ok (.invokevirtual 133, 3) ∧ decode cX11_worth 93 = .ok (.aload_n 0, 1) := by decide +kernel
theorem dX11_worth_84 : decode cX11_worth 84 = .ok (.getfield 16, 3) := dGX11_136.1
theorem dX11_worth_87 : decode cX11_worth 87 = .ok (.iload_n 1, 1) := dGX11_136.2.1
theorem dX11_worth_88 : decode cX11_worth 88 = .ok (.iload_n 2, 1) := dGX11_136.2.2.1
theorem dX11_worth_89 : decode cX11_worth 89 = .ok (.iconst 1, 1) := dGX11_136.2.2.2.1
theorem dX11_worth_90 : decode cX11_worth 90 = .ok (.invokevirtual 133, 3) := dGX11_136.2.2.2.2.1
theorem dX11_worth_93 : decode cX11_worth 93 = .ok (.aload_n 0, 1) := dGX11_136.2.2.2.2.2
theorem dGX11_137 : decode cX11_worth 94 = .ok (.getfield 16, 3) ∧ decode cX11_worth 97 = .ok (.aload_n 0, 1) ∧ decode cX11_worth 98 = .ok (.getfield 70, 3) ∧ decode cX11_worth 101 = .ok (.iload_n 3, 1) ∧ decode cX11_worth 102 = .ok (.invokevirtual 152, 3) ∧ decode cX11_worth 105 = .ok (.pop, 1) := by decide +kernel
theorem dX11_worth_94 : decode cX11_worth 94 = .ok (.getfield 16, 3) := dGX11_137.1
theorem dX11_worth_97 : decode cX11_worth 97 = .ok (.aload_n 0, 1) := dGX11_137.2.1
theorem dX11_worth_98 : decode cX11_worth 98 = .ok (.getfield 70, 3) := dGX11_137.2.2.1
theorem dX11_worth_101 : decode cX11_worth 101 = .ok (.iload_n 3, 1) := dGX11_137.2.2.2.1
theorem dX11_worth_102 : decode cX11_worth 102 = .ok (.invokevirtual 152, 3) := dGX11_137.2.2.2.2.1
theorem dX11_worth_105 : decode cX11_worth 105 = .ok (.pop, 1) := dGX11_137.2.2.2.2.2
theorem dGX11_138 : decode cX11_worth 106 = .ok (.iload 4, 2) ∧ decode cX11_worth 108 = .ok (.aload_n 0, 1) ∧ decode cX11_worth 109 = .ok (.getfield 16, 3) ∧ decode cX11_worth 112 = .ok (.getfield 104, 3) ∧ decode cX11_worth 115 = .ok (.invokevirtual 210, 3) ∧ decode cX11_worth 118 = .ok (.isub, 1) := by decide +kernel
theorem dX11_worth_106 : decode cX11_worth 106 = .ok (.iload 4, 2) := dGX11_138.1
theorem dX11_worth_108 : decode cX11_worth 108 = .ok (.aload_n 0, 1) := dGX11_138.2.1
theorem dX11_worth_109 : decode cX11_worth 109 = .ok (.getfield 16, 3) := dGX11_138.2.2.1
theorem dX11_worth_112 : decode cX11_worth 112 = .ok (.getfield 104, 3) := dGX11_138.2.2.2.1
theorem dX11_worth_115 : decode cX11_worth 115 = .ok (.invokevirtual 210, 3) := dGX11_138.2.2.2.2.1
theorem dX11_worth_118 : decode cX11_worth 118 = .ok (.isub, 1) := dGX11_138.2.2.2.2.2
theorem dGX11_139 : decode cX11_worth 119 = .ok (.ireturn, 1) ∧ decode cX11_lent 0 = .ok (.aload_n 0, 1) ∧ decode cX11_lent 1 = .ok (.getfield 10, 3) ∧ decode cX11_lent 4 = .ok (.getfield 104, 3) ∧ decode cX11_lent 7 = .ok (.iload_n 2, 1) ∧ decode cX11_lent 8 = .ok (.invokevirtual 124, 3) := by decide +kernel
theorem dX11_worth_119 : decode cX11_worth 119 = .ok (.ireturn, 1) := dGX11_139.1
theorem dX11_lent_0 : decode cX11_lent 0 = .ok (.aload_n 0, 1) := dGX11_139.2.1
theorem dX11_lent_1 : decode cX11_lent 1 = .ok (.getfield 10, 3) := dGX11_139.2.2.1
theorem dX11_lent_4 : decode cX11_lent 4 = .ok (.getfield 104, 3) := dGX11_139.2.2.2.1
theorem dX11_lent_7 : decode cX11_lent 7 = .ok (.iload_n 2, 1) := dGX11_139.2.2.2.2.1
theorem dX11_lent_8 : decode cX11_lent 8 = .ok (.invokevirtual 124, 3) := dGX11_139.2.2.2.2.2
theorem dGX11_140 : decode cX11_lent 11 = .ok (.istore_n 3, 1) ∧ decode cX11_lent 12 = .ok (.iload_n 1, 1) ∧ decode cX11_lent 13 = .ok (.iconst 1, 1) ∧ decode cX11_lent 14 = .ok (.bipush 99, 2) ∧ decode cX11_lent 16 = .ok (.invokestatic 81, 3) ∧ decode cX11_lent 19 = .ok (.ifCond .eq 19, 3) := by decide +kernel
theorem dX11_lent_11 : decode cX11_lent 11 = .ok (.istore_n 3, 1) := dGX11_140.1
theorem dX11_lent_12 : decode cX11_lent 12 = .ok (.iload_n 1, 1) := dGX11_140.2.1
theorem dX11_lent_13 : decode cX11_lent 13 = .ok (.iconst 1, 1) := dGX11_140.2.2.1
theorem dX11_lent_14 : decode cX11_lent 14 = .ok (.bipush 99, 2) := dGX11_140.2.2.2.1
theorem dX11_lent_16 : decode cX11_lent 16 = .ok (.invokestatic 81, 3) := dGX11_140.2.2.2.2.1
theorem dX11_lent_19 : decode cX11_lent 19 = .ok (.ifCond .eq 19, 3) := dGX11_140.2.2.2.2.2
theorem dGX11_141 : decode cX11_lent 22 = .ok (.iload_n 2, 1) ∧ decode cX11_lent 23 = .ok (.bipush 10, 2) ∧ decode cX11_lent 25 = .ok (.if_icmp .eq 15, 3) ∧ decode cX11_lent 28 = .ok (.iload_n 2, 1) ∧ decode cX11_lent 29 = .ok (.bipush 11, 2) ∧ decode cX11_lent 31 = .ok (.if_icmp .eq 9, 3) := by decide +kernel
theorem dX11_lent_22 : decode cX11_lent 22 = .ok (.iload_n 2, 1) := dGX11_141.1
theorem dX11_lent_23 : decode cX11_lent 23 = .ok (.bipush 10, 2) := dGX11_141.2.1
theorem dX11_lent_25 : decode cX11_lent 25 = .ok (.if_icmp .eq 15, 3) := dGX11_141.2.2.1
theorem dX11_lent_28 : decode cX11_lent 28 = .ok (.iload_n 2, 1) := dGX11_141.2.2.2.1
theorem dX11_lent_29 : decode cX11_lent 29 = .ok (.bipush 11, 2) := dGX11_141.2.2.2.2.1
theorem dX11_lent_31 : decode cX11_lent 31 = .ok (.if_icmp .eq 9, 3) := dGX11_141.2.2.2.2.2
theorem dGX11_142 : decode cX11_lent 34 = .ok (.iload_n 3, 1) ∧ decode cX11_lent 35 = .ok (.ifCond .ne 5, 3) ∧ decode cX11_lent 38 = .ok (.iconst (-1), 1) ∧ decode cX11_lent 39 = .ok (.ireturn, 1) ∧ decode cX11_lent 40 = .ok (.aload_n 0, 1) ∧ decode cX11_lent 41 = .ok (.getfield 49, 3) := by decide +kernel
theorem dX11_lent_34 : decode cX11_lent 34 = .ok (.iload_n 3, 1) := dGX11_142.1
theorem dX11_lent_35 : decode cX11_lent 35 = .ok (.ifCond .ne 5, 3) := dGX11_142.2.1
theorem dX11_lent_38 : decode cX11_lent 38 = .ok (.iconst (-1), 1) := dGX11_142.2.2.1
theorem dX11_lent_39 : decode cX11_lent 39 = .ok (.ireturn, 1) := dGX11_142.2.2.2.1
theorem dX11_lent_40 : decode cX11_lent 40 = .ok (.aload_n 0, 1) := dGX11_142.2.2.2.2.1
theorem dX11_lent_41 : decode cX11_lent 41 = .ok (.getfield 49, 3) := dGX11_142.2.2.2.2.2
theorem dGX11_143 : decode cX11_lent 44 = .ok (.aload_n 0, 1) ∧ decode cX11_lent 45 = .ok (.getfield 10, 3) ∧ decode cX11_lent 48 = .ok (.iload_n 1, 1) ∧ decode cX11_lent 49 = .ok (.invokevirtual 250, 3) ∧ decode cX11_lent 52 = .ok (.iload_n 3, 1) ∧ decode cX11_lent 53 = .ok (.ifCond .eq 13, 3) := by decide +kernel
theorem dX11_lent_44 : decode cX11_lent 44 = .ok (.aload_n 0, 1) := dGX11_143.1
theorem dX11_lent_45 : decode cX11_lent 45 = .ok (.getfield 10, 3) := dGX11_143.2.1
theorem dX11_lent_48 : decode cX11_lent 48 = .ok (.iload_n 1, 1) := dGX11_143.2.2.1
theorem dX11_lent_49 : decode cX11_lent 49 = .ok (.invokevirtual 250, 3) := dGX11_143.2.2.2.1
theorem dX11_lent_52 : decode cX11_lent 52 = .ok (.iload_n 3, 1) := dGX11_143.2.2.2.2.1
theorem dX11_lent_53 : decode cX11_lent 53 = .ok (.ifCond .eq 13, 3) := dGX11_143.2.2.2.2.2
theorem dGX11_144 : decode cX11_lent 56 = .ok (.aload_n 0, 1) ∧ decode cX11_lent 57 = .ok (.getfield 49, 3) ∧ decode cX11_lent 60 = .ok (.getfield 254, 3) ∧ decode cX11_lent 63 = .ok (.iload_n 2, 1) ∧ decode cX11_lent 64 = .ok (.iaload, 1) ∧ decode cX11_lent 65 = .ok (.ireturn, 1) := by decide +kernel
theorem dX11_lent_56 : decode cX11_lent 56 = .ok (.aload_n 0, 1) := dGX11_144.1
theorem dX11_lent_57 : decode cX11_lent 57 = .ok (.getfield 49, 3) := dGX11_144.2.1
theorem dX11_lent_60 : decode cX11_lent 60 = .ok (.getfield 254, 3) := dGX11_144.2.2.1
theorem dX11_lent_63 : decode cX11_lent 63 = .ok (.iload_n 2, 1) := dGX11_144.2.2.2.1
theorem dX11_lent_64 : decode cX11_lent 64 = .ok (.iaload, 1) := dGX11_144.2.2.2.2.1
theorem dX11_lent_65 : decode cX11_lent 65 = .ok (.ireturn, 1) := dGX11_144.2.2.2.2.2
theorem dGX11_145 : decode cX11_lent 66 = .ok (.iload_n 2, 1) ∧ decode cX11_lent 67 = .ok (.bipush 11, 2) ∧ decode cX11_lent 69 = .ok (.if_icmp .ne 14, 3) ∧ decode cX11_lent 72 = .ok (.aload_n 0, 1) ∧ decode cX11_lent 73 = .ok (.getfield 49, 3) ∧ decode cX11_lent 76 = .ok (.aload_n 0, 1) := by decide +kernel
theorem dX11_lent_66 : decode cX11_lent 66 = .ok (.iload_n 2, 1) := dGX11_145.1
theorem dX11_lent_67 : decode cX11_lent 67 = .ok (.bipush 11, 2) := dGX11_145.2.1
theorem dX11_lent_69 : decode cX11_lent 69 = .ok (.if_icmp .ne 14, 3) := dGX11_145.2.2.1
theorem dX11_lent_72 : decode cX11_lent 72 = .ok (.aload_n 0, 1) := dGX11_145.2.2.2.1
theorem dX11_lent_73 : decode cX11_lent 73 = .ok (.getfield 49, 3) := dGX11_145.2.2.2.2.1
theorem dX11_lent_76 : decode cX11_lent 76 = .ok (.aload_n 0, 1) := dGX11_145.2.2.2.2.2
theorem dGX11_146 : decode cX11_lent 77 = .ok (.getfield 10, 3) ∧ decode cX11_lent 80 = .ok (.invokevirtual 257, 3) ∧ decode cX11_lent 83 = .ok (.aload_n 0, 1) ∧ decode cX11_lent 84 = .ok (.getfield 49, 3) ∧ decode cX11_lent 87 = .ok (.getfield 260, 3) ∧ decode cX11_lent 90 = .ok (.ireturn, 1) := by decide +kernel
theorem dX11_lent_77 : decode cX11_lent 77 = .ok (.getfield 10, 3) := dGX11_146.1
theorem dX11_lent_80 : decode cX11_lent 80 = .ok (.invokevirtual 257, 3) := dGX11_146.2.1
theorem dX11_lent_83 : decode cX11_lent 83 = .ok (.aload_n 0, 1) := dGX11_146.2.2.1
theorem dX11_lent_84 : decode cX11_lent 84 = .ok (.getfield 49, 3) := dGX11_146.2.2.2.1
theorem dX11_lent_87 : decode cX11_lent 87 = .ok (.getfield 260, 3) := dGX11_146.2.2.2.2.1
theorem dX11_lent_90 : decode cX11_lent 90 = .ok (.ireturn, 1) := dGX11_146.2.2.2.2.2
theorem dGX11_147 : decode cX11_letGo 0 = .ok (.aload_n 0, 1) ∧ decode cX11_letGo 1 = .ok (.getfield 10, 3) ∧ decode cX11_letGo 4 = .ok (.getfield 104, 3) ∧ decode cX11_letGo 7 = .ok (.getfield 263, 3) ∧ decode cX11_letGo 10 = .ok (.istore 4, 2) ∧ decode cX11_letGo 12 = .ok (.aload_n 0, 1) := by decide +kernel
theorem dX11_letGo_0 : decode cX11_letGo 0 = .ok (.aload_n 0, 1) := dGX11_147.1
theorem dX11_letGo_1 : decode cX11_letGo 1 = .ok (.getfield 10, 3) := dGX11_147.2.1
theorem dX11_letGo_4 : decode cX11_letGo 4 = .ok (.getfield 104, 3) := dGX11_147.2.2.1
theorem dX11_letGo_7 : decode cX11_letGo 7 = .ok (.getfield 263, 3) := dGX11_147.2.2.2.1
theorem dX11_letGo_10 : decode cX11_letGo 10 = .ok (.istore 4, 2) := dGX11_147.2.2.2.2.1
theorem dX11_letGo_12 : decode cX11_letGo 12 = .ok (.aload_n 0, 1) := dGX11_147.2.2.2.2.2
theorem dGX11_148 : decode cX11_letGo 13 = .ok (.getfield 10, 3) ∧ decode cX11_letGo 16 = .ok (.getfield 95, 3) ∧ decode cX11_letGo 19 = .ok (.iload_n 1, 1) ∧ decode cX11_letGo 20 = .ok (.invokevirtual 113, 3) ∧ decode cX11_letGo 23 = .ok (.ifCond .eq 39, 3) ∧ decode cX11_letGo 26 = .ok (.iload_n 2, 1) := by decide +kernel
theorem dX11_letGo_13 : decode cX11_letGo 13 = .ok (.getfield 10, 3) := dGX11_148.1
theorem dX11_letGo_16 : decode cX11_letGo 16 = .ok (.getfield 95, 3) := dGX11_148.2.1
theorem dX11_letGo_19 : decode cX11_letGo 19 = .ok (.iload_n 1, 1) := dGX11_148.2.2.1
theorem dX11_letGo_20 : decode cX11_letGo 20 = .ok (.invokevirtual 113, 3) := dGX11_148.2.2.2.1
theorem dX11_letGo_23 : decode cX11_letGo 23 = .ok (.ifCond .eq 39, 3) := dGX11_148.2.2.2.2.1
theorem dX11_letGo_26 : decode cX11_letGo 26 = .ok (.iload_n 2, 1) := dGX11_148.2.2.2.2.2
theorem dGX11_149 : decode cX11_letGo 27 = .ok (.iconst 1, 1) ∧ decode cX11_letGo 28 = .ok (.bipush 6, 2) ∧ decode cX11_letGo 30 = .ok (.invokestatic 81, 3) ∧ decode cX11_letGo 33 = .ok (.ifCond .eq 29, 3) ∧ decode cX11_letGo 36 = .ok (.iload_n 3, 1) ∧ decode cX11_letGo 37 = .ok (.iconst (-1), 1) := by decide +kernel
theorem dX11_letGo_27 : decode cX11_letGo 27 = .ok (.iconst 1, 1) := dGX11_149.1
theorem dX11_letGo_28 : decode cX11_letGo 28 = .ok (.bipush 6, 2) := dGX11_149.2.1
theorem dX11_letGo_30 : decode cX11_letGo 30 = .ok (.invokestatic 81, 3) := dGX11_149.2.2.1
theorem dX11_letGo_33 : decode cX11_letGo 33 = .ok (.ifCond .eq 29, 3) := dGX11_149.2.2.2.1
theorem dX11_letGo_36 : decode cX11_letGo 36 = .ok (.iload_n 3, 1) := dGX11_149.2.2.2.2.1
theorem dX11_letGo_37 : decode cX11_letGo 37 = .ok (.iconst (-1), 1) := dGX11_149.2.2.2.2.2
theorem dGX11_150 : decode cX11_letGo 38 = .ok (.iconst 1, 1) ∧ decode cX11_letGo 39 = .ok (.invokestatic 81, 3) ∧ decode cX11_letGo 42 = .ok (.ifCond .eq 20, 3) ∧ decode cX11_letGo 45 = .ok (.iload 4, 2) ∧ decode cX11_letGo 47 = .ok (.ifCond .eq 15, 3) ∧ decode cX11_letGo 50 = .ok (.aload_n 0, 1) := by decide +kernel
theorem dX11_letGo_38 : decode cX11_letGo 38 = .ok (.iconst 1, 1) := dGX11_150.1
theorem dX11_letGo_39 : decode cX11_letGo 39 = .ok (.invokestatic 81, 3) := dGX11_150.2.1
theorem dX11_letGo_42 : decode cX11_letGo 42 = .ok (.ifCond .eq 20, 3) := dGX11_150.2.2.1
theorem dX11_letGo_45 : decode cX11_letGo 45 = .ok (.iload 4, 2) := dGX11_150.2.2.2.1
theorem dX11_letGo_47 : decode cX11_letGo 47 = .ok (.ifCond .eq 15, 3) := dGX11_150.2.2.2.2.1
theorem dX11_letGo_50 : decode cX11_letGo 50 = .ok (.aload_n 0, 1) := dGX11_150.2.2.2.2.2
theorem dGX11_151 : decode cX11_letGo 51 = .ok (.getfield 25, 3) ∧ decode cX11_letGo 54 = .ok (.getfield 140, 3) ∧ decode cX11_letGo 57 = .ok (.iload 4, 2) ∧ decode cX11_letGo 59 = .ok (.if_icmp .ge 5, 3) ∧ decode cX11_letGo 62 = .ok (.iconst (-1), 1) ∧ decode cX11_letGo 63 = .ok (.ireturn, 1) := by decide +kernel
theorem dX11_letGo_51 : decode cX11_letGo 51 = .ok (.getfield 25, 3) := dGX11_151.1
theorem dX11_letGo_54 : decode cX11_letGo 54 = .ok (.getfield 140, 3) := dGX11_151.2.1
theorem dX11_letGo_57 : decode cX11_letGo 57 = .ok (.iload 4, 2) := dGX11_151.2.2.1
theorem dX11_letGo_59 : decode cX11_letGo 59 = .ok (.if_icmp .ge 5, 3) := dGX11_151.2.2.2.1
theorem dX11_letGo_62 : decode cX11_letGo 62 = .ok (.iconst (-1), 1) := dGX11_151.2.2.2.2.1
theorem dX11_letGo_63 : decode cX11_letGo 63 = .ok (.ireturn, 1) := dGX11_151.2.2.2.2.2
theorem dGX11_152 : decode cX11_letGo 64 = .ok (.iconst 0, 1) ∧ decode cX11_letGo 65 = .ok (.istore 5, 2) ∧ decode cX11_letGo 67 = .ok (.iconst (-1), 1) ∧ decode cX11_letGo 68 = .ok (.istore 6, 2) ∧ decode cX11_letGo 70 = .ok (.iconst 0, 1) ∧ decode cX11_letGo 71 = .ok (.istore 7, 2) := by decide +kernel
theorem dX11_letGo_64 : decode cX11_letGo 64 = .ok (.iconst 0, 1) := dGX11_152.1
theorem dX11_letGo_65 : decode cX11_letGo 65 = .ok (.istore 5, 2) := dGX11_152.2.1
theorem dX11_letGo_67 : decode cX11_letGo 67 = .ok (.iconst (-1), 1) := dGX11_152.2.2.1
theorem dX11_letGo_68 : decode cX11_letGo 68 = .ok (.istore 6, 2) := dGX11_152.2.2.2.1
theorem dX11_letGo_70 : decode cX11_letGo 70 = .ok (.iconst 0, 1) := dGX11_152.2.2.2.2.1
theorem dX11_letGo_71 : decode cX11_letGo 71 = .ok (.istore 7, 2) := dGX11_152.2.2.2.2.2
theorem dGX11_153 : decode cX11_letGo 73 = .ok (.iload 7, 2) ∧ decode cX11_letGo 75 = .ok (.bipush 110, 2) ∧ decode cX11_letGo 77 = .ok (.if_icmp .ge 66, 3) ∧ decode cX11_letGo 80 = .ok (.iload 7, 2) ∧ decode cX11_letGo 82 = .ok (.bipush 11, 2) ∧ decode cX11_letGo 84 = .ok (.irem, 1) := by decide +kernel
theorem dX11_letGo_73 : decode cX11_letGo 73 = .ok (.iload 7, 2) := dGX11_153.1
theorem dX11_letGo_75 : decode cX11_letGo 75 = .ok (.bipush 110, 2) := dGX11_153.2.1
theorem dX11_letGo_77 : decode cX11_letGo 77 = .ok (.if_icmp .ge 66, 3) := dGX11_153.2.2.1
theorem dX11_letGo_80 : decode cX11_letGo 80 = .ok (.iload 7, 2) := dGX11_153.2.2.2.1
theorem dX11_letGo_82 : decode cX11_letGo 82 = .ok (.bipush 11, 2) := dGX11_153.2.2.2.2.1
theorem dX11_letGo_84 : decode cX11_letGo 84 = .ok (.irem, 1) := dGX11_153.2.2.2.2.2
theorem dGX11_154 : decode cX11_letGo 85 = .ok (.istore 8, 2) ∧ decode cX11_letGo 87 = .ok (.iload 8, 2) ∧ decode cX11_letGo 89 = .ok (.bipush 10, 2) ∧ decode cX11_letGo 91 = .ok (.if_icmp .eq 18, 3) ∧ decode cX11_letGo 94 = .ok (.aload_n 0, 1) ∧ decode cX11_letGo 95 = .ok (.getfield 10, 3) := by decide +kernel
theorem dX11_letGo_85 : decode cX11_letGo 85 = .ok (.istore 8, 2) := dGX11_154.1
theorem dX11_letGo_87 : decode cX11_letGo 87 = .ok (.iload 8, 2) := dGX11_154.2.1
theorem dX11_letGo_89 : decode cX11_letGo 89 = .ok (.bipush 10, 2) := dGX11_154.2.2.1
theorem dX11_letGo_91 : decode cX11_letGo 91 = .ok (.if_icmp .eq 18, 3) := dGX11_154.2.2.2.1
theorem dX11_letGo_94 : decode cX11_letGo 94 = .ok (.aload_n 0, 1) := dGX11_154.2.2.2.2.1
theorem dX11_letGo_95 : decode cX11_letGo 95 = .ok (.getfield 10, 3) := dGX11_154.2.2.2.2.2
theorem dGX11_155 : decode cX11_letGo 98 = .ok (.getfield 85, 3) ∧ decode cX11_letGo 101 = .ok (.iload 8, 2) ∧ decode cX11_letGo 103 = .ok (.invokevirtual 159, 3) ∧ decode cX11_letGo 106 = .ok (.ifCond .eq 31, 3) ∧ decode cX11_letGo 109 = .ok (.aload_n 0, 1) ∧ decode cX11_letGo 110 = .ok (.iload_n 1, 1) := by decide +kernel
theorem dX11_letGo_98 : decode cX11_letGo 98 = .ok (.getfield 85, 3) := dGX11_155.1
theorem dX11_letGo_101 : decode cX11_letGo 101 = .ok (.iload 8, 2) := dGX11_155.2.1
theorem dX11_letGo_103 : decode cX11_letGo 103 = .ok (.invokevirtual 159, 3) := dGX11_155.2.2.1
theorem dX11_letGo_106 : decode cX11_letGo 106 = .ok (.ifCond .eq 31, 3) := dGX11_155.2.2.2.1
theorem dX11_letGo_109 : decode cX11_letGo 109 = .ok (.aload_n 0, 1) := dGX11_155.2.2.2.2.1
theorem dX11_letGo_110 : decode cX11_letGo 110 = .ok (.iload_n 1, 1) := dGX11_155.2.2.2.2.2
theorem dGX11_156 : decode cX11_letGo 111 = .ok (.iload 7, 2) ∧ decode cX11_letGo 113 = .ok (.iload_n 2, 1) ∧ decode cX11_letGo 114 = .ok (.invokevirtual 266, 3) ∧ decode cX11_letGo 117 = .ok (.ifCond .eq 20, 3) ∧ decode cX11_letGo 120 = .ok (.iload 5, 2) ∧ decode cX11_letGo 122 = .ok (.ifCond .ne 8, 3) := by decide +kernel
theorem dX11_letGo_111 : decode cX11_letGo 111 = .ok (.iload 7, 2) := dGX11_156.1
theorem dX11_letGo_113 : decode cX11_letGo 113 = .ok (.iload_n 2, 1) := dGX11_156.2.1
theorem dX11_letGo_114 : decode cX11_letGo 114 = .ok (.invokevirtual 266, 3) := dGX11_156.2.2.1
theorem dX11_letGo_117 : decode cX11_letGo 117 = .ok (.ifCond .eq 20, 3) := dGX11_156.2.2.2.1
theorem dX11_letGo_120 : decode cX11_letGo 120 = .ok (.iload 5, 2) := dGX11_156.2.2.2.2.1
theorem dX11_letGo_122 : decode cX11_letGo 122 = .ok (.ifCond .ne 8, 3) := dGX11_156.2.2.2.2.2
theorem dGX11_157 : decode cX11_letGo 125 = .ok (.iload 7, 2) ∧ decode cX11_letGo 127 = .ok (.goto 5, 3) ∧ decode cX11_letGo 130 = .ok (.iload 6, 2) ∧ decode cX11_letGo 132 = .ok (.istore 6, 2) ∧ decode cX11_letGo 134 = .ok (.iinc 5 1, 3) ∧ decode cX11_letGo 137 = .ok (.iinc 7 1, 3) := by decide +kernel
theorem dX11_letGo_125 : decode cX11_letGo 125 = .ok (.iload 7, 2) := dGX11_157.1
theorem dX11_letGo_127 : decode cX11_letGo 127 = .ok (.goto 5, 3) := dGX11_157.2.1
theorem dX11_letGo_130 : decode cX11_letGo 130 = .ok (.iload 6, 2) := dGX11_157.2.2.1
theorem dX11_letGo_132 : decode cX11_letGo 132 = .ok (.istore 6, 2) := dGX11_157.2.2.2.1
theorem dX11_letGo_134 : decode cX11_letGo 134 = .ok (.iinc 5 1, 3) := dGX11_157.2.2.2.2.1
theorem dX11_letGo_137 : decode cX11_letGo 137 = .ok (.iinc 7 1, 3) := dGX11_157.2.2.2.2.2
theorem dGX11_158 : decode cX11_letGo 140 = .ok (.goto (-67), 3) ∧ decode cX11_letGo 143 = .ok (.aload_n 0, 1) ∧ decode cX11_letGo 144 = .ok (.getfield 25, 3) ∧ decode cX11_letGo 147 = .ok (.iconst 0, 1) ∧ decode cX11_letGo 148 = .ok (.putfield 140, 3) ∧ decode cX11_letGo 151 = .ok (.iload_n 3, 1) := by decide +kernel
theorem dX11_letGo_140 : decode cX11_letGo 140 = .ok (.goto (-67), 3) := dGX11_158.1
theorem dX11_letGo_143 : decode cX11_letGo 143 = .ok (.aload_n 0, 1) := dGX11_158.2.1
theorem dX11_letGo_144 : decode cX11_letGo 144 = .ok (.getfield 25, 3) := dGX11_158.2.2.1
theorem dX11_letGo_147 : decode cX11_letGo 147 = .ok (.iconst 0, 1) := dGX11_158.2.2.2.1
theorem dX11_letGo_148 : decode cX11_letGo 148 = .ok (.putfield 140, 3) := dGX11_158.2.2.2.2.1
theorem dX11_letGo_151 : decode cX11_letGo 151 = .ok (.iload_n 3, 1) := dGX11_158.2.2.2.2.2
theorem dGX11_159 : decode cX11_letGo 152 = .ok (.iconst (-1), 1) ∧ decode cX11_letGo 153 = .ok (.if_icmp .ne 6, 3) ∧ decode cX11_letGo 156 = .ok (.iload 5, 2) ∧ decode cX11_letGo 158 = .ok (.ireturn, 1) ∧ decode cX11_letGo 159 = .ok (.iload 5, 2) ∧ decode cX11_letGo 161 = .ok (.ifCond .ne 6, 3) := by decide +kernel
theorem dX11_letGo_152 : decode cX11_letGo 152 = .ok (.iconst (-1), 1) := dGX11_159.1
theorem dX11_letGo_153 : decode cX11_letGo 153 = .ok (.if_icmp .ne 6, 3) := dGX11_159.2.1
theorem dX11_letGo_156 : decode cX11_letGo 156 = .ok (.iload 5, 2) := dGX11_159.2.2.1
theorem dX11_letGo_158 : decode cX11_letGo 158 = .ok (.ireturn, 1) := dGX11_159.2.2.2.1
theorem dX11_letGo_159 : decode cX11_letGo 159 = .ok (.iload 5, 2) := dGX11_159.2.2.2.2.1
theorem dX11_letGo_161 : decode cX11_letGo 161 = .ok (.ifCond .ne 6, 3) := dGX11_159.2.2.2.2.2
theorem dGX11_160 : decode cX11_letGo 164 = .ok (.bipush (-2), 2) ∧ decode cX11_letGo 166 = .ok (.ireturn, 1) ∧ decode cX11_letGo 167 = .ok (.iload_n 3, 1) ∧ decode cX11_letGo 168 = .ok (.ifCond .ne 11, 3) ∧ decode cX11_letGo 171 = .ok (.iload 6, 2) ∧ decode cX11_letGo 173 = .ok (.bipush 11, 2) := by decide +kernel
theorem dX11_letGo_164 : decode cX11_letGo 164 = .ok (.bipush (-2), 2) := dGX11_160.1
theorem dX11_letGo_166 : decode cX11_letGo 166 = .ok (.ireturn, 1) := dGX11_160.2.1
theorem dX11_letGo_167 : decode cX11_letGo 167 = .ok (.iload_n 3, 1) := dGX11_160.2.2.1
theorem dX11_letGo_168 : decode cX11_letGo 168 = .ok (.ifCond .ne 11, 3) := dGX11_160.2.2.2.1
theorem dX11_letGo_171 : decode cX11_letGo 171 = .ok (.iload 6, 2) := dGX11_160.2.2.2.2.1
theorem dX11_letGo_173 : decode cX11_letGo 173 = .ok (.bipush 11, 2) := dGX11_160.2.2.2.2.2
theorem dGX11_161 : decode cX11_letGo 175 = .ok (.idiv, 1) ∧ decode cX11_letGo 176 = .ok (.goto 8, 3) ∧ decode cX11_letGo 179 = .ok (.iload 6, 2) ∧ decode cX11_letGo 181 = .ok (.bipush 11, 2) ∧ decode cX11_letGo 183 = .ok (.irem, 1) ∧ decode cX11_letGo 184 = .ok (.ireturn, 1) := by decide +kernel
theorem dX11_letGo_175 : decode cX11_letGo 175 = .ok (.idiv, 1) := dGX11_161.1
theorem dX11_letGo_176 : decode cX11_letGo 176 = .ok (.goto 8, 3) := dGX11_161.2.1
theorem dX11_letGo_179 : decode cX11_letGo 179 = .ok (.iload 6, 2) := dGX11_161.2.2.1
theorem dX11_letGo_181 : decode cX11_letGo 181 = .ok (.bipush 11, 2) := dGX11_161.2.2.2.1
theorem dX11_letGo_183 : decode cX11_letGo 183 = .ok (.irem, 1) := dGX11_161.2.2.2.2.1
theorem dX11_letGo_184 : decode cX11_letGo 184 = .ok (.ireturn, 1) := dGX11_161.2.2.2.2.2
theorem dGX11_162 : decode cX11_settled 0 = .ok (.iload_n 1, 1) ∧ decode cX11_settled 1 = .ok (.iconst 0, 1) ∧ decode cX11_settled 2 = .ok (.iconst 1, 1) ∧ decode cX11_settled 3 = .ok (.invokestatic 81, 3) ∧ decode cX11_settled 6 = .ok (.ifCond .ne 5, 3) ∧ decode cX11_settled 9 = .ok (.iconst (-1), 1) := by decide +kernel
theorem dX11_settled_0 : decode cX11_settled 0 = .ok (.iload_n 1, 1) := dGX11_162.1
theorem dX11_settled_1 : decode cX11_settled 1 = .ok (.iconst 0, 1) := dGX11_162.2.1
theorem dX11_settled_2 : decode cX11_settled 2 = .ok (.iconst 1, 1) := dGX11_162.2.2.1
theorem dX11_settled_3 : decode cX11_settled 3 = .ok (.invokestatic 81, 3) := dGX11_162.2.2.2.1
theorem dX11_settled_6 : decode cX11_settled 6 = .ok (.ifCond .ne 5, 3) := dGX11_162.2.2.2.2.1
theorem dX11_settled_9 : decode cX11_settled 9 = .ok (.iconst (-1), 1) := dGX11_162.2.2.2.2.2
theorem dGX11_163 : decode cX11_settled 10 = .ok (.ireturn, 1) ∧ decode cX11_settled 11 = .ok (.aload_n 0, 1) ∧ decode cX11_settled 12 = .ok (.getfield 56, 3) ∧ decode cX11_settled 15 = .ok (.aload_n 0, 1) ∧ decode cX11_settled 16 = .ok (.getfield 10, 3) ∧ decode cX11_settled 19 = .ok (.invokevirtual 269, 3) := by decide +kernel
theorem dX11_settled_10 : decode cX11_settled 10 = .ok (.ireturn, 1) := dGX11_163.1
theorem dX11_settled_11 : decode cX11_settled 11 = .ok (.aload_n 0, 1) := dGX11_163.2.1
theorem dX11_settled_12 : decode cX11_settled 12 = .ok (.getfield 56, 3) := dGX11_163.2.2.1
theorem dX11_settled_15 : decode cX11_settled 15 = .ok (.aload_n 0, 1) := dGX11_163.2.2.2.1
theorem dX11_settled_16 : decode cX11_settled 16 = .ok (.getfield 10, 3) := dGX11_163.2.2.2.2.1
theorem dX11_settled_19 : decode cX11_settled 19 = .ok (.invokevirtual 269, 3) := dGX11_163.2.2.2.2.2
theorem dGX11_164 : decode cX11_settled 22 = .ok (.ifCond .ne 6, 3) ∧ decode cX11_settled 25 = .ok (.bipush (-2), 2) ∧ decode cX11_settled 27 = .ok (.ireturn, 1) ∧ decode cX11_settled 28 = .ok (.aload_n 0, 1) ∧ decode cX11_settled 29 = .ok (.getfield 56, 3) ∧ decode cX11_settled 32 = .ok (.invokevirtual 273, 3) := by decide +kernel
theorem dX11_settled_22 : decode cX11_settled 22 = .ok (.ifCond .ne 6, 3) := dGX11_164.1
theorem dX11_settled_25 : decode cX11_settled 25 = .ok (.bipush (-2), 2) := dGX11_164.2.1
theorem dX11_settled_27 : decode cX11_settled 27 = .ok (.ireturn, 1) := dGX11_164.2.2.1
theorem dX11_settled_28 : decode cX11_settled 28 = .ok (.aload_n 0, 1) := dGX11_164.2.2.2.1
theorem dX11_settled_29 : decode cX11_settled 29 = .ok (.getfield 56, 3) := dGX11_164.2.2.2.2.1
theorem dX11_settled_32 : decode cX11_settled 32 = .ok (.invokevirtual 273, 3) := dGX11_164.2.2.2.2.2
theorem dGX11_165 : decode cX11_settled 35 = .ok (.istore_n 2, 1) ∧ decode cX11_settled 36 = .ok (.iload_n 1, 1) ∧ decode cX11_settled 37 = .ok (.ifCond .ne 15, 3) ∧ decode cX11_settled 40 = .ok (.aload_n 0, 1) ∧ decode cX11_settled 41 = .ok (.getfield 56, 3) ∧ decode cX11_settled 44 = .ok (.getfield 276, 3) := by decide +kernel
theorem dX11_settled_35 : decode cX11_settled 35 = .ok (.istore_n 2, 1) := dGX11_165.1
theorem dX11_settled_36 : decode cX11_settled 36 = .ok (.iload_n 1, 1) := dGX11_165.2.1
theorem dX11_settled_37 : decode cX11_settled 37 = .ok (.ifCond .ne 15, 3) := dGX11_165.2.2.1
theorem dX11_settled_40 : decode cX11_settled 40 = .ok (.aload_n 0, 1) := dGX11_165.2.2.2.1
theorem dX11_settled_41 : decode cX11_settled 41 = .ok (.getfield 56, 3) := dGX11_165.2.2.2.2.1
theorem dX11_settled_44 : decode cX11_settled 44 = .ok (.getfield 276, 3) := dGX11_165.2.2.2.2.2
theorem dGX11_166 : decode cX11_settled 47 = .ok (.iload_n 2, 1) ∧ decode cX11_settled 48 = .ok (.isub, 1) ∧ decode cX11_settled 49 = .ok (.goto 4, 3) ∧ decode cX11_settled 52 = .ok (.iload_n 2, 1) ∧ decode cX11_settled 53 = .ok (.ireturn, 1) ∧ decode cX11_owes 0 = .ok (.aload_n 0, 1) := by decide +kernel
theorem dX11_settled_47 : decode cX11_settled 47 = .ok (.iload_n 2, 1) := dGX11_166.1
theorem dX11_settled_48 : decode cX11_settled 48 = .ok (.isub, 1) := dGX11_166.2.1
theorem dX11_settled_49 : decode cX11_settled 49 = .ok (.goto 4, 3) := dGX11_166.2.2.1
theorem dX11_settled_52 : decode cX11_settled 52 = .ok (.iload_n 2, 1) := dGX11_166.2.2.2.1
theorem dX11_settled_53 : decode cX11_settled 53 = .ok (.ireturn, 1) := dGX11_166.2.2.2.2.1
theorem dX11_owes_0 : decode cX11_owes 0 = .ok (.aload_n 0, 1) := dGX11_166.2.2.2.2.2
theorem dGX11_167 : decode cX11_owes 1 = .ok (.getfield 10, 3) ∧ decode cX11_owes 4 = .ok (.getfield 95, 3) ∧ decode cX11_owes 7 = .ok (.iload_n 1, 1) ∧ decode cX11_owes 8 = .ok (.invokevirtual 113, 3) ∧ decode cX11_owes 11 = .ok (.ifCond .eq 26, 3) ∧ decode cX11_owes 14 = .ok (.aload_n 0, 1) := by decide +kernel
theorem dX11_owes_1 : decode cX11_owes 1 = .ok (.getfield 10, 3) := dGX11_167.1
theorem dX11_owes_4 : decode cX11_owes 4 = .ok (.getfield 95, 3) := dGX11_167.2.1
theorem dX11_owes_7 : decode cX11_owes 7 = .ok (.iload_n 1, 1) := dGX11_167.2.2.1
theorem dX11_owes_8 : decode cX11_owes 8 = .ok (.invokevirtual 113, 3) := dGX11_167.2.2.2.1
theorem dX11_owes_11 : decode cX11_owes 11 = .ok (.ifCond .eq 26, 3) := dGX11_167.2.2.2.2.1
theorem dX11_owes_14 : decode cX11_owes 14 = .ok (.aload_n 0, 1) := dGX11_167.2.2.2.2.2
theorem dGX11_168 : decode cX11_owes 15 = .ok (.getfield 10, 3) ∧ decode cX11_owes 18 = .ok (.getfield 104, 3) ∧ decode cX11_owes 21 = .ok (.iload_n 2, 1) ∧ decode cX11_owes 22 = .ok (.invokevirtual 124, 3) ∧ decode cX11_owes 25 = .ok (.ifCond .eq 12, 3) ∧ decode cX11_owes 28 = .ok (.iload_n 3, 1) := by decide +kernel
theorem dX11_owes_15 : decode cX11_owes 15 = .ok (.getfield 10, 3) := dGX11_168.1
theorem dX11_owes_18 : decode cX11_owes 18 = .ok (.getfield 104, 3) := dGX11_168.2.1
theorem dX11_owes_21 : decode cX11_owes 21 = .ok (.iload_n 2, 1) := dGX11_168.2.2.1
theorem dX11_owes_22 : decode cX11_owes 22 = .ok (.invokevirtual 124, 3) := dGX11_168.2.2.2.1
theorem dX11_owes_25 : decode cX11_owes 25 = .ok (.ifCond .eq 12, 3) := dGX11_168.2.2.2.2.1
theorem dX11_owes_28 : decode cX11_owes 28 = .ok (.iload_n 3, 1) := dGX11_168.2.2.2.2.2
theorem dGX11_169 : decode cX11_owes 29 = .ok (.iconst 0, 1) ∧ decode cX11_owes 30 = .ok (.iconst 1, 1) ∧ decode cX11_owes 31 = .ok (.invokestatic 81, 3) ∧ decode cX11_owes 34 = .ok (.ifCond .ne 5, 3) ∧ decode cX11_owes 37 = .ok (.iconst (-1), 1) ∧ decode cX11_owes 38 = .ok (.ireturn, 1) := by decide +kernel
theorem dX11_owes_29 : decode cX11_owes 29 = .ok (.iconst 0, 1) := dGX11_169.1
theorem dX11_owes_30 : decode cX11_owes 30 = .ok (.iconst 1, 1) := dGX11_169.2.1
theorem dX11_owes_31 : decode cX11_owes 31 = .ok (.invokestatic 81, 3) := dGX11_169.2.2.1
theorem dX11_owes_34 : decode cX11_owes 34 = .ok (.ifCond .ne 5, 3) := dGX11_169.2.2.2.1
theorem dX11_owes_37 : decode cX11_owes 37 = .ok (.iconst (-1), 1) := dGX11_169.2.2.2.2.1
theorem dX11_owes_38 : decode cX11_owes 38 = .ok (.ireturn, 1) := dGX11_169.2.2.2.2.2
theorem dGX11_170 : decode cX11_owes 39 = .ok (.iload_n 1, 1) ∧ decode cX11_owes 40 = .ok (.bipush 8, 2) ∧ decode cX11_owes 42 = .ok (.imul, 1) ∧ decode cX11_owes 43 = .ok (.iload_n 2, 1) ∧ decode cX11_owes 44 = .ok (.iadd, 1) ∧ decode cX11_owes 45 = .ok (.istore 4, 2) := by decide +kernel
theorem dX11_owes_39 : decode cX11_owes 39 = .ok (.iload_n 1, 1) := dGX11_170.1
theorem dX11_owes_40 : decode cX11_owes 40 = .ok (.bipush 8, 2) := dGX11_170.2.1
theorem dX11_owes_42 : decode cX11_owes 42 = .ok (.imul, 1) := dGX11_170.2.2.1
theorem dX11_owes_43 : decode cX11_owes 43 = .ok (.iload_n 2, 1) := dGX11_170.2.2.2.1
theorem dX11_owes_44 : decode cX11_owes 44 = .ok (.iadd, 1) := dGX11_170.2.2.2.2.1
theorem dX11_owes_45 : decode cX11_owes 45 = .ok (.istore 4, 2) := dGX11_170.2.2.2.2.2
theorem dGX11_171 : decode cX11_owes 47 = .ok (.iload_n 3, 1) ∧ decode cX11_owes 48 = .ok (.ifCond .ne 16, 3) ∧ decode cX11_owes 51 = .ok (.aload_n 0, 1) ∧ decode cX11_owes 52 = .ok (.getfield 10, 3) ∧ decode cX11_owes 55 = .ok (.getfield 277, 3) ∧ decode cX11_owes 58 = .ok (.iload 4, 2) := by decide +kernel
theorem dX11_owes_47 : decode cX11_owes 47 = .ok (.iload_n 3, 1) := dGX11_171.1
theorem dX11_owes_48 : decode cX11_owes 48 = .ok (.ifCond .ne 16, 3) := dGX11_171.2.1
theorem dX11_owes_51 : decode cX11_owes 51 = .ok (.aload_n 0, 1) := dGX11_171.2.2.1
theorem dX11_owes_52 : decode cX11_owes 52 = .ok (.getfield 10, 3) := dGX11_171.2.2.2.1
theorem dX11_owes_55 : decode cX11_owes 55 = .ok (.getfield 277, 3) := dGX11_171.2.2.2.2.1
theorem dX11_owes_58 : decode cX11_owes 58 = .ok (.iload 4, 2) := dGX11_171.2.2.2.2.2
theorem dGX11_172 : decode cX11_owes 60 = .ok (.iaload, 1) ∧ decode cX11_owes 61 = .ok (.goto 13, 3) ∧ decode cX11_owes 64 = .ok (.aload_n 0, 1) ∧ decode cX11_owes 65 = .ok (.getfield 10, 3) ∧ decode cX11_owes 68 = .ok (.getfield 280, 3) ∧ decode cX11_owes 71 = .ok (.iload 4, 2) := by decide +kernel
theorem dX11_owes_60 : decode cX11_owes 60 = .ok (.iaload, 1) := dGX11_172.1
theorem dX11_owes_61 : decode cX11_owes 61 = .ok (.goto 13, 3) := dGX11_172.2.1
theorem dX11_owes_64 : decode cX11_owes 64 = .ok (.aload_n 0, 1) := dGX11_172.2.2.1
theorem dX11_owes_65 : decode cX11_owes 65 = .ok (.getfield 10, 3) := dGX11_172.2.2.2.1
theorem dX11_owes_68 : decode cX11_owes 68 = .ok (.getfield 280, 3) := dGX11_172.2.2.2.2.1
theorem dX11_owes_71 : decode cX11_owes 71 = .ok (.iload 4, 2) := dGX11_172.2.2.2.2.2
theorem dGX11_173 : decode cX11_owes 73 = .ok (.iaload, 1) ∧ decode cX11_owes 74 = .ok (.ireturn, 1) ∧ decode cX11_teachers 0 = .ok (.aload_n 0, 1) ∧ decode cX11_teachers 1 = .ok (.getfield 10, 3) ∧ decode cX11_teachers 4 = .ok (.getfield 95, 3) ∧ decode cX11_teachers 7 = .ok (.iload_n 1, 1) := by decide +kernel
theorem dX11_owes_73 : decode cX11_owes 73 = .ok (.iaload, 1) := dGX11_173.1
theorem dX11_owes_74 : decode cX11_owes 74 = .ok (.ireturn, 1) := dGX11_173.2.1
theorem dX11_teachers_0 : decode cX11_teachers 0 = .ok (.aload_n 0, 1) := dGX11_173.2.2.1
theorem dX11_teachers_1 : decode cX11_teachers 1 = .ok (.getfield 10, 3) := dGX11_173.2.2.2.1
theorem dX11_teachers_4 : decode cX11_teachers 4 = .ok (.getfield 95, 3) := dGX11_173.2.2.2.2.1
theorem dX11_teachers_7 : decode cX11_teachers 7 = .ok (.iload_n 1, 1) := dGX11_173.2.2.2.2.2
theorem dGX11_174 : decode cX11_teachers 8 = .ok (.invokevirtual 113, 3) ∧ decode cX11_teachers 11 = .ok (.ifCond .eq 14, 3) ∧ decode cX11_teachers 14 = .ok (.aload_n 0, 1) ∧ decode cX11_teachers 15 = .ok (.getfield 10, 3) ∧ decode cX11_teachers 18 = .ok (.iload_n 1, 1) ∧ decode cX11_teachers 19 = .ok (.invokevirtual 283, 3) := by decide +kernel
theorem dX11_teachers_8 : decode cX11_teachers 8 = .ok (.invokevirtual 113, 3) := dGX11_174.1
theorem dX11_teachers_11 : decode cX11_teachers 11 = .ok (.ifCond .eq 14, 3) := dGX11_174.2.1
theorem dX11_teachers_14 : decode cX11_teachers 14 = .ok (.aload_n 0, 1) := dGX11_174.2.2.1
theorem dX11_teachers_15 : decode cX11_teachers 15 = .ok (.getfield 10, 3) := dGX11_174.2.2.2.1
theorem dX11_teachers_18 : decode cX11_teachers 18 = .ok (.iload_n 1, 1) := dGX11_174.2.2.2.2.1
theorem dX11_teachers_19 : decode cX11_teachers 19 = .ok (.invokevirtual 283, 3) := dGX11_174.2.2.2.2.2
theorem dGX11_175 : decode cX11_teachers 22 = .ok (.goto 4, 3) ∧ decode cX11_teachers 25 = .ok (.iconst (-1), 1) ∧ decode cX11_teachers 26 = .ok (.ireturn, 1) ∧ decode cX11_chain 0 = .ok (.aload_n 0, 1) ∧ decode cX11_chain 1 = .ok (.getfield 10, 3) ∧ decode cX11_chain 4 = .ok (.getfield 104, 3) := by decide +kernel
theorem dX11_teachers_22 : decode cX11_teachers 22 = .ok (.goto 4, 3) := dGX11_175.1
theorem dX11_teachers_25 : decode cX11_teachers 25 = .ok (.iconst (-1), 1) := dGX11_175.2.1
theorem dX11_teachers_26 : decode cX11_teachers 26 = .ok (.ireturn, 1) := dGX11_175.2.2.1
theorem dX11_chain_0 : decode cX11_chain 0 = .ok (.aload_n 0, 1) := dGX11_175.2.2.2.1
theorem dX11_chain_1 : decode cX11_chain 1 = .ok (.getfield 10, 3) := dGX11_175.2.2.2.2.1
theorem dX11_chain_4 : decode cX11_chain 4 = .ok (.getfield 104, 3) := dGX11_175.2.2.2.2.2
theorem dGX11_176 : decode cX11_chain 7 = .ok (.iload_n 1, 1) ∧ decode cX11_chain 8 = .ok (.invokevirtual 124, 3) ∧ decode cX11_chain 11 = .ok (.ifCond .eq 27, 3) ∧ decode cX11_chain 14 = .ok (.aload_n 0, 1) ∧ decode cX11_chain 15 = .ok (.getfield 10, 3) ∧ decode cX11_chain 18 = .ok (.getfield 104, 3) := by decide +kernel
theorem dX11_chain_7 : decode cX11_chain 7 = .ok (.iload_n 1, 1) := dGX11_176.1
theorem dX11_chain_8 : decode cX11_chain 8 = .ok (.invokevirtual 124, 3) := dGX11_176.2.1
theorem dX11_chain_11 : decode cX11_chain 11 = .ok (.ifCond .eq 27, 3) := dGX11_176.2.2.1
theorem dX11_chain_14 : decode cX11_chain 14 = .ok (.aload_n 0, 1) := dGX11_176.2.2.2.1
theorem dX11_chain_15 : decode cX11_chain 15 = .ok (.getfield 10, 3) := dGX11_176.2.2.2.2.1
theorem dX11_chain_18 : decode cX11_chain 18 = .ok (.getfield 104, 3) := dGX11_176.2.2.2.2.2
theorem dGX11_177 : decode cX11_chain 21 = .ok (.iload_n 2, 1) ∧ decode cX11_chain 22 = .ok (.invokevirtual 124, 3) ∧ decode cX11_chain 25 = .ok (.ifCond .eq 13, 3) ∧ decode cX11_chain 28 = .ok (.iload_n 3, 1) ∧ decode cX11_chain 29 = .ok (.iconst (-1), 1) ∧ decode cX11_chain 30 = .ok (.bipush 7, 2) := by decide +kernel
theorem dX11_chain_21 : decode cX11_chain 21 = .ok (.iload_n 2, 1) := dGX11_177.1
theorem dX11_chain_22 : decode cX11_chain 22 = .ok (.invokevirtual 124, 3) := dGX11_177.2.1
theorem dX11_chain_25 : decode cX11_chain 25 = .ok (.ifCond .eq 13, 3) := dGX11_177.2.2.1
theorem dX11_chain_28 : decode cX11_chain 28 = .ok (.iload_n 3, 1) := dGX11_177.2.2.2.1
theorem dX11_chain_29 : decode cX11_chain 29 = .ok (.iconst (-1), 1) := dGX11_177.2.2.2.2.1
theorem dX11_chain_30 : decode cX11_chain 30 = .ok (.bipush 7, 2) := dGX11_177.2.2.2.2.2
theorem dGX11_178 : decode cX11_chain 32 = .ok (.invokestatic 81, 3) ∧ decode cX11_chain 35 = .ok (.ifCond .ne 6, 3) ∧ decode cX11_chain 38 = .ok (.bipush (-3), 2) ∧ decode cX11_chain 40 = .ok (.ireturn, 1) ∧ decode cX11_chain 41 = .ok (.aload_n 0, 1) ∧ decode cX11_chain 42 = .ok (.getfield 63, 3) := by decide +kernel
theorem dX11_chain_32 : decode cX11_chain 32 = .ok (.invokestatic 81, 3) := dGX11_178.1
theorem dX11_chain_35 : decode cX11_chain 35 = .ok (.ifCond .ne 6, 3) := dGX11_178.2.1
theorem dX11_chain_38 : decode cX11_chain 38 = .ok (.bipush (-3), 2) := dGX11_178.2.2.1
theorem dX11_chain_40 : decode cX11_chain 40 = .ok (.ireturn, 1) := dGX11_178.2.2.2.1
theorem dX11_chain_41 : decode cX11_chain 41 = .ok (.aload_n 0, 1) := dGX11_178.2.2.2.2.1
theorem dX11_chain_42 : decode cX11_chain 42 = .ok (.getfield 63, 3) := dGX11_178.2.2.2.2.2
theorem dGX11_179 : decode cX11_chain 45 = .ok (.aload_n 0, 1) ∧ decode cX11_chain 46 = .ok (.getfield 10, 3) ∧ decode cX11_chain 49 = .ok (.iload_n 1, 1) ∧ decode cX11_chain 50 = .ok (.iload_n 2, 1) ∧ decode cX11_chain 51 = .ok (.invokevirtual 286, 3) ∧ decode cX11_chain 54 = .ok (.ifCond .ne 6, 3) := by decide +kernel
theorem dX11_chain_45 : decode cX11_chain 45 = .ok (.aload_n 0, 1) := dGX11_179.1
theorem dX11_chain_46 : decode cX11_chain 46 = .ok (.getfield 10, 3) := dGX11_179.2.1
theorem dX11_chain_49 : decode cX11_chain 49 = .ok (.iload_n 1, 1) := dGX11_179.2.2.1
theorem dX11_chain_50 : decode cX11_chain 50 = .ok (.iload_n 2, 1) := dGX11_179.2.2.2.1
theorem dX11_chain_51 : decode cX11_chain 51 = .ok (.invokevirtual 286, 3) := dGX11_179.2.2.2.2.1
theorem dX11_chain_54 : decode cX11_chain 54 = .ok (.ifCond .ne 6, 3) := dGX11_179.2.2.2.2.2
theorem dGX11_180 : decode cX11_chain 57 = .ok (.bipush (-2), 2) ∧ decode cX11_chain 59 = .ok (.ireturn, 1) ∧ decode cX11_chain 60 = .ok (.iload_n 3, 1) ∧ decode cX11_chain 61 = .ok (.iconst (-1), 1) ∧ decode cX11_chain 62 = .ok (.if_icmp .ne 11, 3) ∧ decode cX11_chain 65 = .ok (.aload_n 0, 1) := by decide +kernel
theorem dX11_chain_57 : decode cX11_chain 57 = .ok (.bipush (-2), 2) := dGX11_180.1
theorem dX11_chain_59 : decode cX11_chain 59 = .ok (.ireturn, 1) := dGX11_180.2.1
theorem dX11_chain_60 : decode cX11_chain 60 = .ok (.iload_n 3, 1) := dGX11_180.2.2.1
theorem dX11_chain_61 : decode cX11_chain 61 = .ok (.iconst (-1), 1) := dGX11_180.2.2.2.1
theorem dX11_chain_62 : decode cX11_chain 62 = .ok (.if_icmp .ne 11, 3) := dGX11_180.2.2.2.2.1
theorem dX11_chain_65 : decode cX11_chain 65 = .ok (.aload_n 0, 1) := dGX11_180.2.2.2.2.2
theorem dGX11_181 : decode cX11_chain 66 = .ok (.getfield 63, 3) ∧ decode cX11_chain 69 = .ok (.getfield 289, 3) ∧ decode cX11_chain 72 = .ok (.ireturn, 1) ∧ decode cX11_chain 73 = .ok (.iload_n 3, 1) ∧ decode cX11_chain 74 = .ok (.aload_n 0, 1) ∧ decode cX11_chain 75 = .ok (.getfield 63, 3) := by decide +kernel
theorem dX11_chain_66 : decode cX11_chain 66 = .ok (.getfield 63, 3) := dGX11_181.1
theorem dX11_chain_69 : decode cX11_chain 69 = .ok (.getfield 289, 3) := dGX11_181.2.1
theorem dX11_chain_72 : decode cX11_chain 72 = .ok (.ireturn, 1) := dGX11_181.2.2.1
theorem dX11_chain_73 : decode cX11_chain 73 = .ok (.iload_n 3, 1) := dGX11_181.2.2.2.1
theorem dX11_chain_74 : decode cX11_chain 74 = .ok (.aload_n 0, 1) := dGX11_181.2.2.2.2.1
theorem dX11_chain_75 : decode cX11_chain 75 = .ok (.getfield 63, 3) := dGX11_181.2.2.2.2.2
theorem dGX11_182 : decode cX11_chain 78 = .ok (.getfield 289, 3) ∧ decode cX11_chain 81 = .ok (.if_icmp .ge 15, 3) ∧ decode cX11_chain 84 = .ok (.aload_n 0, 1) ∧ decode cX11_chain 85 = .ok (.getfield 63, 3) ∧ decode cX11_chain 88 = .ok (.getfield 290, 3) ∧ decode cX11_chain 91 = .ok (.iload_n 3, 1) := by decide +kernel
theorem dX11_chain_78 : decode cX11_chain 78 = .ok (.getfield 289, 3) := dGX11_182.1
theorem dX11_chain_81 : decode cX11_chain 81 = .ok (.if_icmp .ge 15, 3) := dGX11_182.2.1
theorem dX11_chain_84 : decode cX11_chain 84 = .ok (.aload_n 0, 1) := dGX11_182.2.2.1
theorem dX11_chain_85 : decode cX11_chain 85 = .ok (.getfield 63, 3) := dGX11_182.2.2.2.1
theorem dX11_chain_88 : decode cX11_chain 88 = .ok (.getfield 290, 3) := dGX11_182.2.2.2.2.1
theorem dX11_chain_91 : decode cX11_chain 91 = .ok (.iload_n 3, 1) := dGX11_182.2.2.2.2.2
theorem dGX11_183 : decode cX11_chain 92 = .ok (.iaload, 1) ∧ decode cX11_chain 93 = .ok (.goto 5, 3) ∧ decode cX11_chain 96 = .ok (.bipush (-3), 2) ∧ decode cX11_chain 98 = .ok (.ireturn, 1) ∧ decode cX11_odds 0 = .ok (.aload_n 0, 1) ∧ decode cX11_odds 1 = .ok (.getfield 10, 3) := by decide +kernel
theorem dX11_chain_92 : decode cX11_chain 92 = .ok (.iaload, 1) := dGX11_183.1
theorem dX11_chain_93 : decode cX11_chain 93 = .ok (.goto 5, 3) := dGX11_183.2.1
theorem dX11_chain_96 : decode cX11_chain 96 = .ok (.bipush (-3), 2) := dGX11_183.2.2.1
theorem dX11_chain_98 : decode cX11_chain 98 = .ok (.ireturn, 1) := dGX11_183.2.2.2.1
theorem dX11_odds_0 : decode cX11_odds 0 = .ok (.aload_n 0, 1) := dGX11_183.2.2.2.2.1
theorem dX11_odds_1 : decode cX11_odds 1 = .ok (.getfield 10, 3) := dGX11_183.2.2.2.2.2
theorem dGX11_184 : decode cX11_odds 4 = .ok (.getfield 104, 3) ∧ decode cX11_odds 7 = .ok (.iload_n 1, 1) ∧ decode cX11_odds 8 = .ok (.invokevirtual 124, 3) ∧ decode cX11_odds 11 = .ok (.ifCond .eq 33, 3) ∧ decode cX11_odds 14 = .ok (.iload_n 2, 1) ∧ decode cX11_odds 15 = .ok (.iconst 1, 1) := by decide +kernel
theorem dX11_odds_4 : decode cX11_odds 4 = .ok (.getfield 104, 3) := dGX11_184.1
theorem dX11_odds_7 : decode cX11_odds 7 = .ok (.iload_n 1, 1) := dGX11_184.2.1
theorem dX11_odds_8 : decode cX11_odds 8 = .ok (.invokevirtual 124, 3) := dGX11_184.2.2.1
theorem dX11_odds_11 : decode cX11_odds 11 = .ok (.ifCond .eq 33, 3) := dGX11_184.2.2.2.1
theorem dX11_odds_14 : decode cX11_odds 14 = .ok (.iload_n 2, 1) := dGX11_184.2.2.2.2.1
theorem dX11_odds_15 : decode cX11_odds 15 = .ok (.iconst 1, 1) := dGX11_184.2.2.2.2.2
theorem dGX11_185 : decode cX11_odds 16 = .ok (.iconst 3, 1) ∧ decode cX11_odds 17 = .ok (.invokestatic 81, 3) ∧ decode cX11_odds 20 = .ok (.ifCond .eq 24, 3) ∧ decode cX11_odds 23 = .ok (.iload_n 3, 1) ∧ decode cX11_odds 24 = .ok (.iconst 0, 1) ∧ decode cX11_odds 25 = .ok (.sipush 999, 3) := by decide +kernel
theorem dX11_odds_16 : decode cX11_odds 16 = .ok (.iconst 3, 1) := dGX11_185.1
theorem dX11_odds_17 : decode cX11_odds 17 = .ok (.invokestatic 81, 3) := dGX11_185.2.1
theorem dX11_odds_20 : decode cX11_odds 20 = .ok (.ifCond .eq 24, 3) := dGX11_185.2.2.1
theorem dX11_odds_23 : decode cX11_odds 23 = .ok (.iload_n 3, 1) := dGX11_185.2.2.2.1
theorem dX11_odds_24 : decode cX11_odds 24 = .ok (.iconst 0, 1) := dGX11_185.2.2.2.2.1
theorem dX11_odds_25 : decode cX11_odds 25 = .ok (.sipush 999, 3) := dGX11_185.2.2.2.2.2
theorem dGX11_186 : decode cX11_odds 28 = .ok (.invokestatic 81, 3) ∧ decode cX11_odds 31 = .ok (.ifCond .eq 13, 3) ∧ decode cX11_odds 34 = .ok (.iload 4, 2) ∧ decode cX11_odds 36 = .ok (.iconst 0, 1) ∧ decode cX11_odds 37 = .ok (.iconst 1, 1) ∧ decode cX11_odds 38 = .ok (.invokestatic 81, 3) := by decide +kernel
theorem dX11_odds_28 : decode cX11_odds 28 = .ok (.invokestatic 81, 3) := dGX11_186.1
theorem dX11_odds_31 : decode cX11_odds 31 = .ok (.ifCond .eq 13, 3) := dGX11_186.2.1
theorem dX11_odds_34 : decode cX11_odds 34 = .ok (.iload 4, 2) := dGX11_186.2.2.1
theorem dX11_odds_36 : decode cX11_odds 36 = .ok (.iconst 0, 1) := dGX11_186.2.2.2.1
theorem dX11_odds_37 : decode cX11_odds 37 = .ok (.iconst 1, 1) := dGX11_186.2.2.2.2.1
theorem dX11_odds_38 : decode cX11_odds 38 = .ok (.invokestatic 81, 3) := dGX11_186.2.2.2.2.2
theorem dGX11_187 : decode cX11_odds 41 = .ok (.ifCond .ne 5, 3) ∧ decode cX11_odds 44 = .ok (.iconst (-1), 1) ∧ decode cX11_odds 45 = .ok (.ireturn, 1) ∧ decode cX11_odds 46 = .ok (.iconst 1, 1) ∧ decode cX11_odds 47 = .ok (.istore 5, 2) ∧ decode cX11_odds 49 = .ok (.iconst 0, 1) := by decide +kernel
theorem dX11_odds_41 : decode cX11_odds 41 = .ok (.ifCond .ne 5, 3) := dGX11_187.1
theorem dX11_odds_44 : decode cX11_odds 44 = .ok (.iconst (-1), 1) := dGX11_187.2.1
theorem dX11_odds_45 : decode cX11_odds 45 = .ok (.ireturn, 1) := dGX11_187.2.2.1
theorem dX11_odds_46 : decode cX11_odds 46 = .ok (.iconst 1, 1) := dGX11_187.2.2.2.1
theorem dX11_odds_47 : decode cX11_odds 47 = .ok (.istore 5, 2) := dGX11_187.2.2.2.2.1
theorem dX11_odds_49 : decode cX11_odds 49 = .ok (.iconst 0, 1) := dGX11_187.2.2.2.2.2
theorem dGX11_188 : decode cX11_odds 50 = .ok (.istore 6, 2) ∧ decode cX11_odds 52 = .ok (.iload 6, 2) ∧ decode cX11_odds 54 = .ok (.iload_n 2, 1) ∧ decode cX11_odds 55 = .ok (.if_icmp .ge 16, 3) ∧ decode cX11_odds 58 = .ok (.iload 5, 2) ∧ decode cX11_odds 60 = .ok (.bipush 10, 2) := by decide +kernel
theorem dX11_odds_50 : decode cX11_odds 50 = .ok (.istore 6, 2) := dGX11_188.1
theorem dX11_odds_52 : decode cX11_odds 52 = .ok (.iload 6, 2) := dGX11_188.2.1
theorem dX11_odds_54 : decode cX11_odds 54 = .ok (.iload_n 2, 1) := dGX11_188.2.2.1
theorem dX11_odds_55 : decode cX11_odds 55 = .ok (.if_icmp .ge 16, 3) := dGX11_188.2.2.2.1
theorem dX11_odds_58 : decode cX11_odds 58 = .ok (.iload 5, 2) := dGX11_188.2.2.2.2.1
theorem dX11_odds_60 : decode cX11_odds 60 = .ok (.bipush 10, 2) := dGX11_188.2.2.2.2.2
theorem dGX11_189 : decode cX11_odds 62 = .ok (.imul, 1) ∧ decode cX11_odds 63 = .ok (.istore 5, 2) ∧ decode cX11_odds 65 = .ok (.iinc 6 1, 3) ∧ decode cX11_odds 68 = .ok (.goto (-16), 3) ∧ decode cX11_odds 71 = .ok (.iconst 0, 1) ∧ decode cX11_odds 72 = .ok (.istore 6, 2) := by decide +kernel
theorem dX11_odds_62 : decode cX11_odds 62 = .ok (.imul, 1) := dGX11_189.1
theorem dX11_odds_63 : decode cX11_odds 63 = .ok (.istore 5, 2) := dGX11_189.2.1
theorem dX11_odds_65 : decode cX11_odds 65 = .ok (.iinc 6 1, 3) := dGX11_189.2.2.1
theorem dX11_odds_68 : decode cX11_odds 68 = .ok (.goto (-16), 3) := dGX11_189.2.2.2.1
theorem dX11_odds_71 : decode cX11_odds 71 = .ok (.iconst 0, 1) := dGX11_189.2.2.2.2.1
theorem dX11_odds_72 : decode cX11_odds 72 = .ok (.istore 6, 2) := dGX11_189.2.2.2.2.2
theorem dGX11_190 : decode cX11_odds 74 = .ok (.iconst 0, 1) ∧ decode cX11_odds 75 = .ok (.istore 7, 2) ∧ decode cX11_odds 77 = .ok (.iload 7, 2) ∧ decode cX11_odds 79 = .ok (.iload 5, 2) ∧ decode cX11_odds 81 = .ok (.if_icmp .ge 24, 3) ∧ decode cX11_odds 84 = .ok (.aload_n 0, 1) := by decide +kernel
theorem dX11_odds_74 : decode cX11_odds 74 = .ok (.iconst 0, 1) := dGX11_190.1
theorem dX11_odds_75 : decode cX11_odds 75 = .ok (.istore 7, 2) := dGX11_190.2.1
theorem dX11_odds_77 : decode cX11_odds 77 = .ok (.iload 7, 2) := dGX11_190.2.2.1
theorem dX11_odds_79 : decode cX11_odds 79 = .ok (.iload 5, 2) := dGX11_190.2.2.2.1
theorem dX11_odds_81 : decode cX11_odds 81 = .ok (.if_icmp .ge 24, 3) := dGX11_190.2.2.2.2.1
theorem dX11_odds_84 : decode cX11_odds 84 = .ok (.aload_n 0, 1) := dGX11_190.2.2.2.2.2
theorem dGX11_191 : decode cX11_odds 85 = .ok (.iload_n 1, 1) ∧ decode cX11_odds 86 = .ok (.iload_n 2, 1) ∧ decode cX11_odds 87 = .ok (.iload 7, 2) ∧ decode cX11_odds 89 = .ok (.invokevirtual 293, 3) ∧ decode cX11_odds 92 = .ok (.iload_n 3, 1) ∧ decode cX11_odds 93 = .ok (.if_icmp .lt 6, 3) := by decide +kernel
theorem dX11_odds_85 : decode cX11_odds 85 = .ok (.iload_n 1, 1) := dGX11_191.1
theorem dX11_odds_86 : decode cX11_odds 86 = .ok (.iload_n 2, 1) := dGX11_191.2.1
theorem dX11_odds_87 : decode cX11_odds 87 = .ok (.iload 7, 2) := dGX11_191.2.2.1
theorem dX11_odds_89 : decode cX11_odds 89 = .ok (.invokevirtual 293, 3) := dGX11_191.2.2.2.1
theorem dX11_odds_92 : decode cX11_odds 92 = .ok (.iload_n 3, 1) := dGX11_191.2.2.2.2.1
theorem dX11_odds_93 : decode cX11_odds 93 = .ok (.if_icmp .lt 6, 3) := dGX11_191.2.2.2.2.2
theorem dGX11_192 : decode cX11_odds 96 = .ok (.iinc 6 1, 3) ∧ decode cX11_odds 99 = .ok (.iinc 7 1, 3) ∧ decode cX11_odds 102 = .ok (.goto (-25), 3) ∧ decode cX11_odds 105 = .ok (.iload 6, 2) ∧ decode cX11_odds 107 = .ok (.iload 5, 2) ∧ decode cX11_odds 109 = .ok (.invokestatic 296, 3) := by decide +kernel
theorem dX11_odds_96 : decode cX11_odds 96 = .ok (.iinc 6 1, 3) := dGX11_192.1
theorem dX11_odds_99 : decode cX11_odds 99 = .ok (.iinc 7 1, 3) := dGX11_192.2.1
theorem dX11_odds_102 : decode cX11_odds 102 = .ok (.goto (-25), 3) := dGX11_192.2.2.1
theorem dX11_odds_105 : decode cX11_odds 105 = .ok (.iload 6, 2) := dGX11_192.2.2.2.1
theorem dX11_odds_107 : decode cX11_odds 107 = .ok (.iload 5, 2) := dGX11_192.2.2.2.2.1
theorem dX11_odds_109 : decode cX11_odds 109 = .ok (.invokestatic 296, 3) := dGX11_192.2.2.2.2.2
theorem dGX11_193 : decode cX11_odds 112 = .ok (.istore 7, 2) ∧ decode cX11_odds 114 = .ok (.iload 7, 2) ∧ decode cX11_odds 116 = .ok (.ifCond .ne 5, 3) ∧ decode cX11_odds 119 = .ok (.iconst (-1), 1) ∧ decode cX11_odds 120 = .ok (.ireturn, 1) ∧ decode cX11_odds 121 = .ok (.iload 4, 2) := by decide +kernel
theorem dX11_odds_112 : decode cX11_odds 112 = .ok (.istore 7, 2) := dGX11_193.1
theorem dX11_odds_114 : decode cX11_odds 114 = .ok (.iload 7, 2) := dGX11_193.2.1
theorem dX11_odds_116 : decode cX11_odds 116 = .ok (.ifCond .ne 5, 3) := dGX11_193.2.2.1
theorem dX11_odds_119 : decode cX11_odds 119 = .ok (.iconst (-1), 1) := dGX11_193.2.2.2.1
theorem dX11_odds_120 : decode cX11_odds 120 = .ok (.ireturn, 1) := dGX11_193.2.2.2.2.1
theorem dX11_odds_121 : decode cX11_odds 121 = .ok (.iload 4, 2) := dGX11_193.2.2.2.2.2
theorem dGX11_194 : decode cX11_odds 123 = .ok (.ifCond .ne 11, 3) ∧ decode cX11_odds 126 = .ok (.iload 6, 2) ∧ decode cX11_odds 128 = .ok (.iload 7, 2) ∧ decode cX11_odds 130 = .ok (.idiv, 1) ∧ decode cX11_odds 131 = .ok (.goto 8, 3) ∧ decode cX11_odds 134 = .ok (.iload 5, 2) := by decide +kernel
theorem dX11_odds_123 : decode cX11_odds 123 = .ok (.ifCond .ne 11, 3) := dGX11_194.1
theorem dX11_odds_126 : decode cX11_odds 126 = .ok (.iload 6, 2) := dGX11_194.2.1
theorem dX11_odds_128 : decode cX11_odds 128 = .ok (.iload 7, 2) := dGX11_194.2.2.1
theorem dX11_odds_130 : decode cX11_odds 130 = .ok (.idiv, 1) := dGX11_194.2.2.2.1
theorem dX11_odds_131 : decode cX11_odds 131 = .ok (.goto 8, 3) := dGX11_194.2.2.2.2.1
theorem dX11_odds_134 : decode cX11_odds 134 = .ok (.iload 5, 2) := dGX11_194.2.2.2.2.2
theorem dGX11_195 : decode cX11_odds 136 = .ok (.iload 7, 2) ∧ decode cX11_odds 138 = .ok (.idiv, 1) ∧ decode cX11_odds 139 = .ok (.ireturn, 1) ∧ decode cX11_seed 0 = .ok (.iload_n 1, 1) ∧ decode cX11_seed 1 = .ok (.iconst 0, 1) ∧ decode cX11_seed 2 = .ok (.ldc_w 299, 3) := by decide +kernel
theorem dX11_odds_136 : decode cX11_odds 136 = .ok (.iload 7, 2) := dGX11_195.1
theorem dX11_odds_138 : decode cX11_odds 138 = .ok (.idiv, 1) := dGX11_195.2.1
theorem dX11_odds_139 : decode cX11_odds 139 = .ok (.ireturn, 1) := dGX11_195.2.2.1
theorem dX11_seed_0 : decode cX11_seed 0 = .ok (.iload_n 1, 1) := dGX11_195.2.2.2.1
theorem dX11_seed_1 : decode cX11_seed 1 = .ok (.iconst 0, 1) := dGX11_195.2.2.2.2.1
theorem dX11_seed_2 : decode cX11_seed 2 = .ok (.ldc_w 299, 3) := dGX11_195.2.2.2.2.2
theorem dGX11_196 : decode cX11_seed 5 = .ok (.invokestatic 81, 3) ∧ decode cX11_seed 8 = .ok (.ifCond .ne 5, 3) ∧ decode cX11_seed 11 = .ok (.iconst 0, 1) ∧ decode cX11_seed 12 = .ok (.ireturn, 1) ∧ decode cX11_seed 13 = .ok (.aload_n 0, 1) ∧ decode cX11_seed 14 = .ok (.getfield 10, 3) := by decide +kernel
theorem dX11_seed_5 : decode cX11_seed 5 = .ok (.invokestatic 81, 3) := dGX11_196.1
theorem dX11_seed_8 : decode cX11_seed 8 = .ok (.ifCond .ne 5, 3) := dGX11_196.2.1
theorem dX11_seed_11 : decode cX11_seed 11 = .ok (.iconst 0, 1) := dGX11_196.2.2.1
theorem dX11_seed_12 : decode cX11_seed 12 = .ok (.ireturn, 1) := dGX11_196.2.2.2.1
theorem dX11_seed_13 : decode cX11_seed 13 = .ok (.aload_n 0, 1) := dGX11_196.2.2.2.2.1
theorem dX11_seed_14 : decode cX11_seed 14 = .ok (.getfield 10, 3) := dGX11_196.2.2.2.2.2
theorem dGX11_197 : decode cX11_seed 17 = .ok (.iload_n 1, 1) ∧ decode cX11_seed 18 = .ok (.putfield 300, 3) ∧ decode cX11_seed 21 = .ok (.iconst 1, 1) ∧ decode cX11_seed 22 = .ok (.ireturn, 1) ∧ decode cX11_keep 0 = .ok (.aload_n 0, 1) ∧ decode cX11_keep 1 = .ok (.getfield 19, 3) := by decide +kernel
theorem dX11_seed_17 : decode cX11_seed 17 = .ok (.iload_n 1, 1) := dGX11_197.1
theorem dX11_seed_18 : decode cX11_seed 18 = .ok (.putfield 300, 3) := dGX11_197.2.1
theorem dX11_seed_21 : decode cX11_seed 21 = .ok (.iconst 1, 1) := dGX11_197.2.2.1
theorem dX11_seed_22 : decode cX11_seed 22 = .ok (.ireturn, 1) := dGX11_197.2.2.2.1
theorem dX11_keep_0 : decode cX11_keep 0 = .ok (.aload_n 0, 1) := dGX11_197.2.2.2.2.1
theorem dX11_keep_1 : decode cX11_keep 1 = .ok (.getfield 19, 3) := dGX11_197.2.2.2.2.2
theorem dGX11_198 : decode cX11_keep 4 = .ok (.aload_n 0, 1) ∧ decode cX11_keep 5 = .ok (.getfield 10, 3) ∧ decode cX11_keep 8 = .ok (.invokevirtual 202, 3) ∧ decode cX11_keep 11 = .ok (.aload_n 0, 1) ∧ decode cX11_keep 12 = .ok (.getfield 29, 3) ∧ decode cX11_keep 15 = .ok (.aload_n 0, 1) := by decide +kernel
theorem dX11_keep_4 : decode cX11_keep 4 = .ok (.aload_n 0, 1) := dGX11_198.1
theorem dX11_keep_5 : decode cX11_keep 5 = .ok (.getfield 10, 3) := dGX11_198.2.1
theorem dX11_keep_8 : decode cX11_keep 8 = .ok (.invokevirtual 202, 3) := dGX11_198.2.2.1
theorem dX11_keep_11 : decode cX11_keep 11 = .ok (.aload_n 0, 1) := dGX11_198.2.2.2.1
theorem dX11_keep_12 : decode cX11_keep 12 = .ok (.getfield 29, 3) := dGX11_198.2.2.2.2.1
theorem dX11_keep_15 : decode cX11_keep 15 = .ok (.aload_n 0, 1) := dGX11_198.2.2.2.2.2
theorem dGX11_199 : decode cX11_keep 16 = .ok (.getfield 25, 3) ∧ decode cX11_keep 19 = .ok (.invokevirtual 303, 3) ∧ decode cX11_keep 22 = .ok (.aload_n 0, 1) ∧ decode cX11_keep 23 = .ok (.iconst 1, 1) ∧ decode cX11_keep 24 = .ok (.putfield 77, 3) ∧ decode cX11_keep 27 = .ok (.aload_n 0, 1) := by decide +kernel
theorem dX11_keep_16 : decode cX11_keep 16 = .ok (.getfield 25, 3) := dGX11_199.1
theorem dX11_keep_19 : decode cX11_keep 19 = .ok (.invokevirtual 303, 3) := dGX11_199.2.1
theorem dX11_keep_22 : decode cX11_keep 22 = .ok (.aload_n 0, 1) := dGX11_199.2.2.1
theorem dX11_keep_23 : decode cX11_keep 23 = .ok (.iconst 1, 1) := dGX11_199.2.2.2.1
theorem dX11_keep_24 : decode cX11_keep 24 = .ok (.putfield 77, 3) := dGX11_199.2.2.2.2.1
theorem dX11_keep_27 : decode cX11_keep 27 = .ok (.aload_n 0, 1) := dGX11_199.2.2.2.2.2
theorem dGX11_200 : decode cX11_keep 28 = .ok (.getfield 10, 3) ∧ decode cX11_keep 31 = .ok (.getfield 85, 3) ∧ decode cX11_keep 34 = .ok (.invokevirtual 206, 3) ∧ decode cX11_keep 37 = .ok (.ireturn, 1) ∧ decode cX11_undo 0 = .ok (.aload_n 0, 1) ∧ decode cX11_undo 1 = .ok (.getfield 77, 3) := by decide +kernel
theorem dX11_keep_28 : decode cX11_keep 28 = .ok (.getfield 10, 3) := dGX11_200.1
theorem dX11_keep_31 : decode cX11_keep 31 = .ok (.getfield 85, 3) := dGX11_200.2.1
theorem dX11_keep_34 : decode cX11_keep 34 = .ok (.invokevirtual 206, 3) := dGX11_200.2.2.1
theorem dX11_keep_37 : decode cX11_keep 37 = .ok (.ireturn, 1) := dGX11_200.2.2.2.1
theorem dX11_undo_0 : decode cX11_undo 0 = .ok (.aload_n 0, 1) := dGX11_200.2.2.2.2.1
theorem dX11_undo_1 : decode cX11_undo 1 = .ok (.getfield 77, 3) := dGX11_200.2.2.2.2.2
theorem dGX11_201 : decode cX11_undo 4 = .ok (.ifCond .ne 5, 3) ∧ decode cX11_undo 7 = .ok (.iconst 0, 1) ∧ decode cX11_undo 8 = .ok (.ireturn, 1) ∧ decode cX11_undo 9 = .ok (.aload_n 0, 1) ∧ decode cX11_undo 10 = .ok (.getfield 10, 3) ∧ decode cX11_undo 13 = .ok (.aload_n 0, 1) := by decide +kernel
theorem dX11_undo_4 : decode cX11_undo 4 = .ok (.ifCond .ne 5, 3) := dGX11_201.1
theorem dX11_undo_7 : decode cX11_undo 7 = .ok (.iconst 0, 1) := dGX11_201.2.1
theorem dX11_undo_8 : decode cX11_undo 8 = .ok (.ireturn, 1) := dGX11_201.2.2.1
theorem dX11_undo_9 : decode cX11_undo 9 = .ok (.aload_n 0, 1) := dGX11_201.2.2.2.1
theorem dX11_undo_10 : decode cX11_undo 10 = .ok (.getfield 10, 3) := dGX11_201.2.2.2.2.1
theorem dX11_undo_13 : decode cX11_undo 13 = .ok (.aload_n 0, 1) := dGX11_201.2.2.2.2.2
theorem dGX11_202 : decode cX11_undo 14 = .ok (.getfield 19, 3) ∧ decode cX11_undo 17 = .ok (.invokevirtual 202, 3) ∧ decode cX11_undo 20 = .ok (.aload_n 0, 1) ∧ decode cX11_undo 21 = .ok (.getfield 25, 3) ∧ decode cX11_undo 24 = .ok (.aload_n 0, 1) ∧ decode cX11_undo 25 = .ok (.getfield 29, 3) := by decide +kernel
theorem dX11_undo_14 : decode cX11_undo 14 = .ok (.getfield 19, 3) := dGX11_202.1
theorem dX11_undo_17 : decode cX11_undo 17 = .ok (.invokevirtual 202, 3) := dGX11_202.2.1
theorem dX11_undo_20 : decode cX11_undo 20 = .ok (.aload_n 0, 1) := dGX11_202.2.2.1
theorem dX11_undo_21 : decode cX11_undo 21 = .ok (.getfield 25, 3) := dGX11_202.2.2.2.1
theorem dX11_undo_24 : decode cX11_undo 24 = .ok (.aload_n 0, 1) := dGX11_202.2.2.2.2.1
theorem dX11_undo_25 : decode cX11_undo 25 = .ok (.getfield 29, 3) := dGX11_202.2.2.2.2.2
theorem dGX11_203 : decode cX11_undo 28 = .ok (.invokevirtual 303, 3) ∧ decode cX11_undo 31 = .ok (.iconst 1, 1) ∧ decode cX11_undo 32 = .ok (.ireturn, 1) ∧ decode cX11_check 0 = .ok (.iload_n 1, 1) ∧ decode cX11_check 1 = .ok (.iconst 0, 1) ∧ decode cX11_check 2 = .ok (.bipush 10, 2) := by decide +kernel
theorem dX11_undo_28 : decode cX11_undo 28 = .ok (.invokevirtual 303, 3) := dGX11_203.1
theorem dX11_undo_31 : decode cX11_undo 31 = .ok (.iconst 1, 1) := dGX11_203.2.1
theorem dX11_undo_32 : decode cX11_undo 32 = .ok (.ireturn, 1) := dGX11_203.2.2.1
theorem dX11_check_0 : decode cX11_check 0 = .ok (.iload_n 1, 1) := dGX11_203.2.2.2.1
theorem dX11_check_1 : decode cX11_check 1 = .ok (.iconst 0, 1) := dGX11_203.2.2.2.2.1
theorem dX11_check_2 : decode cX11_check 2 = .ok (.bipush 10, 2) := dGX11_203.2.2.2.2.2
theorem dGX11_204 : decode cX11_check 4 = .ok (.invokestatic 81, 3) ∧ decode cX11_check 7 = .ok (.ifCond .eq 16, 3) ∧ decode cX11_check 10 = .ok (.aload_n 0, 1) ∧ decode cX11_check 11 = .ok (.getfield 25, 3) ∧ decode cX11_check 14 = .ok (.getfield 140, 3) ∧ decode cX11_check 17 = .ok (.iconst 4, 1) := by decide +kernel
theorem dX11_check_4 : decode cX11_check 4 = .ok (.invokestatic 81, 3) := dGX11_204.1
theorem dX11_check_7 : decode cX11_check 7 = .ok (.ifCond .eq 16, 3) := dGX11_204.2.1
theorem dX11_check_10 : decode cX11_check 10 = .ok (.aload_n 0, 1) := dGX11_204.2.2.1
theorem dX11_check_11 : decode cX11_check 11 = .ok (.getfield 25, 3) := dGX11_204.2.2.2.1
theorem dX11_check_14 : decode cX11_check 14 = .ok (.getfield 140, 3) := dGX11_204.2.2.2.2.1
theorem dX11_check_17 : decode cX11_check 17 = .ok (.iconst 4, 1) := dGX11_204.2.2.2.2.2
theorem dGX11_205 : decode cX11_check 18 = .ok (.iload_n 1, 1) ∧ decode cX11_check 19 = .ok (.imul, 1) ∧ decode cX11_check 20 = .ok (.if_icmp .ge 6, 3) ∧ decode cX11_check 23 = .ok (.bipush (-2), 2) ∧ decode cX11_check 25 = .ok (.ireturn, 1) ∧ decode cX11_check 26 = .ok (.aload_n 0, 1) := by decide +kernel
theorem dX11_check_18 : decode cX11_check 18 = .ok (.iload_n 1, 1) := dGX11_205.1
theorem dX11_check_19 : decode cX11_check 19 = .ok (.imul, 1) := dGX11_205.2.1
theorem dX11_check_20 : decode cX11_check 20 = .ok (.if_icmp .ge 6, 3) := dGX11_205.2.2.1
theorem dX11_check_23 : decode cX11_check 23 = .ok (.bipush (-2), 2) := dGX11_205.2.2.2.1
theorem dX11_check_25 : decode cX11_check 25 = .ok (.ireturn, 1) := dGX11_205.2.2.2.2.1
theorem dX11_check_26 : decode cX11_check 26 = .ok (.aload_n 0, 1) := dGX11_205.2.2.2.2.2
theorem dGX11_206 : decode cX11_check 27 = .ok (.getfield 25, 3) ∧ decode cX11_check 30 = .ok (.iconst 0, 1) ∧ decode cX11_check 31 = .ok (.putfield 140, 3) ∧ decode cX11_check 34 = .ok (.iconst 0, 1) ∧ decode cX11_check 35 = .ok (.istore_n 2, 1) ∧ decode cX11_check 36 = .ok (.iload_n 2, 1) := by decide +kernel
theorem dX11_check_27 : decode cX11_check 27 = .ok (.getfield 25, 3) := dGX11_206.1
theorem dX11_check_30 : decode cX11_check 30 = .ok (.iconst 0, 1) := dGX11_206.2.1
theorem dX11_check_31 : decode cX11_check 31 = .ok (.putfield 140, 3) := dGX11_206.2.2.1
theorem dX11_check_34 : decode cX11_check 34 = .ok (.iconst 0, 1) := dGX11_206.2.2.2.1
theorem dX11_check_35 : decode cX11_check 35 = .ok (.istore_n 2, 1) := dGX11_206.2.2.2.2.1
theorem dX11_check_36 : decode cX11_check 36 = .ok (.iload_n 2, 1) := dGX11_206.2.2.2.2.2
theorem dGX11_207 : decode cX11_check 37 = .ok (.iload_n 1, 1) ∧ decode cX11_check 38 = .ok (.if_icmp .ge 50, 3) ∧ decode cX11_check 41 = .ok (.aload_n 0, 1) ∧ decode cX11_check 42 = .ok (.getfield 10, 3) ∧ decode cX11_check 45 = .ok (.getfield 85, 3) ∧ decode cX11_check 48 = .ok (.iload_n 2, 1) := by decide +kernel
theorem dX11_check_37 : decode cX11_check 37 = .ok (.iload_n 1, 1) := dGX11_207.1
theorem dX11_check_38 : decode cX11_check 38 = .ok (.if_icmp .ge 50, 3) := dGX11_207.2.1
theorem dX11_check_41 : decode cX11_check 41 = .ok (.aload_n 0, 1) := dGX11_207.2.2.1
theorem dX11_check_42 : decode cX11_check 42 = .ok (.getfield 10, 3) := dGX11_207.2.2.2.1
theorem dX11_check_45 : decode cX11_check 45 = .ok (.getfield 85, 3) := dGX11_207.2.2.2.2.1
theorem dX11_check_48 : decode cX11_check 48 = .ok (.iload_n 2, 1) := dGX11_207.2.2.2.2.2
theorem dGX11_208 : decode cX11_check 49 = .ok (.invokevirtual 159, 3) ∧ decode cX11_check 52 = .ok (.ifCond .eq 28, 3) ∧ decode cX11_check 55 = .ok (.aload_n 0, 1) ∧ decode cX11_check 56 = .ok (.getfield 25, 3) ∧ decode cX11_check 59 = .ok (.iconst 4, 1) ∧ decode cX11_check 60 = .ok (.iload_n 2, 1) := by decide +kernel
theorem dX11_check_49 : decode cX11_check 49 = .ok (.invokevirtual 159, 3) := dGX11_208.1
theorem dX11_check_52 : decode cX11_check 52 = .ok (.ifCond .eq 28, 3) := dGX11_208.2.1
theorem dX11_check_55 : decode cX11_check 55 = .ok (.aload_n 0, 1) := dGX11_208.2.2.1
theorem dX11_check_56 : decode cX11_check 56 = .ok (.getfield 25, 3) := dGX11_208.2.2.2.1
theorem dX11_check_59 : decode cX11_check 59 = .ok (.iconst 4, 1) := dGX11_208.2.2.2.2.1
theorem dX11_check_60 : decode cX11_check 60 = .ok (.iload_n 2, 1) := dGX11_208.2.2.2.2.2
theorem dGX11_209 : decode cX11_check 61 = .ok (.imul, 1) ∧ decode cX11_check 62 = .ok (.invokevirtual 306, 3) ∧ decode cX11_check 65 = .ok (.aload_n 0, 1) ∧ decode cX11_check 66 = .ok (.getfield 10, 3) ∧ decode cX11_check 69 = .ok (.getfield 85, 3) ∧ decode cX11_check 72 = .ok (.getfield 163, 3) := by decide +kernel
theorem dX11_check_61 : decode cX11_check 61 = .ok (.imul, 1) := dGX11_209.1
theorem dX11_check_62 : decode cX11_check 62 = .ok (.invokevirtual 306, 3) := dGX11_209.2.1
theorem dX11_check_65 : decode cX11_check 65 = .ok (.aload_n 0, 1) := dGX11_209.2.2.1
theorem dX11_check_66 : decode cX11_check 66 = .ok (.getfield 10, 3) := dGX11_209.2.2.2.1
theorem dX11_check_69 : decode cX11_check 69 = .ok (.getfield 85, 3) := dGX11_209.2.2.2.2.1
theorem dX11_check_72 : decode cX11_check 72 = .ok (.getfield 163, 3) := dGX11_209.2.2.2.2.2
theorem dGX11_210 : decode cX11_check 75 = .ok (.iload_n 2, 1) ∧ decode cX11_check 76 = .ok (.iaload, 1) ∧ decode cX11_check 77 = .ok (.if_icmp .eq 5, 3) ∧ decode cX11_check 80 = .ok (.iload_n 2, 1) ∧ decode cX11_check 81 = .ok (.ireturn, 1) ∧ decode cX11_check 82 = .ok (.iinc 2 1, 3) := by decide +kernel
theorem dX11_check_75 : decode cX11_check 75 = .ok (.iload_n 2, 1) := dGX11_210.1
theorem dX11_check_76 : decode cX11_check 76 = .ok (.iaload, 1) := dGX11_210.2.1
theorem dX11_check_77 : decode cX11_check 77 = .ok (.if_icmp .eq 5, 3) := dGX11_210.2.2.1
theorem dX11_check_80 : decode cX11_check 80 = .ok (.iload_n 2, 1) := dGX11_210.2.2.2.1
theorem dX11_check_81 : decode cX11_check 81 = .ok (.ireturn, 1) := dGX11_210.2.2.2.2.1
theorem dX11_check_82 : decode cX11_check 82 = .ok (.iinc 2 1, 3) := dGX11_210.2.2.2.2.2
theorem dGX11_211 : decode cX11_check 85 = .ok (.goto (-49), 3) ∧ decode cX11_check 88 = .ok (.iconst (-1), 1) ∧ decode cX11_check 89 = .ok (.ireturn, 1) ∧ decode cX11_count 0 = .ok (.iload_n 1, 1) ∧ decode cX11_count 1 = .ok (.bipush 100, 2) ∧ decode cX11_count 3 = .ok (.sipush 199, 3) := by decide +kernel
theorem dX11_check_85 : decode cX11_check 85 = .ok (.goto (-49), 3) := dGX11_211.1
theorem dX11_check_88 : decode cX11_check 88 = .ok (.iconst (-1), 1) := dGX11_211.2.1
theorem dX11_check_89 : decode cX11_check 89 = .ok (.ireturn, 1) := dGX11_211.2.2.1
theorem dX11_count_0 : decode cX11_count 0 = .ok (.iload_n 1, 1) := dGX11_211.2.2.2.1
theorem dX11_count_1 : decode cX11_count 1 = .ok (.bipush 100, 2) := dGX11_211.2.2.2.2.1
theorem dX11_count_3 : decode cX11_count 3 = .ok (.sipush 199, 3) := dGX11_211.2.2.2.2.2
theorem dGX11_212 : decode cX11_count 6 = .ok (.invokestatic 81, 3) ∧ decode cX11_count 9 = .ok (.ifCond .eq 16, 3) ∧ decode cX11_count 12 = .ok (.aload_n 0, 1) ∧ decode cX11_count 13 = .ok (.getfield 10, 3) ∧ decode cX11_count 16 = .ok (.getfield 137, 3) ∧ decode cX11_count 19 = .ok (.iload_n 1, 1) := by decide +kernel
theorem dX11_count_6 : decode cX11_count 6 = .ok (.invokestatic 81, 3) := dGX11_212.1
theorem dX11_count_9 : decode cX11_count 9 = .ok (.ifCond .eq 16, 3) := dGX11_212.2.1
theorem dX11_count_12 : decode cX11_count 12 = .ok (.aload_n 0, 1) := dGX11_212.2.2.1
theorem dX11_count_13 : decode cX11_count 13 = .ok (.getfield 10, 3) := dGX11_212.2.2.2.1
theorem dX11_count_16 : decode cX11_count 16 = .ok (.getfield 137, 3) := dGX11_212.2.2.2.2.1
theorem dX11_count_19 : decode cX11_count 19 = .ok (.iload_n 1, 1) := dGX11_212.2.2.2.2.2
theorem dGX11_213 : decode cX11_count 20 = .ok (.bipush 100, 2) ∧ decode cX11_count 22 = .ok (.isub, 1) ∧ decode cX11_count 23 = .ok (.iaload, 1) ∧ decode cX11_count 24 = .ok (.ireturn, 1) ∧ decode cX11_count 25 = .ok (.iload_n 1, 1) ∧ decode cX11_count 26 = .ok (.tableswitch 149 0 9 #[54, 65, 76, 87, 95, 103, 111, 119, 127, 138], 54) := by decide +kernel
theorem dX11_count_20 : decode cX11_count 20 = .ok (.bipush 100, 2) := dGX11_213.1
theorem dX11_count_22 : decode cX11_count 22 = .ok (.isub, 1) := dGX11_213.2.1
theorem dX11_count_23 : decode cX11_count 23 = .ok (.iaload, 1) := dGX11_213.2.2.1
theorem dX11_count_24 : decode cX11_count 24 = .ok (.ireturn, 1) := dGX11_213.2.2.2.1
theorem dX11_count_25 : decode cX11_count 25 = .ok (.iload_n 1, 1) := dGX11_213.2.2.2.2.1
theorem dX11_count_26 : decode cX11_count 26 = .ok (.tableswitch 149 0 9 #[54, 65, 76, 87, 95, 103, 111, 119, 127, 138], 54) := dGX11_213.2.2.2.2.2
theorem dGX11_214 : decode cX11_count 80 = .ok (.aload_n 0, 1) ∧ decode cX11_count 81 = .ok (.getfield 10, 3) ∧ decode cX11_count 84 = .ok (.getfield 85, 3) ∧ decode cX11_count 87 = .ok (.getfield 309, 3) ∧ decode cX11_count 90 = .ok (.ireturn, 1) ∧ decode cX11_count 91 = .ok (.aload_n 0, 1) := by decide +kernel
theorem dX11_count_80 : decode cX11_count 80 = .ok (.aload_n 0, 1) := dGX11_214.1
theorem dX11_count_81 : decode cX11_count 81 = .ok (.getfield 10, 3) := dGX11_214.2.1
theorem dX11_count_84 : decode cX11_count 84 = .ok (.getfield 85, 3) := dGX11_214.2.2.1
theorem dX11_count_87 : decode cX11_count 87 = .ok (.getfield 309, 3) := dGX11_214.2.2.2.1
theorem dX11_count_90 : decode cX11_count 90 = .ok (.ireturn, 1) := dGX11_214.2.2.2.2.1
theorem dX11_count_91 : decode cX11_count 91 = .ok (.aload_n 0, 1) := dGX11_214.2.2.2.2.2
theorem dGX11_215 : decode cX11_count 92 = .ok (.getfield 10, 3) ∧ decode cX11_count 95 = .ok (.getfield 95, 3) ∧ decode cX11_count 98 = .ok (.getfield 310, 3) ∧ decode cX11_count 101 = .ok (.ireturn, 1) ∧ decode cX11_count 102 = .ok (.aload_n 0, 1) ∧ decode cX11_count 103 = .ok (.getfield 10, 3) := by decide +kernel
theorem dX11_count_92 : decode cX11_count 92 = .ok (.getfield 10, 3) := dGX11_215.1
theorem dX11_count_95 : decode cX11_count 95 = .ok (.getfield 95, 3) := dGX11_215.2.1
theorem dX11_count_98 : decode cX11_count 98 = .ok (.getfield 310, 3) := dGX11_215.2.2.1
theorem dX11_count_101 : decode cX11_count 101 = .ok (.ireturn, 1) := dGX11_215.2.2.2.1
theorem dX11_count_102 : decode cX11_count 102 = .ok (.aload_n 0, 1) := dGX11_215.2.2.2.2.1
theorem dX11_count_103 : decode cX11_count 103 = .ok (.getfield 10, 3) := dGX11_215.2.2.2.2.2
theorem dGX11_216 : decode cX11_count 106 = .ok (.getfield 104, 3) ∧ decode cX11_count 109 = .ok (.getfield 263, 3) ∧ decode cX11_count 112 = .ok (.ireturn, 1) ∧ decode cX11_count 113 = .ok (.aload_n 0, 1) ∧ decode cX11_count 114 = .ok (.getfield 70, 3) ∧ decode cX11_count 117 = .ok (.getfield 311, 3) := by decide +kernel
theorem dX11_count_106 : decode cX11_count 106 = .ok (.getfield 104, 3) := dGX11_216.1
theorem dX11_count_109 : decode cX11_count 109 = .ok (.getfield 263, 3) := dGX11_216.2.1
theorem dX11_count_112 : decode cX11_count 112 = .ok (.ireturn, 1) := dGX11_216.2.2.1
theorem dX11_count_113 : decode cX11_count 113 = .ok (.aload_n 0, 1) := dGX11_216.2.2.2.1
theorem dX11_count_114 : decode cX11_count 114 = .ok (.getfield 70, 3) := dGX11_216.2.2.2.2.1
theorem dX11_count_117 : decode cX11_count 117 = .ok (.getfield 311, 3) := dGX11_216.2.2.2.2.2
theorem dGX11_217 : decode cX11_count 120 = .ok (.ireturn, 1) ∧ decode cX11_count 121 = .ok (.aload_n 0, 1) ∧ decode cX11_count 122 = .ok (.getfield 25, 3) ∧ decode cX11_count 125 = .ok (.getfield 140, 3) ∧ decode cX11_count 128 = .ok (.ireturn, 1) ∧ decode cX11_count 129 = .ok (.aload_n 0, 1) := by decide +kernel
theorem dX11_count_120 : decode cX11_count 120 = .ok (.ireturn, 1) := dGX11_217.1
theorem dX11_count_121 : decode cX11_count 121 = .ok (.aload_n 0, 1) := dGX11_217.2.1
theorem dX11_count_122 : decode cX11_count 122 = .ok (.getfield 25, 3) := dGX11_217.2.2.1
theorem dX11_count_125 : decode cX11_count 125 = .ok (.getfield 140, 3) := dGX11_217.2.2.2.1
theorem dX11_count_128 : decode cX11_count 128 = .ok (.ireturn, 1) := dGX11_217.2.2.2.2.1
theorem dX11_count_129 : decode cX11_count 129 = .ok (.aload_n 0, 1) := dGX11_217.2.2.2.2.2
theorem dGX11_218 : decode cX11_count 130 = .ok (.getfield 10, 3) ∧ decode cX11_count 133 = .ok (.getfield 314, 3) ∧ decode cX11_count 136 = .ok (.ireturn, 1) ∧ decode cX11_count 137 = .ok (.aload_n 0, 1) ∧ decode cX11_count 138 = .ok (.getfield 10, 3) ∧ decode cX11_count 141 = .ok (.getfield 300, 3) := by decide +kernel
theorem dX11_count_130 : decode cX11_count 130 = .ok (.getfield 10, 3) := dGX11_218.1
theorem dX11_count_133 : decode cX11_count 133 = .ok (.getfield 314, 3) := dGX11_218.2.1
theorem dX11_count_136 : decode cX11_count 136 = .ok (.ireturn, 1) := dGX11_218.2.2.1
theorem dX11_count_137 : decode cX11_count 137 = .ok (.aload_n 0, 1) := dGX11_218.2.2.2.1
theorem dX11_count_138 : decode cX11_count 138 = .ok (.getfield 10, 3) := dGX11_218.2.2.2.2.1
theorem dX11_count_141 : decode cX11_count 141 = .ok (.getfield 300, 3) := dGX11_218.2.2.2.2.2
theorem dGX11_219 : decode cX11_count 144 = .ok (.ireturn, 1) ∧ decode cX11_count 145 = .ok (.aload_n 0, 1) ∧ decode cX11_count 146 = .ok (.getfield 10, 3) ∧ decode cX11_count 149 = .ok (.getfield 213, 3) ∧ decode cX11_count 152 = .ok (.ireturn, 1) ∧ decode cX11_count 153 = .ok (.aload_n 0, 1) := by decide +kernel
theorem dX11_count_144 : decode cX11_count 144 = .ok (.ireturn, 1) := dGX11_219.1
theorem dX11_count_145 : decode cX11_count 145 = .ok (.aload_n 0, 1) := dGX11_219.2.1
theorem dX11_count_146 : decode cX11_count 146 = .ok (.getfield 10, 3) := dGX11_219.2.2.1
theorem dX11_count_149 : decode cX11_count 149 = .ok (.getfield 213, 3) := dGX11_219.2.2.2.1
theorem dX11_count_152 : decode cX11_count 152 = .ok (.ireturn, 1) := dGX11_219.2.2.2.2.1
theorem dX11_count_153 : decode cX11_count 153 = .ok (.aload_n 0, 1) := dGX11_219.2.2.2.2.2
theorem dGX11_220 : decode cX11_count 154 = .ok (.getfield 10, 3) ∧ decode cX11_count 157 = .ok (.getfield 104, 3) ∧ decode cX11_count 160 = .ok (.invokevirtual 210, 3) ∧ decode cX11_count 163 = .ok (.ireturn, 1) ∧ decode cX11_count 164 = .ok (.aload_n 0, 1) ∧ decode cX11_count 165 = .ok (.getfield 10, 3) := by decide +kernel
theorem dX11_count_154 : decode cX11_count 154 = .ok (.getfield 10, 3) := dGX11_220.1
theorem dX11_count_157 : decode cX11_count 157 = .ok (.getfield 104, 3) := dGX11_220.2.1
theorem dX11_count_160 : decode cX11_count 160 = .ok (.invokevirtual 210, 3) := dGX11_220.2.2.1
theorem dX11_count_163 : decode cX11_count 163 = .ok (.ireturn, 1) := dGX11_220.2.2.2.1
theorem dX11_count_164 : decode cX11_count 164 = .ok (.aload_n 0, 1) := dGX11_220.2.2.2.2.1
theorem dX11_count_165 : decode cX11_count 165 = .ok (.getfield 10, 3) := dGX11_220.2.2.2.2.2
theorem dGX11_221 : decode cX11_count 168 = .ok (.getfield 85, 3) ∧ decode cX11_count 171 = .ok (.invokevirtual 206, 3) ∧ decode cX11_count 174 = .ok (.ireturn, 1) ∧ decode cX11_count 175 = .ok (.iconst (-1), 1) ∧ decode cX11_count 176 = .ok (.ireturn, 1) ∧ decode cX11_isWithin 0 = .ok (.iload_n 0, 1) := by decide +kernel
theorem dX11_count_168 : decode cX11_count 168 = .ok (.getfield 85, 3) := dGX11_221.1
theorem dX11_count_171 : decode cX11_count 171 = .ok (.invokevirtual 206, 3) := dGX11_221.2.1
theorem dX11_count_174 : decode cX11_count 174 = .ok (.ireturn, 1) := dGX11_221.2.2.1
theorem dX11_count_175 : decode cX11_count 175 = .ok (.iconst (-1), 1) := dGX11_221.2.2.2.1
theorem dX11_count_176 : decode cX11_count 176 = .ok (.ireturn, 1) := dGX11_221.2.2.2.2.1
theorem dX11_isWithin_0 : decode cX11_isWithin 0 = .ok (.iload_n 0, 1) := dGX11_221.2.2.2.2.2
theorem dGX11_222 : decode cX11_isWithin 1 = .ok (.iload_n 1, 1) ∧ decode cX11_isWithin 2 = .ok (.if_icmp .lt 12, 3) ∧ decode cX11_isWithin 5 = .ok (.iload_n 0, 1) ∧ decode cX11_isWithin 6 = .ok (.iload_n 2, 1) ∧ decode cX11_isWithin 7 = .ok (.if_icmp .gt 7, 3) ∧ decode cX11_isWithin 10 = .ok (.iconst 1, 1) := by decide +kernel
theorem dX11_isWithin_1 : decode cX11_isWithin 1 = .ok (.iload_n 1, 1) := dGX11_222.1
theorem dX11_isWithin_2 : decode cX11_isWithin 2 = .ok (.if_icmp .lt 12, 3) := dGX11_222.2.1
theorem dX11_isWithin_5 : decode cX11_isWithin 5 = .ok (.iload_n 0, 1) := dGX11_222.2.2.1
theorem dX11_isWithin_6 : decode cX11_isWithin 6 = .ok (.iload_n 2, 1) := dGX11_222.2.2.2.1
theorem dX11_isWithin_7 : decode cX11_isWithin 7 = .ok (.if_icmp .gt 7, 3) := dGX11_222.2.2.2.2.1
theorem dX11_isWithin_10 : decode cX11_isWithin 10 = .ok (.iconst 1, 1) := dGX11_222.2.2.2.2.2
theorem dGX11_223 : decode cX11_isWithin 11 = .ok (.goto 4, 3) ∧ decode cX11_isWithin 14 = .ok (.iconst 0, 1) ∧ decode cX11_isWithin 15 = .ok (.ireturn, 1) ∧ decode cX11_isPlace 0 = .ok (.iload_n 1, 1) ∧ decode cX11_isPlace 1 = .ok (.iconst (-1), 1) ∧ decode cX11_isPlace 2 = .ok (.if_icmp .eq 17, 3) := by decide +kernel
theorem dX11_isWithin_11 : decode cX11_isWithin 11 = .ok (.goto 4, 3) := dGX11_223.1
theorem dX11_isWithin_14 : decode cX11_isWithin 14 = .ok (.iconst 0, 1) := dGX11_223.2.1
theorem dX11_isWithin_15 : decode cX11_isWithin 15 = .ok (.ireturn, 1) := dGX11_223.2.2.1
theorem dX11_isPlace_0 : decode cX11_isPlace 0 = .ok (.iload_n 1, 1) := dGX11_223.2.2.2.1
theorem dX11_isPlace_1 : decode cX11_isPlace 1 = .ok (.iconst (-1), 1) := dGX11_223.2.2.2.2.1
theorem dX11_isPlace_2 : decode cX11_isPlace 2 = .ok (.if_icmp .eq 17, 3) := dGX11_223.2.2.2.2.2
theorem dGX11_224 : decode cX11_isPlace 5 = .ok (.aload_n 0, 1) ∧ decode cX11_isPlace 6 = .ok (.getfield 10, 3) ∧ decode cX11_isPlace 9 = .ok (.getfield 85, 3) ∧ decode cX11_isPlace 12 = .ok (.iload_n 1, 1) ∧ decode cX11_isPlace 13 = .ok (.invokevirtual 159, 3) ∧ decode cX11_isPlace 16 = .ok (.ifCond .eq 7, 3) := by decide +kernel
theorem dX11_isPlace_5 : decode cX11_isPlace 5 = .ok (.aload_n 0, 1) := dGX11_224.1
theorem dX11_isPlace_6 : decode cX11_isPlace 6 = .ok (.getfield 10, 3) := dGX11_224.2.1
theorem dX11_isPlace_9 : decode cX11_isPlace 9 = .ok (.getfield 85, 3) := dGX11_224.2.2.1
theorem dX11_isPlace_12 : decode cX11_isPlace 12 = .ok (.iload_n 1, 1) := dGX11_224.2.2.2.1
theorem dX11_isPlace_13 : decode cX11_isPlace 13 = .ok (.invokevirtual 159, 3) := dGX11_224.2.2.2.2.1
theorem dX11_isPlace_16 : decode cX11_isPlace 16 = .ok (.ifCond .eq 7, 3) := dGX11_224.2.2.2.2.2
theorem dGX11_225 : decode cX11_isPlace 19 = .ok (.iconst 1, 1) ∧ decode cX11_isPlace 20 = .ok (.goto 4, 3) ∧ decode cX11_isPlace 23 = .ok (.iconst 0, 1) ∧ decode cX11_isPlace 24 = .ok (.ireturn, 1) ∧ decode cX11_hasGearBearer 0 = .ok (.iload_n 1, 1) ∧ decode cX11_hasGearBearer 1 = .ok (.ifCond .ne 17, 3) := by decide +kernel
theorem dX11_isPlace_19 : decode cX11_isPlace 19 = .ok (.iconst 1, 1) := dGX11_225.1
theorem dX11_isPlace_20 : decode cX11_isPlace 20 = .ok (.goto 4, 3) := dGX11_225.2.1
theorem dX11_isPlace_23 : decode cX11_isPlace 23 = .ok (.iconst 0, 1) := dGX11_225.2.2.1
theorem dX11_isPlace_24 : decode cX11_isPlace 24 = .ok (.ireturn, 1) := dGX11_225.2.2.2.1
theorem dX11_hasGearBearer_0 : decode cX11_hasGearBearer 0 = .ok (.iload_n 1, 1) := dGX11_225.2.2.2.2.1
theorem dX11_hasGearBearer_1 : decode cX11_hasGearBearer 1 = .ok (.ifCond .ne 17, 3) := dGX11_225.2.2.2.2.2
theorem dGX11_226 : decode cX11_hasGearBearer 4 = .ok (.aload_n 0, 1) ∧ decode cX11_hasGearBearer 5 = .ok (.getfield 10, 3) ∧ decode cX11_hasGearBearer 8 = .ok (.getfield 95, 3) ∧ decode cX11_hasGearBearer 11 = .ok (.iload_n 2, 1) ∧ decode cX11_hasGearBearer 12 = .ok (.invokevirtual 113, 3) ∧ decode cX11_hasGearBearer 15 = .ok (.goto 27, 3) := by decide +kernel
theorem dX11_hasGearBearer_4 : decode cX11_hasGearBearer 4 = .ok (.aload_n 0, 1) := dGX11_226.1
theorem dX11_hasGearBearer_5 : decode cX11_hasGearBearer 5 = .ok (.getfield 10, 3) := dGX11_226.2.1
theorem dX11_hasGearBearer_8 : decode cX11_hasGearBearer 8 = .ok (.getfield 95, 3) := dGX11_226.2.2.1
theorem dX11_hasGearBearer_11 : decode cX11_hasGearBearer 11 = .ok (.iload_n 2, 1) := dGX11_226.2.2.2.1
theorem dX11_hasGearBearer_12 : decode cX11_hasGearBearer 12 = .ok (.invokevirtual 113, 3) := dGX11_226.2.2.2.2.1
theorem dX11_hasGearBearer_15 : decode cX11_hasGearBearer 15 = .ok (.goto 27, 3) := dGX11_226.2.2.2.2.2
theorem dGX11_227 : decode cX11_hasGearBearer 18 = .ok (.iload_n 1, 1) ∧ decode cX11_hasGearBearer 19 = .ok (.iconst 1, 1) ∧ decode cX11_hasGearBearer 20 = .ok (.if_icmp .ne 21, 3) ∧ decode cX11_hasGearBearer 23 = .ok (.aload_n 0, 1) ∧ decode cX11_hasGearBearer 24 = .ok (.getfield 10, 3) ∧ decode cX11_hasGearBearer 27 = .ok (.getfield 104, 3) := by decide +kernel
theorem dX11_hasGearBearer_18 : decode cX11_hasGearBearer 18 = .ok (.iload_n 1, 1) := dGX11_227.1
theorem dX11_hasGearBearer_19 : decode cX11_hasGearBearer 19 = .ok (.iconst 1, 1) := dGX11_227.2.1
theorem dX11_hasGearBearer_20 : decode cX11_hasGearBearer 20 = .ok (.if_icmp .ne 21, 3) := dGX11_227.2.2.1
theorem dX11_hasGearBearer_23 : decode cX11_hasGearBearer 23 = .ok (.aload_n 0, 1) := dGX11_227.2.2.2.1
theorem dX11_hasGearBearer_24 : decode cX11_hasGearBearer 24 = .ok (.getfield 10, 3) := dGX11_227.2.2.2.2.1
theorem dX11_hasGearBearer_27 : decode cX11_hasGearBearer 27 = .ok (.getfield 104, 3) := dGX11_227.2.2.2.2.2
theorem dGX11_228 : decode cX11_hasGearBearer 30 = .ok (.iload_n 2, 1) ∧ decode cX11_hasGearBearer 31 = .ok (.invokevirtual 124, 3) ∧ decode cX11_hasGearBearer 34 = .ok (.ifCond .eq 7, 3) ∧ decode cX11_hasGearBearer 37 = .ok (.iconst 1, 1) ∧ decode cX11_hasGearBearer 38 = .ok (.goto 4, 3) ∧ decode cX11_hasGearBearer 41 = .ok (.iconst 0, 1) := by decide +kernel
theorem dX11_hasGearBearer_30 : decode cX11_hasGearBearer 30 = .ok (.iload_n 2, 1) := dGX11_228.1
theorem dX11_hasGearBearer_31 : decode cX11_hasGearBearer 31 = .ok (.invokevirtual 124, 3) := dGX11_228.2.1
theorem dX11_hasGearBearer_34 : decode cX11_hasGearBearer 34 = .ok (.ifCond .eq 7, 3) := dGX11_228.2.2.1
theorem dX11_hasGearBearer_37 : decode cX11_hasGearBearer 37 = .ok (.iconst 1, 1) := dGX11_228.2.2.2.1
theorem dX11_hasGearBearer_38 : decode cX11_hasGearBearer 38 = .ok (.goto 4, 3) := dGX11_228.2.2.2.2.1
theorem dX11_hasGearBearer_41 : decode cX11_hasGearBearer 41 = .ok (.iconst 0, 1) := dGX11_228.2.2.2.2.2
theorem dGX11_229 : decode cX11_hasGearBearer 42 = .ok (.ireturn, 1) ∧ decode cX11_areTold 0 = .ok (.iload_n 1, 1) ∧ decode cX11_areTold 1 = .ok (.ifCond .le 30, 3) ∧ decode cX11_areTold 4 = .ok (.iload_n 1, 1) ∧ decode cX11_areTold 5 = .ok (.aload_n 0, 1) ∧ decode cX11_areTold 6 = .ok (.getfield 10, 3) := by decide +kernel
theorem dX11_hasGearBearer_42 : decode cX11_hasGearBearer 42 = .ok (.ireturn, 1) := dGX11_229.1
theorem dX11_areTold_0 : decode cX11_areTold 0 = .ok (.iload_n 1, 1) := dGX11_229.2.1
theorem dX11_areTold_1 : decode cX11_areTold 1 = .ok (.ifCond .le 30, 3) := dGX11_229.2.2.1
theorem dX11_areTold_4 : decode cX11_areTold 4 = .ok (.iload_n 1, 1) := dGX11_229.2.2.2.1
theorem dX11_areTold_5 : decode cX11_areTold 5 = .ok (.aload_n 0, 1) := dGX11_229.2.2.2.2.1
theorem dX11_areTold_6 : decode cX11_areTold 6 = .ok (.getfield 10, 3) := dGX11_229.2.2.2.2.2
theorem dGX11_230 : decode cX11_areTold 9 = .ok (.getfield 95, 3) ∧ decode cX11_areTold 12 = .ok (.getfield 310, 3) ∧ decode cX11_areTold 15 = .ok (.ishr, 1) ∧ decode cX11_areTold 16 = .ok (.ifCond .ne 15, 3) ∧ decode cX11_areTold 19 = .ok (.iload_n 1, 1) ∧ decode cX11_areTold 20 = .ok (.invokestatic 241, 3) := by decide +kernel
theorem dX11_areTold_9 : decode cX11_areTold 9 = .ok (.getfield 95, 3) := dGX11_230.1
theorem dX11_areTold_12 : decode cX11_areTold 12 = .ok (.getfield 310, 3) := dGX11_230.2.1
theorem dX11_areTold_15 : decode cX11_areTold 15 = .ok (.ishr, 1) := dGX11_230.2.2.1
theorem dX11_areTold_16 : decode cX11_areTold 16 = .ok (.ifCond .ne 15, 3) := dGX11_230.2.2.2.1
theorem dX11_areTold_19 : decode cX11_areTold 19 = .ok (.iload_n 1, 1) := dGX11_230.2.2.2.2.1
theorem dX11_areTold_20 : decode cX11_areTold 20 = .ok (.invokestatic 241, 3) := dGX11_230.2.2.2.2.2
theorem dGX11_231 : decode cX11_areTold 23 = .ok (.iconst 3, 1) ∧ decode cX11_areTold 24 = .ok (.if_icmp .gt 7, 3) ∧ decode cX11_areTold 27 = .ok (.iconst 1, 1) ∧ decode cX11_areTold 28 = .ok (.goto 4, 3) ∧ decode cX11_areTold 31 = .ok (.iconst 0, 1) ∧ decode cX11_areTold 32 = .ok (.ireturn, 1) := by decide +kernel
theorem dX11_areTold_23 : decode cX11_areTold 23 = .ok (.iconst 3, 1) := dGX11_231.1
theorem dX11_areTold_24 : decode cX11_areTold 24 = .ok (.if_icmp .gt 7, 3) := dGX11_231.2.1
theorem dX11_areTold_27 : decode cX11_areTold 27 = .ok (.iconst 1, 1) := dGX11_231.2.2.1
theorem dX11_areTold_28 : decode cX11_areTold 28 = .ok (.goto 4, 3) := dGX11_231.2.2.2.1
theorem dX11_areTold_31 : decode cX11_areTold 31 = .ok (.iconst 0, 1) := dGX11_231.2.2.2.2.1
theorem dX11_areTold_32 : decode cX11_areTold 32 = .ok (.ireturn, 1) := dGX11_231.2.2.2.2.2
theorem dGX11_232 : decode cX11_bruisesAsTold 0 = .ok (.aload_n 0, 1) ∧ decode cX11_bruisesAsTold 1 = .ok (.getfield 16, 3) ∧ decode cX11_bruisesAsTold 4 = .ok (.aload_n 0, 1) ∧ decode cX11_bruisesAsTold 5 = .ok (.getfield 10, 3) ∧ decode cX11_bruisesAsTold 8 = .ok (.invokevirtual 202, 3) ∧ decode cX11_bruisesAsTold 11 = .ok (.aload_n 0, 1) := by decide +kernel
theorem dX11_bruisesAsTold_0 : decode cX11_bruisesAsTold 0 = .ok (.aload_n 0, 1) := dGX11_232.1
theorem dX11_bruisesAsTold_1 : decode cX11_bruisesAsTold 1 = .ok (.getfield 16, 3) := dGX11_232.2.1
theorem dX11_bruisesAsTold_4 : decode cX11_bruisesAsTold 4 = .ok (.aload_n 0, 1) := dGX11_232.2.2.1
theorem dX11_bruisesAsTold_5 : decode cX11_bruisesAsTold 5 = .ok (.getfield 10, 3) := dGX11_232.2.2.2.1
theorem dX11_bruisesAsTold_8 : decode cX11_bruisesAsTold 8 = .ok (.invokevirtual 202, 3) := dGX11_232.2.2.2.2.1
theorem dX11_bruisesAsTold_11 : decode cX11_bruisesAsTold 11 = .ok (.aload_n 0, 1) := dGX11_232.2.2.2.2.2
theorem dGX11_233 : decode cX11_bruisesAsTold 12 = .ok (.getfield 16, 3) ∧ decode cX11_bruisesAsTold 15 = .ok (.getfield 95, 3) ∧ decode cX11_bruisesAsTold 18 = .ok (.iload_n 1, 1) ∧ decode cX11_bruisesAsTold 19 = .ok (.invokevirtual 113, 3) ∧ decode cX11_bruisesAsTold 22 = .ok (.ifCond .ne 5, 3) ∧ decode cX11_bruisesAsTold 25 = .ok (.iconst 0, 1) := by decide +kernel
theorem dX11_bruisesAsTold_12 : decode cX11_bruisesAsTold 12 = .ok (.getfield 16, 3) := dGX11_233.1
theorem dX11_bruisesAsTold_15 : decode cX11_bruisesAsTold 15 = .ok (.getfield 95, 3) := dGX11_233.2.1
theorem dX11_bruisesAsTold_18 : decode cX11_bruisesAsTold 18 = .ok (.iload_n 1, 1) := dGX11_233.2.2.1
theorem dX11_bruisesAsTold_19 : decode cX11_bruisesAsTold 19 = .ok (.invokevirtual 113, 3) := dGX11_233.2.2.2.1
theorem dX11_bruisesAsTold_22 : decode cX11_bruisesAsTold 22 = .ok (.ifCond .ne 5, 3) := dGX11_233.2.2.2.2.1
theorem dX11_bruisesAsTold_25 : decode cX11_bruisesAsTold 25 = .ok (.iconst 0, 1) := dGX11_233.2.2.2.2.2
theorem dGX11_234 : decode cX11_bruisesAsTold 26 = .ok (.ireturn, 1) ∧ decode cX11_bruisesAsTold 27 = .ok (.aload_n 0, 1) ∧ decode cX11_bruisesAsTold 28 = .ok (.getfield 16, 3) ∧ decode cX11_bruisesAsTold 31 = .ok (.getfield 95, 3) ∧ decode cX11_bruisesAsTold 34 = .ok (.getfield 178, 3) ∧ decode cX11_bruisesAsTold 37 = .ok (.iload_n 1, 1) := by decide +kernel
theorem dX11_bruisesAsTold_26 : decode cX11_bruisesAsTold 26 = .ok (.ireturn, 1) := dGX11_234.1
theorem dX11_bruisesAsTold_27 : decode cX11_bruisesAsTold 27 = .ok (.aload_n 0, 1) := dGX11_234.2.1
theorem dX11_bruisesAsTold_28 : decode cX11_bruisesAsTold 28 = .ok (.getfield 16, 3) := dGX11_234.2.2.1
theorem dX11_bruisesAsTold_31 : decode cX11_bruisesAsTold 31 = .ok (.getfield 95, 3) := dGX11_234.2.2.2.1
theorem dX11_bruisesAsTold_34 : decode cX11_bruisesAsTold 34 = .ok (.getfield 178, 3) := dGX11_234.2.2.2.2.1
theorem dX11_bruisesAsTold_37 : decode cX11_bruisesAsTold 37 = .ok (.iload_n 1, 1) := dGX11_234.2.2.2.2.2
theorem dGX11_235 : decode cX11_bruisesAsTold 38 = .ok (.iload_n 2, 1) ∧ decode cX11_bruisesAsTold 39 = .ok (.bipush 11, 2) ∧ decode cX11_bruisesAsTold 41 = .ok (.idiv, 1) ∧ decode cX11_bruisesAsTold 42 = .ok (.iastore, 1) ∧ decode cX11_bruisesAsTold 43 = .ok (.aload_n 0, 1) ∧ decode cX11_bruisesAsTold 44 = .ok (.getfield 16, 3) := by decide +kernel
theorem dX11_bruisesAsTold_38 : decode cX11_bruisesAsTold 38 = .ok (.iload_n 2, 1) := dGX11_235.1
theorem dX11_bruisesAsTold_39 : decode cX11_bruisesAsTold 39 = .ok (.bipush 11, 2) := dGX11_235.2.1
theorem dX11_bruisesAsTold_41 : decode cX11_bruisesAsTold 41 = .ok (.idiv, 1) := dGX11_235.2.2.1
theorem dX11_bruisesAsTold_42 : decode cX11_bruisesAsTold 42 = .ok (.iastore, 1) := dGX11_235.2.2.2.1
theorem dX11_bruisesAsTold_43 : decode cX11_bruisesAsTold 43 = .ok (.aload_n 0, 1) := dGX11_235.2.2.2.2.1
theorem dX11_bruisesAsTold_44 : decode cX11_bruisesAsTold 44 = .ok (.getfield 16, 3) := dGX11_235.2.2.2.2.2
theorem dGX11_236 : decode cX11_bruisesAsTold 47 = .ok (.getfield 95, 3) ∧ decode cX11_bruisesAsTold 50 = .ok (.getfield 120, 3) ∧ decode cX11_bruisesAsTold 53 = .ok (.iload_n 1, 1) ∧ decode cX11_bruisesAsTold 54 = .ok (.iload_n 2, 1) ∧ decode cX11_bruisesAsTold 55 = .ok (.bipush 11, 2) ∧ decode cX11_bruisesAsTold 57 = .ok (.irem, 1) := by decide +kernel
theorem dX11_bruisesAsTold_47 : decode cX11_bruisesAsTold 47 = .ok (.getfield 95, 3) := dGX11_236.1
theorem dX11_bruisesAsTold_50 : decode cX11_bruisesAsTold 50 = .ok (.getfield 120, 3) := dGX11_236.2.1
theorem dX11_bruisesAsTold_53 : decode cX11_bruisesAsTold 53 = .ok (.iload_n 1, 1) := dGX11_236.2.2.1
theorem dX11_bruisesAsTold_54 : decode cX11_bruisesAsTold 54 = .ok (.iload_n 2, 1) := dGX11_236.2.2.2.1
theorem dX11_bruisesAsTold_55 : decode cX11_bruisesAsTold 55 = .ok (.bipush 11, 2) := dGX11_236.2.2.2.2.1
theorem dX11_bruisesAsTold_57 : decode cX11_bruisesAsTold 57 = .ok (.irem, 1) := dGX11_236.2.2.2.2.2
theorem dGX11_237 : decode cX11_bruisesAsTold 58 = .ok (.iastore, 1) ∧ decode cX11_bruisesAsTold 59 = .ok (.aload_n 0, 1) ∧ decode cX11_bruisesAsTold 60 = .ok (.getfield 16, 3) ∧ decode cX11_bruisesAsTold 63 = .ok (.aload_n 0, 1) ∧ decode cX11_bruisesAsTold 64 = .ok (.getfield 70, 3) ∧ decode cX11_bruisesAsTold 67 = .ok (.iload_n 3, 1) := by decide +kernel
theorem dX11_bruisesAsTold_58 : decode cX11_bruisesAsTold 58 = .ok (.iastore, 1) := dGX11_237.1
theorem dX11_bruisesAsTold_59 : decode cX11_bruisesAsTold 59 = .ok (.aload_n 0, 1) := dGX11_237.2.1
theorem dX11_bruisesAsTold_60 : decode cX11_bruisesAsTold 60 = .ok (.getfield 16, 3) := dGX11_237.2.2.1
theorem dX11_bruisesAsTold_63 : decode cX11_bruisesAsTold 63 = .ok (.aload_n 0, 1) := dGX11_237.2.2.2.1
theorem dX11_bruisesAsTold_64 : decode cX11_bruisesAsTold 64 = .ok (.getfield 70, 3) := dGX11_237.2.2.2.2.1
theorem dX11_bruisesAsTold_67 : decode cX11_bruisesAsTold 67 = .ok (.iload_n 3, 1) := dGX11_237.2.2.2.2.2
theorem dGX11_238 : decode cX11_bruisesAsTold 68 = .ok (.invokevirtual 152, 3) ∧ decode cX11_bruisesAsTold 71 = .ok (.pop, 1) ∧ decode cX11_bruisesAsTold 72 = .ok (.iconst 0, 1) ∧ decode cX11_bruisesAsTold 73 = .ok (.istore 4, 2) ∧ decode cX11_bruisesAsTold 75 = .ok (.iload 4, 2) ∧ decode cX11_bruisesAsTold 77 = .ok (.aload_n 0, 1) := by decide +kernel
theorem dX11_bruisesAsTold_68 : decode cX11_bruisesAsTold 68 = .ok (.invokevirtual 152, 3) := dGX11_238.1
theorem dX11_bruisesAsTold_71 : decode cX11_bruisesAsTold 71 = .ok (.pop, 1) := dGX11_238.2.1
theorem dX11_bruisesAsTold_72 : decode cX11_bruisesAsTold 72 = .ok (.iconst 0, 1) := dGX11_238.2.2.1
theorem dX11_bruisesAsTold_73 : decode cX11_bruisesAsTold 73 = .ok (.istore 4, 2) := dGX11_238.2.2.2.1
theorem dX11_bruisesAsTold_75 : decode cX11_bruisesAsTold 75 = .ok (.iload 4, 2) := dGX11_238.2.2.2.2.1
theorem dX11_bruisesAsTold_77 : decode cX11_bruisesAsTold 77 = .ok (.aload_n 0, 1) := dGX11_238.2.2.2.2.2
theorem dGX11_239 : decode cX11_bruisesAsTold 78 = .ok (.getfield 10, 3) ∧ decode cX11_bruisesAsTold 81 = .ok (.getfield 104, 3) ∧ decode cX11_bruisesAsTold 84 = .ok (.getfield 263, 3) ∧ decode cX11_bruisesAsTold 87 = .ok (.if_icmp .ge 50, 3) ∧ decode cX11_bruisesAsTold 90 = .ok (.aload_n 0, 1) ∧ decode cX11_bruisesAsTold 91 = .ok (.getfield 16, 3) := by decide +kernel
theorem dX11_bruisesAsTold_78 : decode cX11_bruisesAsTold 78 = .ok (.getfield 10, 3) := dGX11_239.1
theorem dX11_bruisesAsTold_81 : decode cX11_bruisesAsTold 81 = .ok (.getfield 104, 3) := dGX11_239.2.1
theorem dX11_bruisesAsTold_84 : decode cX11_bruisesAsTold 84 = .ok (.getfield 263, 3) := dGX11_239.2.2.1
theorem dX11_bruisesAsTold_87 : decode cX11_bruisesAsTold 87 = .ok (.if_icmp .ge 50, 3) := dGX11_239.2.2.2.1
theorem dX11_bruisesAsTold_90 : decode cX11_bruisesAsTold 90 = .ok (.aload_n 0, 1) := dGX11_239.2.2.2.2.1
theorem dX11_bruisesAsTold_91 : decode cX11_bruisesAsTold 91 = .ok (.getfield 16, 3) := dGX11_239.2.2.2.2.2
theorem dGX11_240 : decode cX11_bruisesAsTold 94 = .ok (.getfield 104, 3) ∧ decode cX11_bruisesAsTold 97 = .ok (.getfield 199, 3) ∧ decode cX11_bruisesAsTold 100 = .ok (.iload 4, 2) ∧ decode cX11_bruisesAsTold 102 = .ok (.iaload, 1) ∧ decode cX11_bruisesAsTold 103 = .ok (.aload_n 0, 1) ∧ decode cX11_bruisesAsTold 104 = .ok (.getfield 10, 3) := by decide +kernel
theorem dX11_bruisesAsTold_94 : decode cX11_bruisesAsTold 94 = .ok (.getfield 104, 3) := dGX11_240.1
theorem dX11_bruisesAsTold_97 : decode cX11_bruisesAsTold 97 = .ok (.getfield 199, 3) := dGX11_240.2.1
theorem dX11_bruisesAsTold_100 : decode cX11_bruisesAsTold 100 = .ok (.iload 4, 2) := dGX11_240.2.2.1
theorem dX11_bruisesAsTold_102 : decode cX11_bruisesAsTold 102 = .ok (.iaload, 1) := dGX11_240.2.2.2.1
theorem dX11_bruisesAsTold_103 : decode cX11_bruisesAsTold 103 = .ok (.aload_n 0, 1) := dGX11_240.2.2.2.2.1
theorem dX11_bruisesAsTold_104 : decode cX11_bruisesAsTold 104 = .ok (.getfield 10, 3) := dGX11_240.2.2.2.2.2
theorem dGX11_241 : decode cX11_bruisesAsTold 107 = .ok (.getfield 104, 3) ∧ decode cX11_bruisesAsTold 110 = .ok (.getfield 199, 3) ∧ decode cX11_bruisesAsTold 113 = .ok (.iload 4, 2) ∧ decode cX11_bruisesAsTold 115 = .ok (.iaload, 1) ∧ decode cX11_bruisesAsTold 116 = .ok (.isub, 1) ∧ decode cX11_bruisesAsTold 117 = .ok (.aload_n 0, 1) := by decide +kernel
theorem dX11_bruisesAsTold_107 : decode cX11_bruisesAsTold 107 = .ok (.getfield 104, 3) := dGX11_241.1
theorem dX11_bruisesAsTold_110 : decode cX11_bruisesAsTold 110 = .ok (.getfield 199, 3) := dGX11_241.2.1
theorem dX11_bruisesAsTold_113 : decode cX11_bruisesAsTold 113 = .ok (.iload 4, 2) := dGX11_241.2.2.1
theorem dX11_bruisesAsTold_115 : decode cX11_bruisesAsTold 115 = .ok (.iaload, 1) := dGX11_241.2.2.2.1
theorem dX11_bruisesAsTold_116 : decode cX11_bruisesAsTold 116 = .ok (.isub, 1) := dGX11_241.2.2.2.2.1
theorem dX11_bruisesAsTold_117 : decode cX11_bruisesAsTold 117 = .ok (.aload_n 0, 1) := dGX11_241.2.2.2.2.2
theorem dGX11_242 : decode cX11_bruisesAsTold 118 = .ok (.getfield 25, 3) ∧ decode cX11_bruisesAsTold 121 = .ok (.iload 4, 2) ∧ decode cX11_bruisesAsTold 123 = .ok (.invokevirtual 317, 3) ∧ decode cX11_bruisesAsTold 126 = .ok (.if_icmp .eq 5, 3) ∧ decode cX11_bruisesAsTold 129 = .ok (.iconst 0, 1) ∧ decode cX11_bruisesAsTold 130 = .ok (.ireturn, 1) := by decide +kernel
theorem dX11_bruisesAsTold_118 : decode cX11_bruisesAsTold 118 = .ok (.getfield 25, 3) := dGX11_242.1
theorem dX11_bruisesAsTold_121 : decode cX11_bruisesAsTold 121 = .ok (.iload 4, 2) := dGX11_242.2.1
theorem dX11_bruisesAsTold_123 : decode cX11_bruisesAsTold 123 = .ok (.invokevirtual 317, 3) := dGX11_242.2.2.1
theorem dX11_bruisesAsTold_126 : decode cX11_bruisesAsTold 126 = .ok (.if_icmp .eq 5, 3) := dGX11_242.2.2.2.1
theorem dX11_bruisesAsTold_129 : decode cX11_bruisesAsTold 129 = .ok (.iconst 0, 1) := dGX11_242.2.2.2.2.1
theorem dX11_bruisesAsTold_130 : decode cX11_bruisesAsTold 130 = .ok (.ireturn, 1) := dGX11_242.2.2.2.2.2
theorem dGX11_243 : decode cX11_bruisesAsTold 131 = .ok (.iinc 4 1, 3) ∧ decode cX11_bruisesAsTold 134 = .ok (.goto (-59), 3) ∧ decode cX11_bruisesAsTold 137 = .ok (.iconst 1, 1) ∧ decode cX11_bruisesAsTold 138 = .ok (.ireturn, 1) ∧ decode cX11_bruisesByWinds 0 = .ok (.aload_n 0, 1) ∧ decode cX11_bruisesByWinds 1 = .ok (.getfield 16, 3) := by decide +kernel
theorem dX11_bruisesAsTold_131 : decode cX11_bruisesAsTold 131 = .ok (.iinc 4 1, 3) := dGX11_243.1
theorem dX11_bruisesAsTold_134 : decode cX11_bruisesAsTold 134 = .ok (.goto (-59), 3) := dGX11_243.2.1
theorem dX11_bruisesAsTold_137 : decode cX11_bruisesAsTold 137 = .ok (.iconst 1, 1) := dGX11_243.2.2.1
theorem dX11_bruisesAsTold_138 : decode cX11_bruisesAsTold 138 = .ok (.ireturn, 1) := dGX11_243.2.2.2.1
theorem dX11_bruisesByWinds_0 : decode cX11_bruisesByWinds 0 = .ok (.aload_n 0, 1) := dGX11_243.2.2.2.2.1
theorem dX11_bruisesByWinds_1 : decode cX11_bruisesByWinds 1 = .ok (.getfield 16, 3) := dGX11_243.2.2.2.2.2
theorem dGX11_244 : decode cX11_bruisesByWinds 4 = .ok (.aload_n 0, 1) ∧ decode cX11_bruisesByWinds 5 = .ok (.getfield 10, 3) ∧ decode cX11_bruisesByWinds 8 = .ok (.invokevirtual 202, 3) ∧ decode cX11_bruisesByWinds 11 = .ok (.iload_n 3, 1) ∧ decode cX11_bruisesByWinds 12 = .ok (.istore 4, 2) ∧ decode cX11_bruisesByWinds 14 = .ok (.iconst 0, 1) := by decide +kernel
theorem dX11_bruisesByWinds_4 : decode cX11_bruisesByWinds 4 = .ok (.aload_n 0, 1) := dGX11_244.1
theorem dX11_bruisesByWinds_5 : decode cX11_bruisesByWinds 5 = .ok (.getfield 10, 3) := dGX11_244.2.1
theorem dX11_bruisesByWinds_8 : decode cX11_bruisesByWinds 8 = .ok (.invokevirtual 202, 3) := dGX11_244.2.2.1
theorem dX11_bruisesByWinds_11 : decode cX11_bruisesByWinds 11 = .ok (.iload_n 3, 1) := dGX11_244.2.2.2.1
theorem dX11_bruisesByWinds_12 : decode cX11_bruisesByWinds 12 = .ok (.istore 4, 2) := dGX11_244.2.2.2.2.1
theorem dX11_bruisesByWinds_14 : decode cX11_bruisesByWinds 14 = .ok (.iconst 0, 1) := dGX11_244.2.2.2.2.2
theorem dGX11_245 : decode cX11_bruisesByWinds 15 = .ok (.istore 5, 2) ∧ decode cX11_bruisesByWinds 17 = .ok (.iload 5, 2) ∧ decode cX11_bruisesByWinds 19 = .ok (.iload_n 2, 1) ∧ decode cX11_bruisesByWinds 20 = .ok (.if_icmp .ge 33, 3) ∧ decode cX11_bruisesByWinds 23 = .ok (.aload_n 0, 1) ∧ decode cX11_bruisesByWinds 24 = .ok (.getfield 16, 3) := by decide +kernel
theorem dX11_bruisesByWinds_15 : decode cX11_bruisesByWinds 15 = .ok (.istore 5, 2) := dGX11_245.1
theorem dX11_bruisesByWinds_17 : decode cX11_bruisesByWinds 17 = .ok (.iload 5, 2) := dGX11_245.2.1
theorem dX11_bruisesByWinds_19 : decode cX11_bruisesByWinds 19 = .ok (.iload_n 2, 1) := dGX11_245.2.2.1
theorem dX11_bruisesByWinds_20 : decode cX11_bruisesByWinds 20 = .ok (.if_icmp .ge 33, 3) := dGX11_245.2.2.2.1
theorem dX11_bruisesByWinds_23 : decode cX11_bruisesByWinds 23 = .ok (.aload_n 0, 1) := dGX11_245.2.2.2.2.1
theorem dX11_bruisesByWinds_24 : decode cX11_bruisesByWinds 24 = .ok (.getfield 16, 3) := dGX11_245.2.2.2.2.2
theorem dGX11_246 : decode cX11_bruisesByWinds 27 = .ok (.aload_n 0, 1) ∧ decode cX11_bruisesByWinds 28 = .ok (.getfield 70, 3) ∧ decode cX11_bruisesByWinds 31 = .ok (.iload 4, 2) ∧ decode cX11_bruisesByWinds 33 = .ok (.bipush 10, 2) ∧ decode cX11_bruisesByWinds 35 = .ok (.irem, 1) ∧ decode cX11_bruisesByWinds 36 = .ok (.invokevirtual 156, 3) := by decide +kernel
theorem dX11_bruisesByWinds_27 : decode cX11_bruisesByWinds 27 = .ok (.aload_n 0, 1) := dGX11_246.1
theorem dX11_bruisesByWinds_28 : decode cX11_bruisesByWinds 28 = .ok (.getfield 70, 3) := dGX11_246.2.1
theorem dX11_bruisesByWinds_31 : decode cX11_bruisesByWinds 31 = .ok (.iload 4, 2) := dGX11_246.2.2.1
theorem dX11_bruisesByWinds_33 : decode cX11_bruisesByWinds 33 = .ok (.bipush 10, 2) := dGX11_246.2.2.2.1
theorem dX11_bruisesByWinds_35 : decode cX11_bruisesByWinds 35 = .ok (.irem, 1) := dGX11_246.2.2.2.2.1
theorem dX11_bruisesByWinds_36 : decode cX11_bruisesByWinds 36 = .ok (.invokevirtual 156, 3) := dGX11_246.2.2.2.2.2
theorem dGX11_247 : decode cX11_bruisesByWinds 39 = .ok (.pop, 1) ∧ decode cX11_bruisesByWinds 40 = .ok (.iload 4, 2) ∧ decode cX11_bruisesByWinds 42 = .ok (.bipush 10, 2) ∧ decode cX11_bruisesByWinds 44 = .ok (.idiv, 1) ∧ decode cX11_bruisesByWinds 45 = .ok (.istore 4, 2) ∧ decode cX11_bruisesByWinds 47 = .ok (.iinc 5 1, 3) := by decide +kernel
theorem dX11_bruisesByWinds_39 : decode cX11_bruisesByWinds 39 = .ok (.pop, 1) := dGX11_247.1
theorem dX11_bruisesByWinds_40 : decode cX11_bruisesByWinds 40 = .ok (.iload 4, 2) := dGX11_247.2.1
theorem dX11_bruisesByWinds_42 : decode cX11_bruisesByWinds 42 = .ok (.bipush 10, 2) := dGX11_247.2.2.1
theorem dX11_bruisesByWinds_44 : decode cX11_bruisesByWinds 44 = .ok (.idiv, 1) := dGX11_247.2.2.2.1
theorem dX11_bruisesByWinds_45 : decode cX11_bruisesByWinds 45 = .ok (.istore 4, 2) := dGX11_247.2.2.2.2.1
theorem dX11_bruisesByWinds_47 : decode cX11_bruisesByWinds 47 = .ok (.iinc 5 1, 3) := dGX11_247.2.2.2.2.2
theorem dGX11_248 : decode cX11_bruisesByWinds 50 = .ok (.goto (-33), 3) ∧ decode cX11_bruisesByWinds 53 = .ok (.aload_n 0, 1) ∧ decode cX11_bruisesByWinds 54 = .ok (.getfield 16, 3) ∧ decode cX11_bruisesByWinds 57 = .ok (.getfield 104, 3) ∧ decode cX11_bruisesByWinds 60 = .ok (.iload_n 1, 1) ∧ decode cX11_bruisesByWinds 61 = .ok (.invokevirtual 124, 3) := by decide +kernel
theorem dX11_bruisesByWinds_50 : decode cX11_bruisesByWinds 50 = .ok (.goto (-33), 3) := dGX11_248.1
theorem dX11_bruisesByWinds_53 : decode cX11_bruisesByWinds 53 = .ok (.aload_n 0, 1) := dGX11_248.2.1
theorem dX11_bruisesByWinds_54 : decode cX11_bruisesByWinds 54 = .ok (.getfield 16, 3) := dGX11_248.2.2.1
theorem dX11_bruisesByWinds_57 : decode cX11_bruisesByWinds 57 = .ok (.getfield 104, 3) := dGX11_248.2.2.2.1
theorem dX11_bruisesByWinds_60 : decode cX11_bruisesByWinds 60 = .ok (.iload_n 1, 1) := dGX11_248.2.2.2.2.1
theorem dX11_bruisesByWinds_61 : decode cX11_bruisesByWinds 61 = .ok (.invokevirtual 124, 3) := dGX11_248.2.2.2.2.2
theorem dGX11_249 : decode cX11_bruisesByWinds 64 = .ok (.ifCond .eq 18, 3) ∧ decode cX11_bruisesByWinds 67 = .ok (.aload_n 0, 1) ∧ decode cX11_bruisesByWinds 68 = .ok (.getfield 16, 3) ∧ decode cX11_bruisesByWinds 71 = .ok (.getfield 104, 3) ∧ decode cX11_bruisesByWinds 74 = .ok (.getfield 199, 3) ∧ decode cX11_bruisesByWinds 77 = .ok (.iload_n 1, 1) := by decide +kernel
theorem dX11_bruisesByWinds_64 : decode cX11_bruisesByWinds 64 = .ok (.ifCond .eq 18, 3) := dGX11_249.1
theorem dX11_bruisesByWinds_67 : decode cX11_bruisesByWinds 67 = .ok (.aload_n 0, 1) := dGX11_249.2.1
theorem dX11_bruisesByWinds_68 : decode cX11_bruisesByWinds 68 = .ok (.getfield 16, 3) := dGX11_249.2.2.1
theorem dX11_bruisesByWinds_71 : decode cX11_bruisesByWinds 71 = .ok (.getfield 104, 3) := dGX11_249.2.2.2.1
theorem dX11_bruisesByWinds_74 : decode cX11_bruisesByWinds 74 = .ok (.getfield 199, 3) := dGX11_249.2.2.2.2.1
theorem dX11_bruisesByWinds_77 : decode cX11_bruisesByWinds 77 = .ok (.iload_n 1, 1) := dGX11_249.2.2.2.2.2
theorem dGX11_250 : decode cX11_bruisesByWinds 78 = .ok (.iaload, 1) ∧ decode cX11_bruisesByWinds 79 = .ok (.goto 4, 3) ∧ decode cX11_bruisesByWinds 82 = .ok (.iconst 0, 1) ∧ decode cX11_bruisesByWinds 83 = .ok (.ireturn, 1) ∧ decode cX11_commonDivisor 0 = .ok (.iload_n 1, 1) ∧ decode cX11_commonDivisor 1 = .ok (.istore_n 2, 1) := by decide +kernel
theorem dX11_bruisesByWinds_78 : decode cX11_bruisesByWinds 78 = .ok (.iaload, 1) := dGX11_250.1
theorem dX11_bruisesByWinds_79 : decode cX11_bruisesByWinds 79 = .ok (.goto 4, 3) := dGX11_250.2.1
theorem dX11_bruisesByWinds_82 : decode cX11_bruisesByWinds 82 = .ok (.iconst 0, 1) := dGX11_250.2.2.1
theorem dX11_bruisesByWinds_83 : decode cX11_bruisesByWinds 83 = .ok (.ireturn, 1) := dGX11_250.2.2.2.1
theorem dX11_commonDivisor_0 : decode cX11_commonDivisor 0 = .ok (.iload_n 1, 1) := dGX11_250.2.2.2.2.1
theorem dX11_commonDivisor_1 : decode cX11_commonDivisor 1 = .ok (.istore_n 2, 1) := dGX11_250.2.2.2.2.2
theorem dGX11_251 : decode cX11_commonDivisor 2 = .ok (.iload_n 0, 1) ∧ decode cX11_commonDivisor 3 = .ok (.istore_n 3, 1) ∧ decode cX11_commonDivisor 4 = .ok (.iconst 0, 1) ∧ decode cX11_commonDivisor 5 = .ok (.istore 4, 2) ∧ decode cX11_commonDivisor 7 = .ok (.iload 4, 2) ∧ decode cX11_commonDivisor 9 = .ok (.bipush 100, 2) := by decide +kernel
theorem dX11_commonDivisor_2 : decode cX11_commonDivisor 2 = .ok (.iload_n 0, 1) := dGX11_251.1
theorem dX11_commonDivisor_3 : decode cX11_commonDivisor 3 = .ok (.istore_n 3, 1) := dGX11_251.2.1
theorem dX11_commonDivisor_4 : decode cX11_commonDivisor 4 = .ok (.iconst 0, 1) := dGX11_251.2.2.1
theorem dX11_commonDivisor_5 : decode cX11_commonDivisor 5 = .ok (.istore 4, 2) := dGX11_251.2.2.2.1
theorem dX11_commonDivisor_7 : decode cX11_commonDivisor 7 = .ok (.iload 4, 2) := dGX11_251.2.2.2.2.1
theorem dX11_commonDivisor_9 : decode cX11_commonDivisor 9 = .ok (.bipush 100, 2) := dGX11_251.2.2.2.2.2
theorem dGX11_252 : decode cX11_commonDivisor 11 = .ok (.if_icmp .ge 23, 3) ∧ decode cX11_commonDivisor 14 = .ok (.iload_n 3, 1) ∧ decode cX11_commonDivisor 15 = .ok (.ifCond .eq 19, 3) ∧ decode cX11_commonDivisor 18 = .ok (.iload_n 2, 1) ∧ decode cX11_commonDivisor 19 = .ok (.iload_n 3, 1) ∧ decode cX11_commonDivisor 20 = .ok (.irem, 1) := by decide +kernel
theorem dX11_commonDivisor_11 : decode cX11_commonDivisor 11 = .ok (.if_icmp .ge 23, 3) := dGX11_252.1
theorem dX11_commonDivisor_14 : decode cX11_commonDivisor 14 = .ok (.iload_n 3, 1) := dGX11_252.2.1
theorem dX11_commonDivisor_15 : decode cX11_commonDivisor 15 = .ok (.ifCond .eq 19, 3) := dGX11_252.2.2.1
theorem dX11_commonDivisor_18 : decode cX11_commonDivisor 18 = .ok (.iload_n 2, 1) := dGX11_252.2.2.2.1
theorem dX11_commonDivisor_19 : decode cX11_commonDivisor 19 = .ok (.iload_n 3, 1) := dGX11_252.2.2.2.2.1
theorem dX11_commonDivisor_20 : decode cX11_commonDivisor 20 = .ok (.irem, 1) := dGX11_252.2.2.2.2.2
theorem dGX11_253 : decode cX11_commonDivisor 21 = .ok (.istore 5, 2) ∧ decode cX11_commonDivisor 23 = .ok (.iload_n 3, 1) ∧ decode cX11_commonDivisor 24 = .ok (.istore_n 2, 1) ∧ decode cX11_commonDivisor 25 = .ok (.iload 5, 2) ∧ decode cX11_commonDivisor 27 = .ok (.istore_n 3, 1) ∧ decode cX11_commonDivisor 28 = .ok (.iinc 4 1, 3) := by decide +kernel
theorem dX11_commonDivisor_21 : decode cX11_commonDivisor 21 = .ok (.istore 5, 2) := dGX11_253.1
theorem dX11_commonDivisor_23 : decode cX11_commonDivisor 23 = .ok (.iload_n 3, 1) := dGX11_253.2.1
theorem dX11_commonDivisor_24 : decode cX11_commonDivisor 24 = .ok (.istore_n 2, 1) := dGX11_253.2.2.1
theorem dX11_commonDivisor_25 : decode cX11_commonDivisor 25 = .ok (.iload 5, 2) := dGX11_253.2.2.2.1
theorem dX11_commonDivisor_27 : decode cX11_commonDivisor 27 = .ok (.istore_n 3, 1) := dGX11_253.2.2.2.2.1
theorem dX11_commonDivisor_28 : decode cX11_commonDivisor 28 = .ok (.iinc 4 1, 3) := dGX11_253.2.2.2.2.2
theorem dGX11_254 : decode cX11_commonDivisor 31 = .ok (.goto (-24), 3) ∧ decode cX11_commonDivisor 34 = .ok (.iload_n 2, 1) ∧ decode cX11_commonDivisor 35 = .ok (.ireturn, 1) := by decide +kernel
theorem dX11_commonDivisor_31 : decode cX11_commonDivisor 31 = .ok (.goto (-24), 3) := dGX11_254.1
theorem dX11_commonDivisor_34 : decode cX11_commonDivisor 34 = .ok (.iload_n 2, 1) := dGX11_254.2.1
theorem dX11_commonDivisor_35 : decode cX11_commonDivisor 35 = .ok (.ireturn, 1) := dGX11_254.2.2
