theorem dGX0_0 : decode cX0_init 0 = .ok (.aload_n 0, 1) ∧ decode cX0_init 1 = .ok (.invokespecial 3, 3) ∧ decode cX0_init 4 = .ok (.aload_n 0, 1) ∧ decode cX0_init 5 = .ok (.iconst 0, 1) ∧ decode cX0_init 6 = .ok (.putfield 9, 3) ∧ decode cX0_init 9 = .ok (.aload_n 0, 1) := by decide +kernel
theorem dX0_init_0 : decode cX0_init 0 = .ok (.aload_n 0, 1) := dGX0_0.1
theorem dX0_init_1 : decode cX0_init 1 = .ok (.invokespecial 3, 3) := dGX0_0.2.1
theorem dX0_init_4 : decode cX0_init 4 = .ok (.aload_n 0, 1) := dGX0_0.2.2.1
theorem dX0_init_5 : decode cX0_init 5 = .ok (.iconst 0, 1) := dGX0_0.2.2.2.1
theorem dX0_init_6 : decode cX0_init 6 = .ok (.putfield 9, 3) := dGX0_0.2.2.2.2.1
theorem dX0_init_9 : decode cX0_init 9 = .ok (.aload_n 0, 1) := dGX0_0.2.2.2.2.2
theorem dGX0_1 : decode cX0_init 10 = .ok (.bipush 8, 2) ∧ decode cX0_init 12 = .ok (.newarray .int, 2) ∧ decode cX0_init 14 = .ok (.putfield 15, 3) ∧ decode cX0_init 17 = .ok (.aload_n 0, 1) ∧ decode cX0_init 18 = .ok (.bipush 8, 2) ∧ decode cX0_init 20 = .ok (.newarray .int, 2) := by decide +kernel
theorem dX0_init_10 : decode cX0_init 10 = .ok (.bipush 8, 2) := dGX0_1.1
theorem dX0_init_12 : decode cX0_init 12 = .ok (.newarray .int, 2) := dGX0_1.2.1
theorem dX0_init_14 : decode cX0_init 14 = .ok (.putfield 15, 3) := dGX0_1.2.2.1
theorem dX0_init_17 : decode cX0_init 17 = .ok (.aload_n 0, 1) := dGX0_1.2.2.2.1
theorem dX0_init_18 : decode cX0_init 18 = .ok (.bipush 8, 2) := dGX0_1.2.2.2.2.1
theorem dX0_init_20 : decode cX0_init 20 = .ok (.newarray .int, 2) := dGX0_1.2.2.2.2.2
theorem dGX0_2 : decode cX0_init 22 = .ok (.putfield 19, 3) ∧ decode cX0_init 25 = .ok (.aload_n 0, 1) ∧ decode cX0_init 26 = .ok (.bipush 8, 2) ∧ decode cX0_init 28 = .ok (.newarray .int, 2) ∧ decode cX0_init 30 = .ok (.putfield 22, 3) ∧ decode cX0_init 33 = .ok (.aload_n 0, 1) := by decide +kernel
theorem dX0_init_22 : decode cX0_init 22 = .ok (.putfield 19, 3) := dGX0_2.1
theorem dX0_init_25 : decode cX0_init 25 = .ok (.aload_n 0, 1) := dGX0_2.2.1
theorem dX0_init_26 : decode cX0_init 26 = .ok (.bipush 8, 2) := dGX0_2.2.2.1
theorem dX0_init_28 : decode cX0_init 28 = .ok (.newarray .int, 2) := dGX0_2.2.2.2.1
theorem dX0_init_30 : decode cX0_init 30 = .ok (.putfield 22, 3) := dGX0_2.2.2.2.2.1
theorem dX0_init_33 : decode cX0_init 33 = .ok (.aload_n 0, 1) := dGX0_2.2.2.2.2.2
theorem dGX0_3 : decode cX0_init 34 = .ok (.bipush 8, 2) ∧ decode cX0_init 36 = .ok (.newarray .int, 2) ∧ decode cX0_init 38 = .ok (.putfield 25, 3) ∧ decode cX0_init 41 = .ok (.aload_n 0, 1) ∧ decode cX0_init 42 = .ok (.bipush 40, 2) ∧ decode cX0_init 44 = .ok (.newarray .int, 2) := by decide +kernel
theorem dX0_init_34 : decode cX0_init 34 = .ok (.bipush 8, 2) := dGX0_3.1
theorem dX0_init_36 : decode cX0_init 36 = .ok (.newarray .int, 2) := dGX0_3.2.1
theorem dX0_init_38 : decode cX0_init 38 = .ok (.putfield 25, 3) := dGX0_3.2.2.1
theorem dX0_init_41 : decode cX0_init 41 = .ok (.aload_n 0, 1) := dGX0_3.2.2.2.1
theorem dX0_init_42 : decode cX0_init 42 = .ok (.bipush 40, 2) := dGX0_3.2.2.2.2.1
theorem dX0_init_44 : decode cX0_init 44 = .ok (.newarray .int, 2) := dGX0_3.2.2.2.2.2
theorem dGX0_4 : decode cX0_init 46 = .ok (.putfield 28, 3) ∧ decode cX0_init 49 = .ok (.return_, 1) ∧ decode cX0_has 0 = .ok (.iload_n 1, 1) ∧ decode cX0_has 1 = .ok (.ifCond .lt 15, 3) ∧ decode cX0_has 4 = .ok (.iload_n 1, 1) ∧ decode cX0_has 5 = .ok (.aload_n 0, 1) := by decide +kernel
theorem dX0_init_46 : decode cX0_init 46 = .ok (.putfield 28, 3) := dGX0_4.1
theorem dX0_init_49 : decode cX0_init 49 = .ok (.return_, 1) := dGX0_4.2.1
theorem dX0_has_0 : decode cX0_has 0 = .ok (.iload_n 1, 1) := dGX0_4.2.2.1
theorem dX0_has_1 : decode cX0_has 1 = .ok (.ifCond .lt 15, 3) := dGX0_4.2.2.2.1
theorem dX0_has_4 : decode cX0_has 4 = .ok (.iload_n 1, 1) := dGX0_4.2.2.2.2.1
theorem dX0_has_5 : decode cX0_has 5 = .ok (.aload_n 0, 1) := dGX0_4.2.2.2.2.2
theorem dGX0_5 : decode cX0_has 6 = .ok (.getfield 9, 3) ∧ decode cX0_has 9 = .ok (.if_icmp .ge 7, 3) ∧ decode cX0_has 12 = .ok (.iconst 1, 1) ∧ decode cX0_has 13 = .ok (.goto 4, 3) ∧ decode cX0_has 16 = .ok (.iconst 0, 1) ∧ decode cX0_has 17 = .ok (.ireturn, 1) := by decide +kernel
theorem dX0_has_6 : decode cX0_has 6 = .ok (.getfield 9, 3) := dGX0_5.1
theorem dX0_has_9 : decode cX0_has 9 = .ok (.if_icmp .ge 7, 3) := dGX0_5.2.1
theorem dX0_has_12 : decode cX0_has 12 = .ok (.iconst 1, 1) := dGX0_5.2.2.1
theorem dX0_has_13 : decode cX0_has 13 = .ok (.goto 4, 3) := dGX0_5.2.2.2.1
theorem dX0_has_16 : decode cX0_has 16 = .ok (.iconst 0, 1) := dGX0_5.2.2.2.2.1
theorem dX0_has_17 : decode cX0_has 17 = .ok (.ireturn, 1) := dGX0_5.2.2.2.2.2
theorem dGX0_6 : decode cX0_add 0 = .ok (.aload_n 0, 1) ∧ decode cX0_add 1 = .ok (.getfield 9, 3) ∧ decode cX0_add 4 = .ok (.bipush 8, 2) ∧ decode cX0_add 6 = .ok (.if_icmp .lt 5, 3) ∧ decode cX0_add 9 = .ok (.iconst (-1), 1) ∧ decode cX0_add 10 = .ok (.ireturn, 1) := by decide +kernel
theorem dX0_add_0 : decode cX0_add 0 = .ok (.aload_n 0, 1) := dGX0_6.1
theorem dX0_add_1 : decode cX0_add 1 = .ok (.getfield 9, 3) := dGX0_6.2.1
theorem dX0_add_4 : decode cX0_add 4 = .ok (.bipush 8, 2) := dGX0_6.2.2.1
theorem dX0_add_6 : decode cX0_add 6 = .ok (.if_icmp .lt 5, 3) := dGX0_6.2.2.2.1
theorem dX0_add_9 : decode cX0_add 9 = .ok (.iconst (-1), 1) := dGX0_6.2.2.2.2.1
theorem dX0_add_10 : decode cX0_add 10 = .ok (.ireturn, 1) := dGX0_6.2.2.2.2.2
theorem dGX0_7 : decode cX0_add 11 = .ok (.aload_n 0, 1) ∧ decode cX0_add 12 = .ok (.getfield 15, 3) ∧ decode cX0_add 15 = .ok (.aload_n 0, 1) ∧ decode cX0_add 16 = .ok (.getfield 9, 3) ∧ decode cX0_add 19 = .ok (.bipush 10, 2) ∧ decode cX0_add 21 = .ok (.iastore, 1) := by decide +kernel
theorem dX0_add_11 : decode cX0_add 11 = .ok (.aload_n 0, 1) := dGX0_7.1
theorem dX0_add_12 : decode cX0_add 12 = .ok (.getfield 15, 3) := dGX0_7.2.1
theorem dX0_add_15 : decode cX0_add 15 = .ok (.aload_n 0, 1) := dGX0_7.2.2.1
theorem dX0_add_16 : decode cX0_add 16 = .ok (.getfield 9, 3) := dGX0_7.2.2.2.1
theorem dX0_add_19 : decode cX0_add 19 = .ok (.bipush 10, 2) := dGX0_7.2.2.2.2.1
theorem dX0_add_21 : decode cX0_add 21 = .ok (.iastore, 1) := dGX0_7.2.2.2.2.2
theorem dGX0_8 : decode cX0_add 22 = .ok (.aload_n 0, 1) ∧ decode cX0_add 23 = .ok (.getfield 19, 3) ∧ decode cX0_add 26 = .ok (.aload_n 0, 1) ∧ decode cX0_add 27 = .ok (.getfield 9, 3) ∧ decode cX0_add 30 = .ok (.iload_n 1, 1) ∧ decode cX0_add 31 = .ok (.iastore, 1) := by decide +kernel
theorem dX0_add_22 : decode cX0_add 22 = .ok (.aload_n 0, 1) := dGX0_8.1
theorem dX0_add_23 : decode cX0_add 23 = .ok (.getfield 19, 3) := dGX0_8.2.1
theorem dX0_add_26 : decode cX0_add 26 = .ok (.aload_n 0, 1) := dGX0_8.2.2.1
theorem dX0_add_27 : decode cX0_add 27 = .ok (.getfield 9, 3) := dGX0_8.2.2.2.1
theorem dX0_add_30 : decode cX0_add 30 = .ok (.iload_n 1, 1) := dGX0_8.2.2.2.2.1
theorem dX0_add_31 : decode cX0_add 31 = .ok (.iastore, 1) := dGX0_8.2.2.2.2.2
theorem dGX0_9 : decode cX0_add 32 = .ok (.aload_n 0, 1) ∧ decode cX0_add 33 = .ok (.dup, 1) ∧ decode cX0_add 34 = .ok (.getfield 9, 3) ∧ decode cX0_add 37 = .ok (.iconst 1, 1) ∧ decode cX0_add 38 = .ok (.iadd, 1) ∧ decode cX0_add 39 = .ok (.putfield 9, 3) := by decide +kernel
theorem dX0_add_32 : decode cX0_add 32 = .ok (.aload_n 0, 1) := dGX0_9.1
theorem dX0_add_33 : decode cX0_add 33 = .ok (.dup, 1) := dGX0_9.2.1
theorem dX0_add_34 : decode cX0_add 34 = .ok (.getfield 9, 3) := dGX0_9.2.2.1
theorem dX0_add_37 : decode cX0_add 37 = .ok (.iconst 1, 1) := dGX0_9.2.2.2.1
theorem dX0_add_38 : decode cX0_add 38 = .ok (.iadd, 1) := dGX0_9.2.2.2.2.1
theorem dX0_add_39 : decode cX0_add 39 = .ok (.putfield 9, 3) := dGX0_9.2.2.2.2.2
theorem dGX0_10 : decode cX0_add 42 = .ok (.aload_n 0, 1) ∧ decode cX0_add 43 = .ok (.getfield 9, 3) ∧ decode cX0_add 46 = .ok (.iconst 1, 1) ∧ decode cX0_add 47 = .ok (.isub, 1) ∧ decode cX0_add 48 = .ok (.ireturn, 1) ∧ decode cX0_bitsOn 0 = .ok (.iconst 0, 1) := by decide +kernel
theorem dX0_add_42 : decode cX0_add 42 = .ok (.aload_n 0, 1) := dGX0_10.1
theorem dX0_add_43 : decode cX0_add 43 = .ok (.getfield 9, 3) := dGX0_10.2.1
theorem dX0_add_46 : decode cX0_add 46 = .ok (.iconst 1, 1) := dGX0_10.2.2.1
theorem dX0_add_47 : decode cX0_add 47 = .ok (.isub, 1) := dGX0_10.2.2.2.1
theorem dX0_add_48 : decode cX0_add 48 = .ok (.ireturn, 1) := dGX0_10.2.2.2.2.1
theorem dX0_bitsOn_0 : decode cX0_bitsOn 0 = .ok (.iconst 0, 1) := dGX0_10.2.2.2.2.2
theorem dGX0_11 : decode cX0_bitsOn 1 = .ok (.istore_n 2, 1) ∧ decode cX0_bitsOn 2 = .ok (.iconst 0, 1) ∧ decode cX0_bitsOn 3 = .ok (.istore_n 3, 1) ∧ decode cX0_bitsOn 4 = .ok (.iload_n 3, 1) ∧ decode cX0_bitsOn 5 = .ok (.aload_n 0, 1) ∧ decode cX0_bitsOn 6 = .ok (.getfield 9, 3) := by decide +kernel
theorem dX0_bitsOn_1 : decode cX0_bitsOn 1 = .ok (.istore_n 2, 1) := dGX0_11.1
theorem dX0_bitsOn_2 : decode cX0_bitsOn 2 = .ok (.iconst 0, 1) := dGX0_11.2.1
theorem dX0_bitsOn_3 : decode cX0_bitsOn 3 = .ok (.istore_n 3, 1) := dGX0_11.2.2.1
theorem dX0_bitsOn_4 : decode cX0_bitsOn 4 = .ok (.iload_n 3, 1) := dGX0_11.2.2.2.1
theorem dX0_bitsOn_5 : decode cX0_bitsOn 5 = .ok (.aload_n 0, 1) := dGX0_11.2.2.2.2.1
theorem dX0_bitsOn_6 : decode cX0_bitsOn 6 = .ok (.getfield 9, 3) := dGX0_11.2.2.2.2.2
theorem dGX0_12 : decode cX0_bitsOn 9 = .ok (.if_icmp .ge 25, 3) ∧ decode cX0_bitsOn 12 = .ok (.aload_n 0, 1) ∧ decode cX0_bitsOn 13 = .ok (.getfield 15, 3) ∧ decode cX0_bitsOn 16 = .ok (.iload_n 3, 1) ∧ decode cX0_bitsOn 17 = .ok (.iaload, 1) ∧ decode cX0_bitsOn 18 = .ok (.iload_n 1, 1) := by decide +kernel
theorem dX0_bitsOn_9 : decode cX0_bitsOn 9 = .ok (.if_icmp .ge 25, 3) := dGX0_12.1
theorem dX0_bitsOn_12 : decode cX0_bitsOn 12 = .ok (.aload_n 0, 1) := dGX0_12.2.1
theorem dX0_bitsOn_13 : decode cX0_bitsOn 13 = .ok (.getfield 15, 3) := dGX0_12.2.2.1
theorem dX0_bitsOn_16 : decode cX0_bitsOn 16 = .ok (.iload_n 3, 1) := dGX0_12.2.2.2.1
theorem dX0_bitsOn_17 : decode cX0_bitsOn 17 = .ok (.iaload, 1) := dGX0_12.2.2.2.2.1
theorem dX0_bitsOn_18 : decode cX0_bitsOn 18 = .ok (.iload_n 1, 1) := dGX0_12.2.2.2.2.2
theorem dGX0_13 : decode cX0_bitsOn 19 = .ok (.if_icmp .ne 9, 3) ∧ decode cX0_bitsOn 22 = .ok (.iload_n 2, 1) ∧ decode cX0_bitsOn 23 = .ok (.iconst 1, 1) ∧ decode cX0_bitsOn 24 = .ok (.iload_n 3, 1) ∧ decode cX0_bitsOn 25 = .ok (.ishl, 1) ∧ decode cX0_bitsOn 26 = .ok (.ior, 1) := by decide +kernel
theorem dX0_bitsOn_19 : decode cX0_bitsOn 19 = .ok (.if_icmp .ne 9, 3) := dGX0_13.1
theorem dX0_bitsOn_22 : decode cX0_bitsOn 22 = .ok (.iload_n 2, 1) := dGX0_13.2.1
theorem dX0_bitsOn_23 : decode cX0_bitsOn 23 = .ok (.iconst 1, 1) := dGX0_13.2.2.1
theorem dX0_bitsOn_24 : decode cX0_bitsOn 24 = .ok (.iload_n 3, 1) := dGX0_13.2.2.2.1
theorem dX0_bitsOn_25 : decode cX0_bitsOn 25 = .ok (.ishl, 1) := dGX0_13.2.2.2.2.1
theorem dX0_bitsOn_26 : decode cX0_bitsOn 26 = .ok (.ior, 1) := dGX0_13.2.2.2.2.2
theorem dGX0_14 : decode cX0_bitsOn 27 = .ok (.istore_n 2, 1) ∧ decode cX0_bitsOn 28 = .ok (.iinc 3 1, 3) ∧ decode cX0_bitsOn 31 = .ok (.goto (-27), 3) ∧ decode cX0_bitsOn 34 = .ok (.iload_n 2, 1) ∧ decode cX0_bitsOn 35 = .ok (.ireturn, 1) ∧ decode cX0_skillInAll 0 = .ok (.iconst 0, 1) := by decide +kernel
theorem dX0_bitsOn_27 : decode cX0_bitsOn 27 = .ok (.istore_n 2, 1) := dGX0_14.1
theorem dX0_bitsOn_28 : decode cX0_bitsOn 28 = .ok (.iinc 3 1, 3) := dGX0_14.2.1
theorem dX0_bitsOn_31 : decode cX0_bitsOn 31 = .ok (.goto (-27), 3) := dGX0_14.2.2.1
theorem dX0_bitsOn_34 : decode cX0_bitsOn 34 = .ok (.iload_n 2, 1) := dGX0_14.2.2.2.1
theorem dX0_bitsOn_35 : decode cX0_bitsOn 35 = .ok (.ireturn, 1) := dGX0_14.2.2.2.2.1
theorem dX0_skillInAll_0 : decode cX0_skillInAll 0 = .ok (.iconst 0, 1) := dGX0_14.2.2.2.2.2
theorem dGX0_15 : decode cX0_skillInAll 1 = .ok (.istore_n 2, 1) ∧ decode cX0_skillInAll 2 = .ok (.iconst 0, 1) ∧ decode cX0_skillInAll 3 = .ok (.istore_n 3, 1) ∧ decode cX0_skillInAll 4 = .ok (.iload_n 3, 1) ∧ decode cX0_skillInAll 5 = .ok (.iconst 5, 1) ∧ decode cX0_skillInAll 6 = .ok (.if_icmp .ge 30, 3) := by decide +kernel
theorem dX0_skillInAll_1 : decode cX0_skillInAll 1 = .ok (.istore_n 2, 1) := dGX0_15.1
theorem dX0_skillInAll_2 : decode cX0_skillInAll 2 = .ok (.iconst 0, 1) := dGX0_15.2.1
theorem dX0_skillInAll_3 : decode cX0_skillInAll 3 = .ok (.istore_n 3, 1) := dGX0_15.2.2.1
theorem dX0_skillInAll_4 : decode cX0_skillInAll 4 = .ok (.iload_n 3, 1) := dGX0_15.2.2.2.1
theorem dX0_skillInAll_5 : decode cX0_skillInAll 5 = .ok (.iconst 5, 1) := dGX0_15.2.2.2.2.1
theorem dX0_skillInAll_6 : decode cX0_skillInAll 6 = .ok (.if_icmp .ge 30, 3) := dGX0_15.2.2.2.2.2
theorem dGX0_16 : decode cX0_skillInAll 9 = .ok (.aload_n 0, 1) ∧ decode cX0_skillInAll 10 = .ok (.iload_n 1, 1) ∧ decode cX0_skillInAll 11 = .ok (.invokevirtual 31, 3) ∧ decode cX0_skillInAll 14 = .ok (.ifCond .eq 22, 3) ∧ decode cX0_skillInAll 17 = .ok (.iload_n 2, 1) ∧ decode cX0_skillInAll 18 = .ok (.aload_n 0, 1) := by decide +kernel
theorem dX0_skillInAll_9 : decode cX0_skillInAll 9 = .ok (.aload_n 0, 1) := dGX0_16.1
theorem dX0_skillInAll_10 : decode cX0_skillInAll 10 = .ok (.iload_n 1, 1) := dGX0_16.2.1
theorem dX0_skillInAll_11 : decode cX0_skillInAll 11 = .ok (.invokevirtual 31, 3) := dGX0_16.2.2.1
theorem dX0_skillInAll_14 : decode cX0_skillInAll 14 = .ok (.ifCond .eq 22, 3) := dGX0_16.2.2.2.1
theorem dX0_skillInAll_17 : decode cX0_skillInAll 17 = .ok (.iload_n 2, 1) := dGX0_16.2.2.2.2.1
theorem dX0_skillInAll_18 : decode cX0_skillInAll 18 = .ok (.aload_n 0, 1) := dGX0_16.2.2.2.2.2
theorem dGX0_17 : decode cX0_skillInAll 19 = .ok (.getfield 28, 3) ∧ decode cX0_skillInAll 22 = .ok (.iload_n 1, 1) ∧ decode cX0_skillInAll 23 = .ok (.iconst 5, 1) ∧ decode cX0_skillInAll 24 = .ok (.imul, 1) ∧ decode cX0_skillInAll 25 = .ok (.iload_n 3, 1) ∧ decode cX0_skillInAll 26 = .ok (.iadd, 1) := by decide +kernel
theorem dX0_skillInAll_19 : decode cX0_skillInAll 19 = .ok (.getfield 28, 3) := dGX0_17.1
theorem dX0_skillInAll_22 : decode cX0_skillInAll 22 = .ok (.iload_n 1, 1) := dGX0_17.2.1
theorem dX0_skillInAll_23 : decode cX0_skillInAll 23 = .ok (.iconst 5, 1) := dGX0_17.2.2.1
theorem dX0_skillInAll_24 : decode cX0_skillInAll 24 = .ok (.imul, 1) := dGX0_17.2.2.2.1
theorem dX0_skillInAll_25 : decode cX0_skillInAll 25 = .ok (.iload_n 3, 1) := dGX0_17.2.2.2.2.1
theorem dX0_skillInAll_26 : decode cX0_skillInAll 26 = .ok (.iadd, 1) := dGX0_17.2.2.2.2.2
theorem dGX0_18 : decode cX0_skillInAll 27 = .ok (.iaload, 1) ∧ decode cX0_skillInAll 28 = .ok (.iadd, 1) ∧ decode cX0_skillInAll 29 = .ok (.istore_n 2, 1) ∧ decode cX0_skillInAll 30 = .ok (.iinc 3 1, 3) ∧ decode cX0_skillInAll 33 = .ok (.goto (-29), 3) ∧ decode cX0_skillInAll 36 = .ok (.iload_n 2, 1) := by decide +kernel
theorem dX0_skillInAll_27 : decode cX0_skillInAll 27 = .ok (.iaload, 1) := dGX0_18.1
theorem dX0_skillInAll_28 : decode cX0_skillInAll 28 = .ok (.iadd, 1) := dGX0_18.2.1
theorem dX0_skillInAll_29 : decode cX0_skillInAll 29 = .ok (.istore_n 2, 1) := dGX0_18.2.2.1
theorem dX0_skillInAll_30 : decode cX0_skillInAll 30 = .ok (.iinc 3 1, 3) := dGX0_18.2.2.2.1
theorem dX0_skillInAll_33 : decode cX0_skillInAll 33 = .ok (.goto (-29), 3) := dGX0_18.2.2.2.2.1
theorem dX0_skillInAll_36 : decode cX0_skillInAll 36 = .ok (.iload_n 2, 1) := dGX0_18.2.2.2.2.2
theorem dGX0_19 : decode cX0_skillInAll 37 = .ok (.ireturn, 1) ∧ decode cX0_copyFrom 0 = .ok (.aload_n 0, 1) ∧ decode cX0_copyFrom 1 = .ok (.aload_n 1, 1) ∧ decode cX0_copyFrom 2 = .ok (.getfield 9, 3) ∧ decode cX0_copyFrom 5 = .ok (.putfield 9, 3) ∧ decode cX0_copyFrom 8 = .ok (.aload_n 1, 1) := by decide +kernel
theorem dX0_skillInAll_37 : decode cX0_skillInAll 37 = .ok (.ireturn, 1) := dGX0_19.1
theorem dX0_copyFrom_0 : decode cX0_copyFrom 0 = .ok (.aload_n 0, 1) := dGX0_19.2.1
theorem dX0_copyFrom_1 : decode cX0_copyFrom 1 = .ok (.aload_n 1, 1) := dGX0_19.2.2.1
theorem dX0_copyFrom_2 : decode cX0_copyFrom 2 = .ok (.getfield 9, 3) := dGX0_19.2.2.2.1
theorem dX0_copyFrom_5 : decode cX0_copyFrom 5 = .ok (.putfield 9, 3) := dGX0_19.2.2.2.2.1
theorem dX0_copyFrom_8 : decode cX0_copyFrom 8 = .ok (.aload_n 1, 1) := dGX0_19.2.2.2.2.2
theorem dGX0_20 : decode cX0_copyFrom 9 = .ok (.getfield 15, 3) ∧ decode cX0_copyFrom 12 = .ok (.iconst 0, 1) ∧ decode cX0_copyFrom 13 = .ok (.aload_n 0, 1) ∧ decode cX0_copyFrom 14 = .ok (.getfield 15, 3) ∧ decode cX0_copyFrom 17 = .ok (.iconst 0, 1) ∧ decode cX0_copyFrom 18 = .ok (.bipush 8, 2) := by decide +kernel
theorem dX0_copyFrom_9 : decode cX0_copyFrom 9 = .ok (.getfield 15, 3) := dGX0_20.1
theorem dX0_copyFrom_12 : decode cX0_copyFrom 12 = .ok (.iconst 0, 1) := dGX0_20.2.1
theorem dX0_copyFrom_13 : decode cX0_copyFrom 13 = .ok (.aload_n 0, 1) := dGX0_20.2.2.1
theorem dX0_copyFrom_14 : decode cX0_copyFrom 14 = .ok (.getfield 15, 3) := dGX0_20.2.2.2.1
theorem dX0_copyFrom_17 : decode cX0_copyFrom 17 = .ok (.iconst 0, 1) := dGX0_20.2.2.2.2.1
theorem dX0_copyFrom_18 : decode cX0_copyFrom 18 = .ok (.bipush 8, 2) := dGX0_20.2.2.2.2.2
theorem dGX0_21 : decode cX0_copyFrom 20 = .ok (.invokestatic 35, 3) ∧ decode cX0_copyFrom 23 = .ok (.aload_n 1, 1) ∧ decode cX0_copyFrom 24 = .ok (.getfield 19, 3) ∧ decode cX0_copyFrom 27 = .ok (.iconst 0, 1) ∧ decode cX0_copyFrom 28 = .ok (.aload_n 0, 1) ∧ decode cX0_copyFrom 29 = .ok (.getfield 19, 3) := by decide +kernel
theorem dX0_copyFrom_20 : decode cX0_copyFrom 20 = .ok (.invokestatic 35, 3) := dGX0_21.1
theorem dX0_copyFrom_23 : decode cX0_copyFrom 23 = .ok (.aload_n 1, 1) := dGX0_21.2.1
theorem dX0_copyFrom_24 : decode cX0_copyFrom 24 = .ok (.getfield 19, 3) := dGX0_21.2.2.1
theorem dX0_copyFrom_27 : decode cX0_copyFrom 27 = .ok (.iconst 0, 1) := dGX0_21.2.2.2.1
theorem dX0_copyFrom_28 : decode cX0_copyFrom 28 = .ok (.aload_n 0, 1) := dGX0_21.2.2.2.2.1
theorem dX0_copyFrom_29 : decode cX0_copyFrom 29 = .ok (.getfield 19, 3) := dGX0_21.2.2.2.2.2
theorem dGX0_22 : decode cX0_copyFrom 32 = .ok (.iconst 0, 1) ∧ decode cX0_copyFrom 33 = .ok (.bipush 8, 2) ∧ decode cX0_copyFrom 35 = .ok (.invokestatic 35, 3) ∧ decode cX0_copyFrom 38 = .ok (.aload_n 1, 1) ∧ decode cX0_copyFrom 39 = .ok (.getfield 22, 3) ∧ decode cX0_copyFrom 42 = .ok (.iconst 0, 1) := by decide +kernel
theorem dX0_copyFrom_32 : decode cX0_copyFrom 32 = .ok (.iconst 0, 1) := dGX0_22.1
theorem dX0_copyFrom_33 : decode cX0_copyFrom 33 = .ok (.bipush 8, 2) := dGX0_22.2.1
theorem dX0_copyFrom_35 : decode cX0_copyFrom 35 = .ok (.invokestatic 35, 3) := dGX0_22.2.2.1
theorem dX0_copyFrom_38 : decode cX0_copyFrom 38 = .ok (.aload_n 1, 1) := dGX0_22.2.2.2.1
theorem dX0_copyFrom_39 : decode cX0_copyFrom 39 = .ok (.getfield 22, 3) := dGX0_22.2.2.2.2.1
theorem dX0_copyFrom_42 : decode cX0_copyFrom 42 = .ok (.iconst 0, 1) := dGX0_22.2.2.2.2.2
theorem dGX0_23 : decode cX0_copyFrom 43 = .ok (.aload_n 0, 1) ∧ decode cX0_copyFrom 44 = .ok (.getfield 22, 3) ∧ decode cX0_copyFrom 47 = .ok (.iconst 0, 1) ∧ decode cX0_copyFrom 48 = .ok (.bipush 8, 2) ∧ decode cX0_copyFrom 50 = .ok (.invokestatic 35, 3) ∧ decode cX0_copyFrom 53 = .ok (.aload_n 1, 1) := by decide +kernel
theorem dX0_copyFrom_43 : decode cX0_copyFrom 43 = .ok (.aload_n 0, 1) := dGX0_23.1
theorem dX0_copyFrom_44 : decode cX0_copyFrom 44 = .ok (.getfield 22, 3) := dGX0_23.2.1
theorem dX0_copyFrom_47 : decode cX0_copyFrom 47 = .ok (.iconst 0, 1) := dGX0_23.2.2.1
theorem dX0_copyFrom_48 : decode cX0_copyFrom 48 = .ok (.bipush 8, 2) := dGX0_23.2.2.2.1
theorem dX0_copyFrom_50 : decode cX0_copyFrom 50 = .ok (.invokestatic 35, 3) := dGX0_23.2.2.2.2.1
theorem dX0_copyFrom_53 : decode cX0_copyFrom 53 = .ok (.aload_n 1, 1) := dGX0_23.2.2.2.2.2
theorem dGX0_24 : decode cX0_copyFrom 54 = .ok (.getfield 25, 3) ∧ decode cX0_copyFrom 57 = .ok (.iconst 0, 1) ∧ decode cX0_copyFrom 58 = .ok (.aload_n 0, 1) ∧ decode cX0_copyFrom 59 = .ok (.getfield 25, 3) ∧ decode cX0_copyFrom 62 = .ok (.iconst 0, 1) ∧ decode cX0_copyFrom 63 = .ok (.bipush 8, 2) := by decide +kernel
theorem dX0_copyFrom_54 : decode cX0_copyFrom 54 = .ok (.getfield 25, 3) := dGX0_24.1
theorem dX0_copyFrom_57 : decode cX0_copyFrom 57 = .ok (.iconst 0, 1) := dGX0_24.2.1
theorem dX0_copyFrom_58 : decode cX0_copyFrom 58 = .ok (.aload_n 0, 1) := dGX0_24.2.2.1
theorem dX0_copyFrom_59 : decode cX0_copyFrom 59 = .ok (.getfield 25, 3) := dGX0_24.2.2.2.1
theorem dX0_copyFrom_62 : decode cX0_copyFrom 62 = .ok (.iconst 0, 1) := dGX0_24.2.2.2.2.1
theorem dX0_copyFrom_63 : decode cX0_copyFrom 63 = .ok (.bipush 8, 2) := dGX0_24.2.2.2.2.2
theorem dGX0_25 : decode cX0_copyFrom 65 = .ok (.invokestatic 35, 3) ∧ decode cX0_copyFrom 68 = .ok (.aload_n 1, 1) ∧ decode cX0_copyFrom 69 = .ok (.getfield 28, 3) ∧ decode cX0_copyFrom 72 = .ok (.iconst 0, 1) ∧ decode cX0_copyFrom 73 = .ok (.aload_n 0, 1) ∧ decode cX0_copyFrom 74 = .ok (.getfield 28, 3) := by decide +kernel
theorem dX0_copyFrom_65 : decode cX0_copyFrom 65 = .ok (.invokestatic 35, 3) := dGX0_25.1
theorem dX0_copyFrom_68 : decode cX0_copyFrom 68 = .ok (.aload_n 1, 1) := dGX0_25.2.1
theorem dX0_copyFrom_69 : decode cX0_copyFrom 69 = .ok (.getfield 28, 3) := dGX0_25.2.2.1
theorem dX0_copyFrom_72 : decode cX0_copyFrom 72 = .ok (.iconst 0, 1) := dGX0_25.2.2.2.1
theorem dX0_copyFrom_73 : decode cX0_copyFrom 73 = .ok (.aload_n 0, 1) := dGX0_25.2.2.2.2.1
theorem dX0_copyFrom_74 : decode cX0_copyFrom 74 = .ok (.getfield 28, 3) := dGX0_25.2.2.2.2.2
theorem dGX0_26 : decode cX0_copyFrom 77 = .ok (.iconst 0, 1) ∧ decode cX0_copyFrom 78 = .ok (.bipush 40, 2) ∧ decode cX0_copyFrom 80 = .ok (.invokestatic 35, 3) ∧ decode cX0_copyFrom 83 = .ok (.return_, 1) := by decide +kernel
theorem dX0_copyFrom_77 : decode cX0_copyFrom 77 = .ok (.iconst 0, 1) := dGX0_26.1
theorem dX0_copyFrom_78 : decode cX0_copyFrom 78 = .ok (.bipush 40, 2) := dGX0_26.2.1
theorem dX0_copyFrom_80 : decode cX0_copyFrom 80 = .ok (.invokestatic 35, 3) := dGX0_26.2.2.1
theorem dX0_copyFrom_83 : decode cX0_copyFrom 83 = .ok (.return_, 1) := dGX0_26.2.2.2
theorem dGX1_0 : decode cX1_init 0 = .ok (.aload_n 0, 1) ∧ decode cX1_init 1 = .ok (.invokespecial 3, 3) ∧ decode cX1_init 4 = .ok (.aload_n 0, 1) ∧ decode cX1_init 5 = .ok (.iconst 0, 1) ∧ decode cX1_init 6 = .ok (.putfield 9, 3) ∧ decode cX1_init 9 = .ok (.aload_n 0, 1) := by decide +kernel
theorem dX1_init_0 : decode cX1_init 0 = .ok (.aload_n 0, 1) := dGX1_0.1
theorem dX1_init_1 : decode cX1_init 1 = .ok (.invokespecial 3, 3) := dGX1_0.2.1
theorem dX1_init_4 : decode cX1_init 4 = .ok (.aload_n 0, 1) := dGX1_0.2.2.1
theorem dX1_init_5 : decode cX1_init 5 = .ok (.iconst 0, 1) := dGX1_0.2.2.2.1
theorem dX1_init_6 : decode cX1_init 6 = .ok (.putfield 9, 3) := dGX1_0.2.2.2.2.1
theorem dX1_init_9 : decode cX1_init 9 = .ok (.aload_n 0, 1) := dGX1_0.2.2.2.2.2
theorem dGX1_1 : decode cX1_init 10 = .ok (.bipush 8, 2) ∧ decode cX1_init 12 = .ok (.newarray .int, 2) ∧ decode cX1_init 14 = .ok (.putfield 15, 3) ∧ decode cX1_init 17 = .ok (.aload_n 0, 1) ∧ decode cX1_init 18 = .ok (.bipush 8, 2) ∧ decode cX1_init 20 = .ok (.newarray .int, 2) := by decide +kernel
theorem dX1_init_10 : decode cX1_init 10 = .ok (.bipush 8, 2) := dGX1_1.1
theorem dX1_init_12 : decode cX1_init 12 = .ok (.newarray .int, 2) := dGX1_1.2.1
theorem dX1_init_14 : decode cX1_init 14 = .ok (.putfield 15, 3) := dGX1_1.2.2.1
theorem dX1_init_17 : decode cX1_init 17 = .ok (.aload_n 0, 1) := dGX1_1.2.2.2.1
theorem dX1_init_18 : decode cX1_init 18 = .ok (.bipush 8, 2) := dGX1_1.2.2.2.2.1
theorem dX1_init_20 : decode cX1_init 20 = .ok (.newarray .int, 2) := dGX1_1.2.2.2.2.2
theorem dGX1_2 : decode cX1_init 22 = .ok (.putfield 19, 3) ∧ decode cX1_init 25 = .ok (.aload_n 0, 1) ∧ decode cX1_init 26 = .ok (.bipush 8, 2) ∧ decode cX1_init 28 = .ok (.newarray .int, 2) ∧ decode cX1_init 30 = .ok (.putfield 22, 3) ∧ decode cX1_init 33 = .ok (.return_, 1) := by decide +kernel
theorem dX1_init_22 : decode cX1_init 22 = .ok (.putfield 19, 3) := dGX1_2.1
theorem dX1_init_25 : decode cX1_init 25 = .ok (.aload_n 0, 1) := dGX1_2.2.1
theorem dX1_init_26 : decode cX1_init 26 = .ok (.bipush 8, 2) := dGX1_2.2.2.1
theorem dX1_init_28 : decode cX1_init 28 = .ok (.newarray .int, 2) := dGX1_2.2.2.2.1
theorem dX1_init_30 : decode cX1_init 30 = .ok (.putfield 22, 3) := dGX1_2.2.2.2.2.1
theorem dX1_init_33 : decode cX1_init 33 = .ok (.return_, 1) := dGX1_2.2.2.2.2.2
theorem dGX1_3 : decode cX1_search 0 = .ok (.aload_n 1, 1) ∧ decode cX1_search 1 = .ok (.getfield 25, 3) ∧ decode cX1_search 4 = .ok (.getfield 31, 3) ∧ decode cX1_search 7 = .ok (.istore 4, 2) ∧ decode cX1_search 9 = .ok (.iconst 0, 1) ∧ decode cX1_search 10 = .ok (.istore 5, 2) := by decide +kernel
theorem dX1_search_0 : decode cX1_search 0 = .ok (.aload_n 1, 1) := dGX1_3.1
theorem dX1_search_1 : decode cX1_search 1 = .ok (.getfield 25, 3) := dGX1_3.2.1
theorem dX1_search_4 : decode cX1_search 4 = .ok (.getfield 31, 3) := dGX1_3.2.2.1
theorem dX1_search_7 : decode cX1_search 7 = .ok (.istore 4, 2) := dGX1_3.2.2.2.1
theorem dX1_search_9 : decode cX1_search 9 = .ok (.iconst 0, 1) := dGX1_3.2.2.2.2.1
theorem dX1_search_10 : decode cX1_search 10 = .ok (.istore 5, 2) := dGX1_3.2.2.2.2.2
theorem dGX1_4 : decode cX1_search 12 = .ok (.iload 5, 2) ∧ decode cX1_search 14 = .ok (.iload 4, 2) ∧ decode cX1_search 16 = .ok (.if_icmp .ge 22, 3) ∧ decode cX1_search 19 = .ok (.aload_n 0, 1) ∧ decode cX1_search 20 = .ok (.getfield 22, 3) ∧ decode cX1_search 23 = .ok (.iload 5, 2) := by decide +kernel
theorem dX1_search_12 : decode cX1_search 12 = .ok (.iload 5, 2) := dGX1_4.1
theorem dX1_search_14 : decode cX1_search 14 = .ok (.iload 4, 2) := dGX1_4.2.1
theorem dX1_search_16 : decode cX1_search 16 = .ok (.if_icmp .ge 22, 3) := dGX1_4.2.2.1
theorem dX1_search_19 : decode cX1_search 19 = .ok (.aload_n 0, 1) := dGX1_4.2.2.2.1
theorem dX1_search_20 : decode cX1_search 20 = .ok (.getfield 22, 3) := dGX1_4.2.2.2.2.1
theorem dX1_search_23 : decode cX1_search 23 = .ok (.iload 5, 2) := dGX1_4.2.2.2.2.2
theorem dGX1_5 : decode cX1_search 25 = .ok (.aload_n 1, 1) ∧ decode cX1_search 26 = .ok (.iload 5, 2) ∧ decode cX1_search 28 = .ok (.invokevirtual 36, 3) ∧ decode cX1_search 31 = .ok (.iastore, 1) ∧ decode cX1_search 32 = .ok (.iinc 5 1, 3) ∧ decode cX1_search 35 = .ok (.goto (-23), 3) := by decide +kernel
theorem dX1_search_25 : decode cX1_search 25 = .ok (.aload_n 1, 1) := dGX1_5.1
theorem dX1_search_26 : decode cX1_search 26 = .ok (.iload 5, 2) := dGX1_5.2.1
theorem dX1_search_28 : decode cX1_search 28 = .ok (.invokevirtual 36, 3) := dGX1_5.2.2.1
theorem dX1_search_31 : decode cX1_search 31 = .ok (.iastore, 1) := dGX1_5.2.2.2.1
theorem dX1_search_32 : decode cX1_search 32 = .ok (.iinc 5 1, 3) := dGX1_5.2.2.2.2.1
theorem dX1_search_35 : decode cX1_search 35 = .ok (.goto (-23), 3) := dGX1_5.2.2.2.2.2
theorem dGX1_6 : decode cX1_search 38 = .ok (.aload_n 0, 1) ∧ decode cX1_search 39 = .ok (.aload_n 0, 1) ∧ decode cX1_search 40 = .ok (.iload_n 2, 1) ∧ decode cX1_search 41 = .ok (.iload_n 3, 1) ∧ decode cX1_search 42 = .ok (.iload 4, 2) ∧ decode cX1_search 44 = .ok (.invokevirtual 40, 3) := by decide +kernel
theorem dX1_search_38 : decode cX1_search 38 = .ok (.aload_n 0, 1) := dGX1_6.1
theorem dX1_search_39 : decode cX1_search 39 = .ok (.aload_n 0, 1) := dGX1_6.2.1
theorem dX1_search_40 : decode cX1_search 40 = .ok (.iload_n 2, 1) := dGX1_6.2.2.1
theorem dX1_search_41 : decode cX1_search 41 = .ok (.iload_n 3, 1) := dGX1_6.2.2.2.1
theorem dX1_search_42 : decode cX1_search 42 = .ok (.iload 4, 2) := dGX1_6.2.2.2.2.1
theorem dX1_search_44 : decode cX1_search 44 = .ok (.invokevirtual 40, 3) := dGX1_6.2.2.2.2.2
theorem dGX1_7 : decode cX1_search 47 = .ok (.putfield 9, 3) ∧ decode cX1_search 50 = .ok (.aload_n 0, 1) ∧ decode cX1_search 51 = .ok (.getfield 9, 3) ∧ decode cX1_search 54 = .ok (.iconst (-1), 1) ∧ decode cX1_search 55 = .ok (.if_icmp .ne 5, 3) ∧ decode cX1_search 58 = .ok (.iconst 0, 1) := by decide +kernel
theorem dX1_search_47 : decode cX1_search 47 = .ok (.putfield 9, 3) := dGX1_7.1
theorem dX1_search_50 : decode cX1_search 50 = .ok (.aload_n 0, 1) := dGX1_7.2.1
theorem dX1_search_51 : decode cX1_search 51 = .ok (.getfield 9, 3) := dGX1_7.2.2.1
theorem dX1_search_54 : decode cX1_search 54 = .ok (.iconst (-1), 1) := dGX1_7.2.2.2.1
theorem dX1_search_55 : decode cX1_search 55 = .ok (.if_icmp .ne 5, 3) := dGX1_7.2.2.2.2.1
theorem dX1_search_58 : decode cX1_search 58 = .ok (.iconst 0, 1) := dGX1_7.2.2.2.2.2
theorem dGX1_8 : decode cX1_search 59 = .ok (.ireturn, 1) ∧ decode cX1_search 60 = .ok (.iconst 1, 1) ∧ decode cX1_search 61 = .ok (.iload_n 2, 1) ∧ decode cX1_search 62 = .ok (.ishl, 1) ∧ decode cX1_search 63 = .ok (.istore 5, 2) ∧ decode cX1_search 65 = .ok (.iconst 0, 1) := by decide +kernel
theorem dX1_search_59 : decode cX1_search 59 = .ok (.ireturn, 1) := dGX1_8.1
theorem dX1_search_60 : decode cX1_search 60 = .ok (.iconst 1, 1) := dGX1_8.2.1
theorem dX1_search_61 : decode cX1_search 61 = .ok (.iload_n 2, 1) := dGX1_8.2.2.1
theorem dX1_search_62 : decode cX1_search 62 = .ok (.ishl, 1) := dGX1_8.2.2.2.1
theorem dX1_search_63 : decode cX1_search 63 = .ok (.istore 5, 2) := dGX1_8.2.2.2.2.1
theorem dX1_search_65 : decode cX1_search 65 = .ok (.iconst 0, 1) := dGX1_8.2.2.2.2.2
theorem dGX1_9 : decode cX1_search 66 = .ok (.istore 6, 2) ∧ decode cX1_search 68 = .ok (.iload 6, 2) ∧ decode cX1_search 70 = .ok (.aload_n 0, 1) ∧ decode cX1_search 71 = .ok (.getfield 9, 3) ∧ decode cX1_search 74 = .ok (.if_icmp .ge 79, 3) ∧ decode cX1_search 77 = .ok (.aload_n 0, 1) := by decide +kernel
theorem dX1_search_66 : decode cX1_search 66 = .ok (.istore 6, 2) := dGX1_9.1
theorem dX1_search_68 : decode cX1_search 68 = .ok (.iload 6, 2) := dGX1_9.2.1
theorem dX1_search_70 : decode cX1_search 70 = .ok (.aload_n 0, 1) := dGX1_9.2.2.1
theorem dX1_search_71 : decode cX1_search 71 = .ok (.getfield 9, 3) := dGX1_9.2.2.2.1
theorem dX1_search_74 : decode cX1_search 74 = .ok (.if_icmp .ge 79, 3) := dGX1_9.2.2.2.2.1
theorem dX1_search_77 : decode cX1_search 77 = .ok (.aload_n 0, 1) := dGX1_9.2.2.2.2.2
theorem dGX1_10 : decode cX1_search 78 = .ok (.getfield 9, 3) ∧ decode cX1_search 81 = .ok (.bipush 8, 2) ∧ decode cX1_search 83 = .ok (.if_icmp .ge 70, 3) ∧ decode cX1_search 86 = .ok (.aload_n 0, 1) ∧ decode cX1_search 87 = .ok (.getfield 19, 3) ∧ decode cX1_search 90 = .ok (.aload_n 0, 1) := by decide +kernel
theorem dX1_search_78 : decode cX1_search 78 = .ok (.getfield 9, 3) := dGX1_10.1
theorem dX1_search_81 : decode cX1_search 81 = .ok (.bipush 8, 2) := dGX1_10.2.1
theorem dX1_search_83 : decode cX1_search 83 = .ok (.if_icmp .ge 70, 3) := dGX1_10.2.2.1
theorem dX1_search_86 : decode cX1_search 86 = .ok (.aload_n 0, 1) := dGX1_10.2.2.2.1
theorem dX1_search_87 : decode cX1_search 87 = .ok (.getfield 19, 3) := dGX1_10.2.2.2.2.1
theorem dX1_search_90 : decode cX1_search 90 = .ok (.aload_n 0, 1) := dGX1_10.2.2.2.2.2
theorem dGX1_11 : decode cX1_search 91 = .ok (.getfield 9, 3) ∧ decode cX1_search 94 = .ok (.iconst 1, 1) ∧ decode cX1_search 95 = .ok (.isub, 1) ∧ decode cX1_search 96 = .ok (.iload 6, 2) ∧ decode cX1_search 98 = .ok (.isub, 1) ∧ decode cX1_search 99 = .ok (.iaload, 1) := by decide +kernel
theorem dX1_search_91 : decode cX1_search 91 = .ok (.getfield 9, 3) := dGX1_11.1
theorem dX1_search_94 : decode cX1_search 94 = .ok (.iconst 1, 1) := dGX1_11.2.1
theorem dX1_search_95 : decode cX1_search 95 = .ok (.isub, 1) := dGX1_11.2.2.1
theorem dX1_search_96 : decode cX1_search 96 = .ok (.iload 6, 2) := dGX1_11.2.2.2.1
theorem dX1_search_98 : decode cX1_search 98 = .ok (.isub, 1) := dGX1_11.2.2.2.2.1
theorem dX1_search_99 : decode cX1_search 99 = .ok (.iaload, 1) := dGX1_11.2.2.2.2.2
theorem dGX1_12 : decode cX1_search 100 = .ok (.istore 7, 2) ∧ decode cX1_search 102 = .ok (.aload_n 0, 1) ∧ decode cX1_search 103 = .ok (.getfield 15, 3) ∧ decode cX1_search 106 = .ok (.iload 6, 2) ∧ decode cX1_search 108 = .ok (.aload_n 0, 1) ∧ decode cX1_search 109 = .ok (.iload 5, 2) := by decide +kernel
theorem dX1_search_100 : decode cX1_search 100 = .ok (.istore 7, 2) := dGX1_12.1
theorem dX1_search_102 : decode cX1_search 102 = .ok (.aload_n 0, 1) := dGX1_12.2.1
theorem dX1_search_103 : decode cX1_search 103 = .ok (.getfield 15, 3) := dGX1_12.2.2.1
theorem dX1_search_106 : decode cX1_search 106 = .ok (.iload 6, 2) := dGX1_12.2.2.2.1
theorem dX1_search_108 : decode cX1_search 108 = .ok (.aload_n 0, 1) := dGX1_12.2.2.2.2.1
theorem dX1_search_109 : decode cX1_search 109 = .ok (.iload 5, 2) := dGX1_12.2.2.2.2.2
theorem dGX1_13 : decode cX1_search 111 = .ok (.iload 7, 2) ∧ decode cX1_search 113 = .ok (.iload 4, 2) ∧ decode cX1_search 115 = .ok (.invokevirtual 44, 3) ∧ decode cX1_search 118 = .ok (.iastore, 1) ∧ decode cX1_search 119 = .ok (.aload_n 0, 1) ∧ decode cX1_search 120 = .ok (.getfield 15, 3) := by decide +kernel
theorem dX1_search_111 : decode cX1_search 111 = .ok (.iload 7, 2) := dGX1_13.1
theorem dX1_search_113 : decode cX1_search 113 = .ok (.iload 4, 2) := dGX1_13.2.1
theorem dX1_search_115 : decode cX1_search 115 = .ok (.invokevirtual 44, 3) := dGX1_13.2.2.1
theorem dX1_search_118 : decode cX1_search 118 = .ok (.iastore, 1) := dGX1_13.2.2.2.1
theorem dX1_search_119 : decode cX1_search 119 = .ok (.aload_n 0, 1) := dGX1_13.2.2.2.2.1
theorem dX1_search_120 : decode cX1_search 120 = .ok (.getfield 15, 3) := dGX1_13.2.2.2.2.2
theorem dGX1_14 : decode cX1_search 123 = .ok (.iload 6, 2) ∧ decode cX1_search 125 = .ok (.iaload, 1) ∧ decode cX1_search 126 = .ok (.iconst (-1), 1) ∧ decode cX1_search 127 = .ok (.if_icmp .eq 20, 3) ∧ decode cX1_search 130 = .ok (.aload_n 0, 1) ∧ decode cX1_search 131 = .ok (.getfield 22, 3) := by decide +kernel
theorem dX1_search_123 : decode cX1_search 123 = .ok (.iload 6, 2) := dGX1_14.1
theorem dX1_search_125 : decode cX1_search 125 = .ok (.iaload, 1) := dGX1_14.2.1
theorem dX1_search_126 : decode cX1_search 126 = .ok (.iconst (-1), 1) := dGX1_14.2.2.1
theorem dX1_search_127 : decode cX1_search 127 = .ok (.if_icmp .eq 20, 3) := dGX1_14.2.2.2.1
theorem dX1_search_130 : decode cX1_search 130 = .ok (.aload_n 0, 1) := dGX1_14.2.2.2.2.1
theorem dX1_search_131 : decode cX1_search 131 = .ok (.getfield 22, 3) := dGX1_14.2.2.2.2.2
theorem dGX1_15 : decode cX1_search 134 = .ok (.aload_n 0, 1) ∧ decode cX1_search 135 = .ok (.getfield 15, 3) ∧ decode cX1_search 138 = .ok (.iload 6, 2) ∧ decode cX1_search 140 = .ok (.iaload, 1) ∧ decode cX1_search 141 = .ok (.iaload, 1) ∧ decode cX1_search 142 = .ok (.iload 7, 2) := by decide +kernel
theorem dX1_search_134 : decode cX1_search 134 = .ok (.aload_n 0, 1) := dGX1_15.1
theorem dX1_search_135 : decode cX1_search 135 = .ok (.getfield 15, 3) := dGX1_15.2.1
theorem dX1_search_138 : decode cX1_search 138 = .ok (.iload 6, 2) := dGX1_15.2.2.1
theorem dX1_search_140 : decode cX1_search 140 = .ok (.iaload, 1) := dGX1_15.2.2.2.1
theorem dX1_search_141 : decode cX1_search 141 = .ok (.iaload, 1) := dGX1_15.2.2.2.2.1
theorem dX1_search_142 : decode cX1_search 142 = .ok (.iload 7, 2) := dGX1_15.2.2.2.2.2
theorem dGX1_16 : decode cX1_search 144 = .ok (.iand, 1) ∧ decode cX1_search 145 = .ok (.istore 5, 2) ∧ decode cX1_search 147 = .ok (.iinc 6 1, 3) ∧ decode cX1_search 150 = .ok (.goto (-82), 3) ∧ decode cX1_search 153 = .ok (.iconst 1, 1) ∧ decode cX1_search 154 = .ok (.ireturn, 1) := by decide +kernel
theorem dX1_search_144 : decode cX1_search 144 = .ok (.iand, 1) := dGX1_16.1
theorem dX1_search_145 : decode cX1_search 145 = .ok (.istore 5, 2) := dGX1_16.2.1
theorem dX1_search_147 : decode cX1_search 147 = .ok (.iinc 6 1, 3) := dGX1_16.2.2.1
theorem dX1_search_150 : decode cX1_search 150 = .ok (.goto (-82), 3) := dGX1_16.2.2.2.1
theorem dX1_search_153 : decode cX1_search 153 = .ok (.iconst 1, 1) := dGX1_16.2.2.2.2.1
theorem dX1_search_154 : decode cX1_search 154 = .ok (.ireturn, 1) := dGX1_16.2.2.2.2.2
theorem dGX1_17 : decode cX1_ringOf 0 = .ok (.iconst 1, 1) ∧ decode cX1_ringOf 1 = .ok (.iload_n 2, 1) ∧ decode cX1_ringOf 2 = .ok (.ishl, 1) ∧ decode cX1_ringOf 3 = .ok (.istore 4, 2) ∧ decode cX1_ringOf 5 = .ok (.aload_n 0, 1) ∧ decode cX1_ringOf 6 = .ok (.getfield 19, 3) := by decide +kernel
theorem dX1_ringOf_0 : decode cX1_ringOf 0 = .ok (.iconst 1, 1) := dGX1_17.1
theorem dX1_ringOf_1 : decode cX1_ringOf 1 = .ok (.iload_n 2, 1) := dGX1_17.2.1
theorem dX1_ringOf_2 : decode cX1_ringOf 2 = .ok (.ishl, 1) := dGX1_17.2.2.1
theorem dX1_ringOf_3 : decode cX1_ringOf 3 = .ok (.istore 4, 2) := dGX1_17.2.2.2.1
theorem dX1_ringOf_5 : decode cX1_ringOf 5 = .ok (.aload_n 0, 1) := dGX1_17.2.2.2.2.1
theorem dX1_ringOf_6 : decode cX1_ringOf 6 = .ok (.getfield 19, 3) := dGX1_17.2.2.2.2.2
theorem dGX1_18 : decode cX1_ringOf 9 = .ok (.iconst 0, 1) ∧ decode cX1_ringOf 10 = .ok (.iload 4, 2) ∧ decode cX1_ringOf 12 = .ok (.iastore, 1) ∧ decode cX1_ringOf 13 = .ok (.iconst 0, 1) ∧ decode cX1_ringOf 14 = .ok (.istore 5, 2) ∧ decode cX1_ringOf 16 = .ok (.iload 5, 2) := by decide +kernel
theorem dX1_ringOf_9 : decode cX1_ringOf 9 = .ok (.iconst 0, 1) := dGX1_18.1
theorem dX1_ringOf_10 : decode cX1_ringOf 10 = .ok (.iload 4, 2) := dGX1_18.2.1
theorem dX1_ringOf_12 : decode cX1_ringOf 12 = .ok (.iastore, 1) := dGX1_18.2.2.1
theorem dX1_ringOf_13 : decode cX1_ringOf 13 = .ok (.iconst 0, 1) := dGX1_18.2.2.2.1
theorem dX1_ringOf_14 : decode cX1_ringOf 14 = .ok (.istore 5, 2) := dGX1_18.2.2.2.2.1
theorem dX1_ringOf_16 : decode cX1_ringOf 16 = .ok (.iload 5, 2) := dGX1_18.2.2.2.2.2
theorem dGX1_19 : decode cX1_ringOf 18 = .ok (.bipush 8, 2) ∧ decode cX1_ringOf 20 = .ok (.if_icmp .ge 119, 3) ∧ decode cX1_ringOf 23 = .ok (.aload_n 0, 1) ∧ decode cX1_ringOf 24 = .ok (.getfield 19, 3) ∧ decode cX1_ringOf 27 = .ok (.iload 5, 2) ∧ decode cX1_ringOf 29 = .ok (.iaload, 1) := by decide +kernel
theorem dX1_ringOf_18 : decode cX1_ringOf 18 = .ok (.bipush 8, 2) := dGX1_19.1
theorem dX1_ringOf_20 : decode cX1_ringOf 20 = .ok (.if_icmp .ge 119, 3) := dGX1_19.2.1
theorem dX1_ringOf_23 : decode cX1_ringOf 23 = .ok (.aload_n 0, 1) := dGX1_19.2.2.1
theorem dX1_ringOf_24 : decode cX1_ringOf 24 = .ok (.getfield 19, 3) := dGX1_19.2.2.2.1
theorem dX1_ringOf_27 : decode cX1_ringOf 27 = .ok (.iload 5, 2) := dGX1_19.2.2.2.2.1
theorem dX1_ringOf_29 : decode cX1_ringOf 29 = .ok (.iaload, 1) := dGX1_19.2.2.2.2.2
theorem dGX1_20 : decode cX1_ringOf 30 = .ok (.iload_n 1, 1) ∧ decode cX1_ringOf 31 = .ok (.ishr, 1) ∧ decode cX1_ringOf 32 = .ok (.iconst 1, 1) ∧ decode cX1_ringOf 33 = .ok (.iand, 1) ∧ decode cX1_ringOf 34 = .ok (.iconst 1, 1) ∧ decode cX1_ringOf 35 = .ok (.if_icmp .ne 6, 3) := by decide +kernel
theorem dX1_ringOf_30 : decode cX1_ringOf 30 = .ok (.iload_n 1, 1) := dGX1_20.1
theorem dX1_ringOf_31 : decode cX1_ringOf 31 = .ok (.ishr, 1) := dGX1_20.2.1
theorem dX1_ringOf_32 : decode cX1_ringOf 32 = .ok (.iconst 1, 1) := dGX1_20.2.2.1
theorem dX1_ringOf_33 : decode cX1_ringOf 33 = .ok (.iand, 1) := dGX1_20.2.2.2.1
theorem dX1_ringOf_34 : decode cX1_ringOf 34 = .ok (.iconst 1, 1) := dGX1_20.2.2.2.2.1
theorem dX1_ringOf_35 : decode cX1_ringOf 35 = .ok (.if_icmp .ne 6, 3) := dGX1_20.2.2.2.2.2
theorem dGX1_21 : decode cX1_ringOf 38 = .ok (.iload 5, 2) ∧ decode cX1_ringOf 40 = .ok (.ireturn, 1) ∧ decode cX1_ringOf 41 = .ok (.iconst 0, 1) ∧ decode cX1_ringOf 42 = .ok (.istore 6, 2) ∧ decode cX1_ringOf 44 = .ok (.iconst 0, 1) ∧ decode cX1_ringOf 45 = .ok (.istore 7, 2) := by decide +kernel
theorem dX1_ringOf_38 : decode cX1_ringOf 38 = .ok (.iload 5, 2) := dGX1_21.1
theorem dX1_ringOf_40 : decode cX1_ringOf 40 = .ok (.ireturn, 1) := dGX1_21.2.1
theorem dX1_ringOf_41 : decode cX1_ringOf 41 = .ok (.iconst 0, 1) := dGX1_21.2.2.1
theorem dX1_ringOf_42 : decode cX1_ringOf 42 = .ok (.istore 6, 2) := dGX1_21.2.2.2.1
theorem dX1_ringOf_44 : decode cX1_ringOf 44 = .ok (.iconst 0, 1) := dGX1_21.2.2.2.2.1
theorem dX1_ringOf_45 : decode cX1_ringOf 45 = .ok (.istore 7, 2) := dGX1_21.2.2.2.2.2
theorem dGX1_22 : decode cX1_ringOf 47 = .ok (.iload 7, 2) ∧ decode cX1_ringOf 49 = .ok (.iload_n 3, 1) ∧ decode cX1_ringOf 50 = .ok (.if_icmp .ge 39, 3) ∧ decode cX1_ringOf 53 = .ok (.aload_n 0, 1) ∧ decode cX1_ringOf 54 = .ok (.getfield 22, 3) ∧ decode cX1_ringOf 57 = .ok (.iload 7, 2) := by decide +kernel
theorem dX1_ringOf_47 : decode cX1_ringOf 47 = .ok (.iload 7, 2) := dGX1_22.1
theorem dX1_ringOf_49 : decode cX1_ringOf 49 = .ok (.iload_n 3, 1) := dGX1_22.2.1
theorem dX1_ringOf_50 : decode cX1_ringOf 50 = .ok (.if_icmp .ge 39, 3) := dGX1_22.2.2.1
theorem dX1_ringOf_53 : decode cX1_ringOf 53 = .ok (.aload_n 0, 1) := dGX1_22.2.2.2.1
theorem dX1_ringOf_54 : decode cX1_ringOf 54 = .ok (.getfield 22, 3) := dGX1_22.2.2.2.2.1
theorem dX1_ringOf_57 : decode cX1_ringOf 57 = .ok (.iload 7, 2) := dGX1_22.2.2.2.2.2
theorem dGX1_23 : decode cX1_ringOf 59 = .ok (.iaload, 1) ∧ decode cX1_ringOf 60 = .ok (.aload_n 0, 1) ∧ decode cX1_ringOf 61 = .ok (.getfield 19, 3) ∧ decode cX1_ringOf 64 = .ok (.iload 5, 2) ∧ decode cX1_ringOf 66 = .ok (.iaload, 1) ∧ decode cX1_ringOf 67 = .ok (.iand, 1) := by decide +kernel
theorem dX1_ringOf_59 : decode cX1_ringOf 59 = .ok (.iaload, 1) := dGX1_23.1
theorem dX1_ringOf_60 : decode cX1_ringOf 60 = .ok (.aload_n 0, 1) := dGX1_23.2.1
theorem dX1_ringOf_61 : decode cX1_ringOf 61 = .ok (.getfield 19, 3) := dGX1_23.2.2.1
theorem dX1_ringOf_64 : decode cX1_ringOf 64 = .ok (.iload 5, 2) := dGX1_23.2.2.2.1
theorem dX1_ringOf_66 : decode cX1_ringOf 66 = .ok (.iaload, 1) := dGX1_23.2.2.2.2.1
theorem dX1_ringOf_67 : decode cX1_ringOf 67 = .ok (.iand, 1) := dGX1_23.2.2.2.2.2
theorem dGX1_24 : decode cX1_ringOf 68 = .ok (.ifCond .eq 15, 3) ∧ decode cX1_ringOf 71 = .ok (.iload 6, 2) ∧ decode cX1_ringOf 73 = .ok (.aload_n 0, 1) ∧ decode cX1_ringOf 74 = .ok (.getfield 22, 3) ∧ decode cX1_ringOf 77 = .ok (.iload 7, 2) ∧ decode cX1_ringOf 79 = .ok (.iaload, 1) := by decide +kernel
theorem dX1_ringOf_68 : decode cX1_ringOf 68 = .ok (.ifCond .eq 15, 3) := dGX1_24.1
theorem dX1_ringOf_71 : decode cX1_ringOf 71 = .ok (.iload 6, 2) := dGX1_24.2.1
theorem dX1_ringOf_73 : decode cX1_ringOf 73 = .ok (.aload_n 0, 1) := dGX1_24.2.2.1
theorem dX1_ringOf_74 : decode cX1_ringOf 74 = .ok (.getfield 22, 3) := dGX1_24.2.2.2.1
theorem dX1_ringOf_77 : decode cX1_ringOf 77 = .ok (.iload 7, 2) := dGX1_24.2.2.2.2.1
theorem dX1_ringOf_79 : decode cX1_ringOf 79 = .ok (.iaload, 1) := dGX1_24.2.2.2.2.2
theorem dGX1_25 : decode cX1_ringOf 80 = .ok (.ior, 1) ∧ decode cX1_ringOf 81 = .ok (.istore 6, 2) ∧ decode cX1_ringOf 83 = .ok (.iinc 7 1, 3) ∧ decode cX1_ringOf 86 = .ok (.goto (-39), 3) ∧ decode cX1_ringOf 89 = .ok (.iload 6, 2) ∧ decode cX1_ringOf 91 = .ok (.iload 4, 2) := by decide +kernel
theorem dX1_ringOf_80 : decode cX1_ringOf 80 = .ok (.ior, 1) := dGX1_25.1
theorem dX1_ringOf_81 : decode cX1_ringOf 81 = .ok (.istore 6, 2) := dGX1_25.2.1
theorem dX1_ringOf_83 : decode cX1_ringOf 83 = .ok (.iinc 7 1, 3) := dGX1_25.2.2.1
theorem dX1_ringOf_86 : decode cX1_ringOf 86 = .ok (.goto (-39), 3) := dGX1_25.2.2.2.1
theorem dX1_ringOf_89 : decode cX1_ringOf 89 = .ok (.iload 6, 2) := dGX1_25.2.2.2.2.1
theorem dX1_ringOf_91 : decode cX1_ringOf 91 = .ok (.iload 4, 2) := dGX1_25.2.2.2.2.2
theorem dGX1_26 : decode cX1_ringOf 93 = .ok (.iconst (-1), 1) ∧ decode cX1_ringOf 94 = .ok (.ixor, 1) ∧ decode cX1_ringOf 95 = .ok (.iand, 1) ∧ decode cX1_ringOf 96 = .ok (.ifCond .eq 12, 3) ∧ decode cX1_ringOf 99 = .ok (.iload 5, 2) ∧ decode cX1_ringOf 101 = .ok (.iconst 1, 1) := by decide +kernel
theorem dX1_ringOf_93 : decode cX1_ringOf 93 = .ok (.iconst (-1), 1) := dGX1_26.1
theorem dX1_ringOf_94 : decode cX1_ringOf 94 = .ok (.ixor, 1) := dGX1_26.2.1
theorem dX1_ringOf_95 : decode cX1_ringOf 95 = .ok (.iand, 1) := dGX1_26.2.2.1
theorem dX1_ringOf_96 : decode cX1_ringOf 96 = .ok (.ifCond .eq 12, 3) := dGX1_26.2.2.2.1
theorem dX1_ringOf_99 : decode cX1_ringOf 99 = .ok (.iload 5, 2) := dGX1_26.2.2.2.2.1
theorem dX1_ringOf_101 : decode cX1_ringOf 101 = .ok (.iconst 1, 1) := dGX1_26.2.2.2.2.2
theorem dGX1_27 : decode cX1_ringOf 102 = .ok (.iadd, 1) ∧ decode cX1_ringOf 103 = .ok (.bipush 8, 2) ∧ decode cX1_ringOf 105 = .ok (.if_icmp .lt 5, 3) ∧ decode cX1_ringOf 108 = .ok (.iconst (-1), 1) ∧ decode cX1_ringOf 109 = .ok (.ireturn, 1) ∧ decode cX1_ringOf 110 = .ok (.aload_n 0, 1) := by decide +kernel
theorem dX1_ringOf_102 : decode cX1_ringOf 102 = .ok (.iadd, 1) := dGX1_27.1
theorem dX1_ringOf_103 : decode cX1_ringOf 103 = .ok (.bipush 8, 2) := dGX1_27.2.1
theorem dX1_ringOf_105 : decode cX1_ringOf 105 = .ok (.if_icmp .lt 5, 3) := dGX1_27.2.2.1
theorem dX1_ringOf_108 : decode cX1_ringOf 108 = .ok (.iconst (-1), 1) := dGX1_27.2.2.2.1
theorem dX1_ringOf_109 : decode cX1_ringOf 109 = .ok (.ireturn, 1) := dGX1_27.2.2.2.2.1
theorem dX1_ringOf_110 : decode cX1_ringOf 110 = .ok (.aload_n 0, 1) := dGX1_27.2.2.2.2.2
theorem dGX1_28 : decode cX1_ringOf 111 = .ok (.getfield 19, 3) ∧ decode cX1_ringOf 114 = .ok (.iload 5, 2) ∧ decode cX1_ringOf 116 = .ok (.iconst 1, 1) ∧ decode cX1_ringOf 117 = .ok (.iadd, 1) ∧ decode cX1_ringOf 118 = .ok (.iload 6, 2) ∧ decode cX1_ringOf 120 = .ok (.iload 4, 2) := by decide +kernel
theorem dX1_ringOf_111 : decode cX1_ringOf 111 = .ok (.getfield 19, 3) := dGX1_28.1
theorem dX1_ringOf_114 : decode cX1_ringOf 114 = .ok (.iload 5, 2) := dGX1_28.2.1
theorem dX1_ringOf_116 : decode cX1_ringOf 116 = .ok (.iconst 1, 1) := dGX1_28.2.2.1
theorem dX1_ringOf_117 : decode cX1_ringOf 117 = .ok (.iadd, 1) := dGX1_28.2.2.2.1
theorem dX1_ringOf_118 : decode cX1_ringOf 118 = .ok (.iload 6, 2) := dGX1_28.2.2.2.2.1
theorem dX1_ringOf_120 : decode cX1_ringOf 120 = .ok (.iload 4, 2) := dGX1_28.2.2.2.2.2
theorem dGX1_29 : decode cX1_ringOf 122 = .ok (.iconst (-1), 1) ∧ decode cX1_ringOf 123 = .ok (.ixor, 1) ∧ decode cX1_ringOf 124 = .ok (.iand, 1) ∧ decode cX1_ringOf 125 = .ok (.iastore, 1) ∧ decode cX1_ringOf 126 = .ok (.iload 4, 2) ∧ decode cX1_ringOf 128 = .ok (.iload 6, 2) := by decide +kernel
theorem dX1_ringOf_122 : decode cX1_ringOf 122 = .ok (.iconst (-1), 1) := dGX1_29.1
theorem dX1_ringOf_123 : decode cX1_ringOf 123 = .ok (.ixor, 1) := dGX1_29.2.1
theorem dX1_ringOf_124 : decode cX1_ringOf 124 = .ok (.iand, 1) := dGX1_29.2.2.1
theorem dX1_ringOf_125 : decode cX1_ringOf 125 = .ok (.iastore, 1) := dGX1_29.2.2.2.1
theorem dX1_ringOf_126 : decode cX1_ringOf 126 = .ok (.iload 4, 2) := dGX1_29.2.2.2.2.1
theorem dX1_ringOf_128 : decode cX1_ringOf 128 = .ok (.iload 6, 2) := dGX1_29.2.2.2.2.2
theorem dGX1_30 : decode cX1_ringOf 130 = .ok (.ior, 1) ∧ decode cX1_ringOf 131 = .ok (.istore 4, 2) ∧ decode cX1_ringOf 133 = .ok (.iinc 5 1, 3) ∧ decode cX1_ringOf 136 = .ok (.goto (-120), 3) ∧ decode cX1_ringOf 139 = .ok (.iconst (-1), 1) ∧ decode cX1_ringOf 140 = .ok (.ireturn, 1) := by decide +kernel
theorem dX1_ringOf_130 : decode cX1_ringOf 130 = .ok (.ior, 1) := dGX1_30.1
theorem dX1_ringOf_131 : decode cX1_ringOf 131 = .ok (.istore 4, 2) := dGX1_30.2.1
theorem dX1_ringOf_133 : decode cX1_ringOf 133 = .ok (.iinc 5 1, 3) := dGX1_30.2.2.1
theorem dX1_ringOf_136 : decode cX1_ringOf 136 = .ok (.goto (-120), 3) := dGX1_30.2.2.2.1
theorem dX1_ringOf_139 : decode cX1_ringOf 139 = .ok (.iconst (-1), 1) := dGX1_30.2.2.2.2.1
theorem dX1_ringOf_140 : decode cX1_ringOf 140 = .ok (.ireturn, 1) := dGX1_30.2.2.2.2.2
theorem dGX1_31 : decode cX1_leastBetween 0 = .ok (.iconst 0, 1) ∧ decode cX1_leastBetween 1 = .ok (.istore 4, 2) ∧ decode cX1_leastBetween 3 = .ok (.iload 4, 2) ∧ decode cX1_leastBetween 5 = .ok (.iload_n 3, 1) ∧ decode cX1_leastBetween 6 = .ok (.if_icmp .ge 36, 3) ∧ decode cX1_leastBetween 9 = .ok (.aload_n 0, 1) := by decide +kernel
theorem dX1_leastBetween_0 : decode cX1_leastBetween 0 = .ok (.iconst 0, 1) := dGX1_31.1
theorem dX1_leastBetween_1 : decode cX1_leastBetween 1 = .ok (.istore 4, 2) := dGX1_31.2.1
theorem dX1_leastBetween_3 : decode cX1_leastBetween 3 = .ok (.iload 4, 2) := dGX1_31.2.2.1
theorem dX1_leastBetween_5 : decode cX1_leastBetween 5 = .ok (.iload_n 3, 1) := dGX1_31.2.2.2.1
theorem dX1_leastBetween_6 : decode cX1_leastBetween 6 = .ok (.if_icmp .ge 36, 3) := dGX1_31.2.2.2.2.1
theorem dX1_leastBetween_9 : decode cX1_leastBetween 9 = .ok (.aload_n 0, 1) := dGX1_31.2.2.2.2.2
theorem dGX1_32 : decode cX1_leastBetween 10 = .ok (.getfield 22, 3) ∧ decode cX1_leastBetween 13 = .ok (.iload 4, 2) ∧ decode cX1_leastBetween 15 = .ok (.iaload, 1) ∧ decode cX1_leastBetween 16 = .ok (.iload_n 1, 1) ∧ decode cX1_leastBetween 17 = .ok (.iand, 1) ∧ decode cX1_leastBetween 18 = .ok (.ifCond .eq 18, 3) := by decide +kernel
theorem dX1_leastBetween_10 : decode cX1_leastBetween 10 = .ok (.getfield 22, 3) := dGX1_32.1
theorem dX1_leastBetween_13 : decode cX1_leastBetween 13 = .ok (.iload 4, 2) := dGX1_32.2.1
theorem dX1_leastBetween_15 : decode cX1_leastBetween 15 = .ok (.iaload, 1) := dGX1_32.2.2.1
theorem dX1_leastBetween_16 : decode cX1_leastBetween 16 = .ok (.iload_n 1, 1) := dGX1_32.2.2.2.1
theorem dX1_leastBetween_17 : decode cX1_leastBetween 17 = .ok (.iand, 1) := dGX1_32.2.2.2.2.1
theorem dX1_leastBetween_18 : decode cX1_leastBetween 18 = .ok (.ifCond .eq 18, 3) := dGX1_32.2.2.2.2.2
theorem dGX1_33 : decode cX1_leastBetween 21 = .ok (.aload_n 0, 1) ∧ decode cX1_leastBetween 22 = .ok (.getfield 22, 3) ∧ decode cX1_leastBetween 25 = .ok (.iload 4, 2) ∧ decode cX1_leastBetween 27 = .ok (.iaload, 1) ∧ decode cX1_leastBetween 28 = .ok (.iload_n 2, 1) ∧ decode cX1_leastBetween 29 = .ok (.iand, 1) := by decide +kernel
theorem dX1_leastBetween_21 : decode cX1_leastBetween 21 = .ok (.aload_n 0, 1) := dGX1_33.1
theorem dX1_leastBetween_22 : decode cX1_leastBetween 22 = .ok (.getfield 22, 3) := dGX1_33.2.1
theorem dX1_leastBetween_25 : decode cX1_leastBetween 25 = .ok (.iload 4, 2) := dGX1_33.2.2.1
theorem dX1_leastBetween_27 : decode cX1_leastBetween 27 = .ok (.iaload, 1) := dGX1_33.2.2.2.1
theorem dX1_leastBetween_28 : decode cX1_leastBetween 28 = .ok (.iload_n 2, 1) := dGX1_33.2.2.2.2.1
theorem dX1_leastBetween_29 : decode cX1_leastBetween 29 = .ok (.iand, 1) := dGX1_33.2.2.2.2.2
theorem dGX1_34 : decode cX1_leastBetween 30 = .ok (.ifCond .eq 6, 3) ∧ decode cX1_leastBetween 33 = .ok (.iload 4, 2) ∧ decode cX1_leastBetween 35 = .ok (.ireturn, 1) ∧ decode cX1_leastBetween 36 = .ok (.iinc 4 1, 3) ∧ decode cX1_leastBetween 39 = .ok (.goto (-36), 3) ∧ decode cX1_leastBetween 42 = .ok (.iconst (-1), 1) := by decide +kernel
theorem dX1_leastBetween_30 : decode cX1_leastBetween 30 = .ok (.ifCond .eq 6, 3) := dGX1_34.1
theorem dX1_leastBetween_33 : decode cX1_leastBetween 33 = .ok (.iload 4, 2) := dGX1_34.2.1
theorem dX1_leastBetween_35 : decode cX1_leastBetween 35 = .ok (.ireturn, 1) := dGX1_34.2.2.1
theorem dX1_leastBetween_36 : decode cX1_leastBetween 36 = .ok (.iinc 4 1, 3) := dGX1_34.2.2.2.1
theorem dX1_leastBetween_39 : decode cX1_leastBetween 39 = .ok (.goto (-36), 3) := dGX1_34.2.2.2.2.1
theorem dX1_leastBetween_42 : decode cX1_leastBetween 42 = .ok (.iconst (-1), 1) := dGX1_34.2.2.2.2.2
theorem dX1_leastBetween_43 : decode cX1_leastBetween 43 = .ok (.ireturn, 1) := by decide +kernel
theorem dGX2_0 : decode cX2_init 0 = .ok (.aload_n 0, 1) ∧ decode cX2_init 1 = .ok (.invokespecial 3, 3) ∧ decode cX2_init 4 = .ok (.aload_n 0, 1) ∧ decode cX2_init 5 = .ok (.iconst 0, 1) ∧ decode cX2_init 6 = .ok (.putfield 9, 3) ∧ decode cX2_init 9 = .ok (.aload_n 0, 1) := by decide +kernel
theorem dX2_init_0 : decode cX2_init 0 = .ok (.aload_n 0, 1) := dGX2_0.1
theorem dX2_init_1 : decode cX2_init 1 = .ok (.invokespecial 3, 3) := dGX2_0.2.1
theorem dX2_init_4 : decode cX2_init 4 = .ok (.aload_n 0, 1) := dGX2_0.2.2.1
theorem dX2_init_5 : decode cX2_init 5 = .ok (.iconst 0, 1) := dGX2_0.2.2.2.1
theorem dX2_init_6 : decode cX2_init 6 = .ok (.putfield 9, 3) := dGX2_0.2.2.2.2.1
theorem dX2_init_9 : decode cX2_init 9 = .ok (.aload_n 0, 1) := dGX2_0.2.2.2.2.2
theorem dGX2_1 : decode cX2_init 10 = .ok (.iconst 0, 1) ∧ decode cX2_init 11 = .ok (.putfield 15, 3) ∧ decode cX2_init 14 = .ok (.aload_n 0, 1) ∧ decode cX2_init 15 = .ok (.bipush 14, 2) ∧ decode cX2_init 17 = .ok (.newarray .int, 2) ∧ decode cX2_init 19 = .ok (.putfield 18, 3) := by decide +kernel
theorem dX2_init_10 : decode cX2_init 10 = .ok (.iconst 0, 1) := dGX2_1.1
theorem dX2_init_11 : decode cX2_init 11 = .ok (.putfield 15, 3) := dGX2_1.2.1
theorem dX2_init_14 : decode cX2_init 14 = .ok (.aload_n 0, 1) := dGX2_1.2.2.1
theorem dX2_init_15 : decode cX2_init 15 = .ok (.bipush 14, 2) := dGX2_1.2.2.2.1
theorem dX2_init_17 : decode cX2_init 17 = .ok (.newarray .int, 2) := dGX2_1.2.2.2.2.1
theorem dX2_init_19 : decode cX2_init 19 = .ok (.putfield 18, 3) := dGX2_1.2.2.2.2.2
theorem dGX2_2 : decode cX2_init 22 = .ok (.aload_n 0, 1) ∧ decode cX2_init 23 = .ok (.bipush 14, 2) ∧ decode cX2_init 25 = .ok (.newarray .int, 2) ∧ decode cX2_init 27 = .ok (.putfield 22, 3) ∧ decode cX2_init 30 = .ok (.aload_n 0, 1) ∧ decode cX2_init 31 = .ok (.bipush 14, 2) := by decide +kernel
theorem dX2_init_22 : decode cX2_init 22 = .ok (.aload_n 0, 1) := dGX2_2.1
theorem dX2_init_23 : decode cX2_init 23 = .ok (.bipush 14, 2) := dGX2_2.2.1
theorem dX2_init_25 : decode cX2_init 25 = .ok (.newarray .int, 2) := dGX2_2.2.2.1
theorem dX2_init_27 : decode cX2_init 27 = .ok (.putfield 22, 3) := dGX2_2.2.2.2.1
theorem dX2_init_30 : decode cX2_init 30 = .ok (.aload_n 0, 1) := dGX2_2.2.2.2.2.1
theorem dX2_init_31 : decode cX2_init 31 = .ok (.bipush 14, 2) := dGX2_2.2.2.2.2.2
theorem dGX2_3 : decode cX2_init 33 = .ok (.newarray .int, 2) ∧ decode cX2_init 35 = .ok (.putfield 25, 3) ∧ decode cX2_init 38 = .ok (.aload_n 0, 1) ∧ decode cX2_init 39 = .ok (.bipush 14, 2) ∧ decode cX2_init 41 = .ok (.newarray .int, 2) ∧ decode cX2_init 43 = .ok (.putfield 28, 3) := by decide +kernel
theorem dX2_init_33 : decode cX2_init 33 = .ok (.newarray .int, 2) := dGX2_3.1
theorem dX2_init_35 : decode cX2_init 35 = .ok (.putfield 25, 3) := dGX2_3.2.1
theorem dX2_init_38 : decode cX2_init 38 = .ok (.aload_n 0, 1) := dGX2_3.2.2.1
theorem dX2_init_39 : decode cX2_init 39 = .ok (.bipush 14, 2) := dGX2_3.2.2.2.1
theorem dX2_init_41 : decode cX2_init 41 = .ok (.newarray .int, 2) := dGX2_3.2.2.2.2.1
theorem dX2_init_43 : decode cX2_init 43 = .ok (.putfield 28, 3) := dGX2_3.2.2.2.2.2
theorem dGX2_4 : decode cX2_init 46 = .ok (.aload_n 0, 1) ∧ decode cX2_init 47 = .ok (.sipush 200, 3) ∧ decode cX2_init 50 = .ok (.newarray .int, 2) ∧ decode cX2_init 52 = .ok (.putfield 31, 3) ∧ decode cX2_init 55 = .ok (.aload_n 0, 1) ∧ decode cX2_init 56 = .ok (.sipush 200, 3) := by decide +kernel
theorem dX2_init_46 : decode cX2_init 46 = .ok (.aload_n 0, 1) := dGX2_4.1
theorem dX2_init_47 : decode cX2_init 47 = .ok (.sipush 200, 3) := dGX2_4.2.1
theorem dX2_init_50 : decode cX2_init 50 = .ok (.newarray .int, 2) := dGX2_4.2.2.1
theorem dX2_init_52 : decode cX2_init 52 = .ok (.putfield 31, 3) := dGX2_4.2.2.2.1
theorem dX2_init_55 : decode cX2_init 55 = .ok (.aload_n 0, 1) := dGX2_4.2.2.2.2.1
theorem dX2_init_56 : decode cX2_init 56 = .ok (.sipush 200, 3) := dGX2_4.2.2.2.2.2
theorem dGX2_5 : decode cX2_init 59 = .ok (.newarray .int, 2) ∧ decode cX2_init 61 = .ok (.putfield 34, 3) ∧ decode cX2_init 64 = .ok (.aload_n 0, 1) ∧ decode cX2_init 65 = .ok (.bipush 40, 2) ∧ decode cX2_init 67 = .ok (.newarray .int, 2) ∧ decode cX2_init 69 = .ok (.putfield 37, 3) := by decide +kernel
theorem dX2_init_59 : decode cX2_init 59 = .ok (.newarray .int, 2) := dGX2_5.1
theorem dX2_init_61 : decode cX2_init 61 = .ok (.putfield 34, 3) := dGX2_5.2.1
theorem dX2_init_64 : decode cX2_init 64 = .ok (.aload_n 0, 1) := dGX2_5.2.2.1
theorem dX2_init_65 : decode cX2_init 65 = .ok (.bipush 40, 2) := dGX2_5.2.2.2.1
theorem dX2_init_67 : decode cX2_init 67 = .ok (.newarray .int, 2) := dGX2_5.2.2.2.2.1
theorem dX2_init_69 : decode cX2_init 69 = .ok (.putfield 37, 3) := dGX2_5.2.2.2.2.2
theorem dGX2_6 : decode cX2_init 72 = .ok (.return_, 1) ∧ decode cX2_beginClause 0 = .ok (.aload_n 0, 1) ∧ decode cX2_beginClause 1 = .ok (.getfield 9, 3) ∧ decode cX2_beginClause 4 = .ok (.bipush 14, 2) ∧ decode cX2_beginClause 6 = .ok (.if_icmp .ge 26, 3) ∧ decode cX2_beginClause 9 = .ok (.aload_n 0, 1) := by decide +kernel
theorem dX2_init_72 : decode cX2_init 72 = .ok (.return_, 1) := dGX2_6.1
theorem dX2_beginClause_0 : decode cX2_beginClause 0 = .ok (.aload_n 0, 1) := dGX2_6.2.1
theorem dX2_beginClause_1 : decode cX2_beginClause 1 = .ok (.getfield 9, 3) := dGX2_6.2.2.1
theorem dX2_beginClause_4 : decode cX2_beginClause 4 = .ok (.bipush 14, 2) := dGX2_6.2.2.2.1
theorem dX2_beginClause_6 : decode cX2_beginClause 6 = .ok (.if_icmp .ge 26, 3) := dGX2_6.2.2.2.2.1
theorem dX2_beginClause_9 : decode cX2_beginClause 9 = .ok (.aload_n 0, 1) := dGX2_6.2.2.2.2.2
theorem dGX2_7 : decode cX2_beginClause 10 = .ok (.getfield 18, 3) ∧ decode cX2_beginClause 13 = .ok (.aload_n 0, 1) ∧ decode cX2_beginClause 14 = .ok (.getfield 9, 3) ∧ decode cX2_beginClause 17 = .ok (.iload_n 1, 1) ∧ decode cX2_beginClause 18 = .ok (.iastore, 1) ∧ decode cX2_beginClause 19 = .ok (.aload_n 0, 1) := by decide +kernel
theorem dX2_beginClause_10 : decode cX2_beginClause 10 = .ok (.getfield 18, 3) := dGX2_7.1
theorem dX2_beginClause_13 : decode cX2_beginClause 13 = .ok (.aload_n 0, 1) := dGX2_7.2.1
theorem dX2_beginClause_14 : decode cX2_beginClause 14 = .ok (.getfield 9, 3) := dGX2_7.2.2.1
theorem dX2_beginClause_17 : decode cX2_beginClause 17 = .ok (.iload_n 1, 1) := dGX2_7.2.2.2.1
theorem dX2_beginClause_18 : decode cX2_beginClause 18 = .ok (.iastore, 1) := dGX2_7.2.2.2.2.1
theorem dX2_beginClause_19 : decode cX2_beginClause 19 = .ok (.aload_n 0, 1) := dGX2_7.2.2.2.2.2
theorem dGX2_8 : decode cX2_beginClause 20 = .ok (.getfield 22, 3) ∧ decode cX2_beginClause 23 = .ok (.aload_n 0, 1) ∧ decode cX2_beginClause 24 = .ok (.getfield 9, 3) ∧ decode cX2_beginClause 27 = .ok (.aload_n 0, 1) ∧ decode cX2_beginClause 28 = .ok (.getfield 15, 3) ∧ decode cX2_beginClause 31 = .ok (.iastore, 1) := by decide +kernel
theorem dX2_beginClause_20 : decode cX2_beginClause 20 = .ok (.getfield 22, 3) := dGX2_8.1
theorem dX2_beginClause_23 : decode cX2_beginClause 23 = .ok (.aload_n 0, 1) := dGX2_8.2.1
theorem dX2_beginClause_24 : decode cX2_beginClause 24 = .ok (.getfield 9, 3) := dGX2_8.2.2.1
theorem dX2_beginClause_27 : decode cX2_beginClause 27 = .ok (.aload_n 0, 1) := dGX2_8.2.2.2.1
theorem dX2_beginClause_28 : decode cX2_beginClause 28 = .ok (.getfield 15, 3) := dGX2_8.2.2.2.2.1
theorem dX2_beginClause_31 : decode cX2_beginClause 31 = .ok (.iastore, 1) := dGX2_8.2.2.2.2.2
theorem dGX2_9 : decode cX2_beginClause 32 = .ok (.return_, 1) ∧ decode cX2_beginCondition 0 = .ok (.aload_n 0, 1) ∧ decode cX2_beginCondition 1 = .ok (.getfield 9, 3) ∧ decode cX2_beginCondition 4 = .ok (.bipush 14, 2) ∧ decode cX2_beginCondition 6 = .ok (.if_icmp .ge 16, 3) ∧ decode cX2_beginCondition 9 = .ok (.aload_n 0, 1) := by decide +kernel
theorem dX2_beginClause_32 : decode cX2_beginClause 32 = .ok (.return_, 1) := dGX2_9.1
theorem dX2_beginCondition_0 : decode cX2_beginCondition 0 = .ok (.aload_n 0, 1) := dGX2_9.2.1
theorem dX2_beginCondition_1 : decode cX2_beginCondition 1 = .ok (.getfield 9, 3) := dGX2_9.2.2.1
theorem dX2_beginCondition_4 : decode cX2_beginCondition 4 = .ok (.bipush 14, 2) := dGX2_9.2.2.2.1
theorem dX2_beginCondition_6 : decode cX2_beginCondition 6 = .ok (.if_icmp .ge 16, 3) := dGX2_9.2.2.2.2.1
theorem dX2_beginCondition_9 : decode cX2_beginCondition 9 = .ok (.aload_n 0, 1) := dGX2_9.2.2.2.2.2
theorem dGX2_10 : decode cX2_beginCondition 10 = .ok (.getfield 25, 3) ∧ decode cX2_beginCondition 13 = .ok (.aload_n 0, 1) ∧ decode cX2_beginCondition 14 = .ok (.getfield 9, 3) ∧ decode cX2_beginCondition 17 = .ok (.aload_n 0, 1) ∧ decode cX2_beginCondition 18 = .ok (.getfield 15, 3) ∧ decode cX2_beginCondition 21 = .ok (.iastore, 1) := by decide +kernel
theorem dX2_beginCondition_10 : decode cX2_beginCondition 10 = .ok (.getfield 25, 3) := dGX2_10.1
theorem dX2_beginCondition_13 : decode cX2_beginCondition 13 = .ok (.aload_n 0, 1) := dGX2_10.2.1
theorem dX2_beginCondition_14 : decode cX2_beginCondition 14 = .ok (.getfield 9, 3) := dGX2_10.2.2.1
theorem dX2_beginCondition_17 : decode cX2_beginCondition 17 = .ok (.aload_n 0, 1) := dGX2_10.2.2.2.1
theorem dX2_beginCondition_18 : decode cX2_beginCondition 18 = .ok (.getfield 15, 3) := dGX2_10.2.2.2.2.1
theorem dX2_beginCondition_21 : decode cX2_beginCondition 21 = .ok (.iastore, 1) := dGX2_10.2.2.2.2.2
theorem dGX2_11 : decode cX2_beginCondition 22 = .ok (.return_, 1) ∧ decode cX2_endClause 0 = .ok (.aload_n 0, 1) ∧ decode cX2_endClause 1 = .ok (.getfield 9, 3) ∧ decode cX2_endClause 4 = .ok (.bipush 14, 2) ∧ decode cX2_endClause 6 = .ok (.if_icmp .ge 26, 3) ∧ decode cX2_endClause 9 = .ok (.aload_n 0, 1) := by decide +kernel
theorem dX2_beginCondition_22 : decode cX2_beginCondition 22 = .ok (.return_, 1) := dGX2_11.1
theorem dX2_endClause_0 : decode cX2_endClause 0 = .ok (.aload_n 0, 1) := dGX2_11.2.1
theorem dX2_endClause_1 : decode cX2_endClause 1 = .ok (.getfield 9, 3) := dGX2_11.2.2.1
theorem dX2_endClause_4 : decode cX2_endClause 4 = .ok (.bipush 14, 2) := dGX2_11.2.2.2.1
theorem dX2_endClause_6 : decode cX2_endClause 6 = .ok (.if_icmp .ge 26, 3) := dGX2_11.2.2.2.2.1
theorem dX2_endClause_9 : decode cX2_endClause 9 = .ok (.aload_n 0, 1) := dGX2_11.2.2.2.2.2
theorem dGX2_12 : decode cX2_endClause 10 = .ok (.getfield 28, 3) ∧ decode cX2_endClause 13 = .ok (.aload_n 0, 1) ∧ decode cX2_endClause 14 = .ok (.getfield 9, 3) ∧ decode cX2_endClause 17 = .ok (.aload_n 0, 1) ∧ decode cX2_endClause 18 = .ok (.getfield 15, 3) ∧ decode cX2_endClause 21 = .ok (.iastore, 1) := by decide +kernel
theorem dX2_endClause_10 : decode cX2_endClause 10 = .ok (.getfield 28, 3) := dGX2_12.1
theorem dX2_endClause_13 : decode cX2_endClause 13 = .ok (.aload_n 0, 1) := dGX2_12.2.1
theorem dX2_endClause_14 : decode cX2_endClause 14 = .ok (.getfield 9, 3) := dGX2_12.2.2.1
theorem dX2_endClause_17 : decode cX2_endClause 17 = .ok (.aload_n 0, 1) := dGX2_12.2.2.2.1
theorem dX2_endClause_18 : decode cX2_endClause 18 = .ok (.getfield 15, 3) := dGX2_12.2.2.2.2.1
theorem dX2_endClause_21 : decode cX2_endClause 21 = .ok (.iastore, 1) := dGX2_12.2.2.2.2.2
theorem dGX2_13 : decode cX2_endClause 22 = .ok (.aload_n 0, 1) ∧ decode cX2_endClause 23 = .ok (.dup, 1) ∧ decode cX2_endClause 24 = .ok (.getfield 9, 3) ∧ decode cX2_endClause 27 = .ok (.iconst 1, 1) ∧ decode cX2_endClause 28 = .ok (.iadd, 1) ∧ decode cX2_endClause 29 = .ok (.putfield 9, 3) := by decide +kernel
theorem dX2_endClause_22 : decode cX2_endClause 22 = .ok (.aload_n 0, 1) := dGX2_13.1
theorem dX2_endClause_23 : decode cX2_endClause 23 = .ok (.dup, 1) := dGX2_13.2.1
theorem dX2_endClause_24 : decode cX2_endClause 24 = .ok (.getfield 9, 3) := dGX2_13.2.2.1
theorem dX2_endClause_27 : decode cX2_endClause 27 = .ok (.iconst 1, 1) := dGX2_13.2.2.2.1
theorem dX2_endClause_28 : decode cX2_endClause 28 = .ok (.iadd, 1) := dGX2_13.2.2.2.2.1
theorem dX2_endClause_29 : decode cX2_endClause 29 = .ok (.putfield 9, 3) := dGX2_13.2.2.2.2.2
theorem dGX2_14 : decode cX2_endClause 32 = .ok (.return_, 1) ∧ decode cX2_addStep 0 = .ok (.aload_n 0, 1) ∧ decode cX2_addStep 1 = .ok (.getfield 15, 3) ∧ decode cX2_addStep 4 = .ok (.sipush 200, 3) ∧ decode cX2_addStep 7 = .ok (.if_icmp .lt 5, 3) ∧ decode cX2_addStep 10 = .ok (.iconst (-1), 1) := by decide +kernel
theorem dX2_endClause_32 : decode cX2_endClause 32 = .ok (.return_, 1) := dGX2_14.1
theorem dX2_addStep_0 : decode cX2_addStep 0 = .ok (.aload_n 0, 1) := dGX2_14.2.1
theorem dX2_addStep_1 : decode cX2_addStep 1 = .ok (.getfield 15, 3) := dGX2_14.2.2.1
theorem dX2_addStep_4 : decode cX2_addStep 4 = .ok (.sipush 200, 3) := dGX2_14.2.2.2.1
theorem dX2_addStep_7 : decode cX2_addStep 7 = .ok (.if_icmp .lt 5, 3) := dGX2_14.2.2.2.2.1
theorem dX2_addStep_10 : decode cX2_addStep 10 = .ok (.iconst (-1), 1) := dGX2_14.2.2.2.2.2
theorem dGX2_15 : decode cX2_addStep 11 = .ok (.ireturn, 1) ∧ decode cX2_addStep 12 = .ok (.aload_n 0, 1) ∧ decode cX2_addStep 13 = .ok (.getfield 31, 3) ∧ decode cX2_addStep 16 = .ok (.aload_n 0, 1) ∧ decode cX2_addStep 17 = .ok (.getfield 15, 3) ∧ decode cX2_addStep 20 = .ok (.iload_n 1, 1) := by decide +kernel
theorem dX2_addStep_11 : decode cX2_addStep 11 = .ok (.ireturn, 1) := dGX2_15.1
theorem dX2_addStep_12 : decode cX2_addStep 12 = .ok (.aload_n 0, 1) := dGX2_15.2.1
theorem dX2_addStep_13 : decode cX2_addStep 13 = .ok (.getfield 31, 3) := dGX2_15.2.2.1
theorem dX2_addStep_16 : decode cX2_addStep 16 = .ok (.aload_n 0, 1) := dGX2_15.2.2.2.1
theorem dX2_addStep_17 : decode cX2_addStep 17 = .ok (.getfield 15, 3) := dGX2_15.2.2.2.2.1
theorem dX2_addStep_20 : decode cX2_addStep 20 = .ok (.iload_n 1, 1) := dGX2_15.2.2.2.2.2
theorem dGX2_16 : decode cX2_addStep 21 = .ok (.iastore, 1) ∧ decode cX2_addStep 22 = .ok (.aload_n 0, 1) ∧ decode cX2_addStep 23 = .ok (.getfield 34, 3) ∧ decode cX2_addStep 26 = .ok (.aload_n 0, 1) ∧ decode cX2_addStep 27 = .ok (.getfield 15, 3) ∧ decode cX2_addStep 30 = .ok (.iload_n 2, 1) := by decide +kernel
theorem dX2_addStep_21 : decode cX2_addStep 21 = .ok (.iastore, 1) := dGX2_16.1
theorem dX2_addStep_22 : decode cX2_addStep 22 = .ok (.aload_n 0, 1) := dGX2_16.2.1
theorem dX2_addStep_23 : decode cX2_addStep 23 = .ok (.getfield 34, 3) := dGX2_16.2.2.1
theorem dX2_addStep_26 : decode cX2_addStep 26 = .ok (.aload_n 0, 1) := dGX2_16.2.2.2.1
theorem dX2_addStep_27 : decode cX2_addStep 27 = .ok (.getfield 15, 3) := dGX2_16.2.2.2.2.1
theorem dX2_addStep_30 : decode cX2_addStep 30 = .ok (.iload_n 2, 1) := dGX2_16.2.2.2.2.2
theorem dGX2_17 : decode cX2_addStep 31 = .ok (.iastore, 1) ∧ decode cX2_addStep 32 = .ok (.aload_n 0, 1) ∧ decode cX2_addStep 33 = .ok (.dup, 1) ∧ decode cX2_addStep 34 = .ok (.getfield 15, 3) ∧ decode cX2_addStep 37 = .ok (.iconst 1, 1) ∧ decode cX2_addStep 38 = .ok (.iadd, 1) := by decide +kernel
theorem dX2_addStep_31 : decode cX2_addStep 31 = .ok (.iastore, 1) := dGX2_17.1
theorem dX2_addStep_32 : decode cX2_addStep 32 = .ok (.aload_n 0, 1) := dGX2_17.2.1
theorem dX2_addStep_33 : decode cX2_addStep 33 = .ok (.dup, 1) := dGX2_17.2.2.1
theorem dX2_addStep_34 : decode cX2_addStep 34 = .ok (.getfield 15, 3) := dGX2_17.2.2.2.1
theorem dX2_addStep_37 : decode cX2_addStep 37 = .ok (.iconst 1, 1) := dGX2_17.2.2.2.2.1
theorem dX2_addStep_38 : decode cX2_addStep 38 = .ok (.iadd, 1) := dGX2_17.2.2.2.2.2
theorem dGX2_18 : decode cX2_addStep 39 = .ok (.putfield 15, 3) ∧ decode cX2_addStep 42 = .ok (.aload_n 0, 1) ∧ decode cX2_addStep 43 = .ok (.getfield 15, 3) ∧ decode cX2_addStep 46 = .ok (.iconst 1, 1) ∧ decode cX2_addStep 47 = .ok (.isub, 1) ∧ decode cX2_addStep 48 = .ok (.ireturn, 1) := by decide +kernel
theorem dX2_addStep_39 : decode cX2_addStep 39 = .ok (.putfield 15, 3) := dGX2_18.1
theorem dX2_addStep_42 : decode cX2_addStep 42 = .ok (.aload_n 0, 1) := dGX2_18.2.1
theorem dX2_addStep_43 : decode cX2_addStep 43 = .ok (.getfield 15, 3) := dGX2_18.2.2.1
theorem dX2_addStep_46 : decode cX2_addStep 46 = .ok (.iconst 1, 1) := dGX2_18.2.2.2.1
theorem dX2_addStep_47 : decode cX2_addStep 47 = .ok (.isub, 1) := dGX2_18.2.2.2.2.1
theorem dX2_addStep_48 : decode cX2_addStep 48 = .ok (.ireturn, 1) := dGX2_18.2.2.2.2.2
theorem dGX2_19 : decode cX2_aim 0 = .ok (.iload_n 1, 1) ∧ decode cX2_aim 1 = .ok (.ifCond .lt 18, 3) ∧ decode cX2_aim 4 = .ok (.iload_n 1, 1) ∧ decode cX2_aim 5 = .ok (.aload_n 0, 1) ∧ decode cX2_aim 6 = .ok (.getfield 15, 3) ∧ decode cX2_aim 9 = .ok (.if_icmp .ge 10, 3) := by decide +kernel
theorem dX2_aim_0 : decode cX2_aim 0 = .ok (.iload_n 1, 1) := dGX2_19.1
theorem dX2_aim_1 : decode cX2_aim 1 = .ok (.ifCond .lt 18, 3) := dGX2_19.2.1
theorem dX2_aim_4 : decode cX2_aim 4 = .ok (.iload_n 1, 1) := dGX2_19.2.2.1
theorem dX2_aim_5 : decode cX2_aim 5 = .ok (.aload_n 0, 1) := dGX2_19.2.2.2.1
theorem dX2_aim_6 : decode cX2_aim 6 = .ok (.getfield 15, 3) := dGX2_19.2.2.2.2.1
theorem dX2_aim_9 : decode cX2_aim 9 = .ok (.if_icmp .ge 10, 3) := dGX2_19.2.2.2.2.2
theorem dGX2_20 : decode cX2_aim 12 = .ok (.aload_n 0, 1) ∧ decode cX2_aim 13 = .ok (.getfield 34, 3) ∧ decode cX2_aim 16 = .ok (.iload_n 1, 1) ∧ decode cX2_aim 17 = .ok (.iload_n 2, 1) ∧ decode cX2_aim 18 = .ok (.iastore, 1) ∧ decode cX2_aim 19 = .ok (.return_, 1) := by decide +kernel
theorem dX2_aim_12 : decode cX2_aim 12 = .ok (.aload_n 0, 1) := dGX2_20.1
theorem dX2_aim_13 : decode cX2_aim 13 = .ok (.getfield 34, 3) := dGX2_20.2.1
theorem dX2_aim_16 : decode cX2_aim 16 = .ok (.iload_n 1, 1) := dGX2_20.2.2.1
theorem dX2_aim_17 : decode cX2_aim 17 = .ok (.iload_n 2, 1) := dGX2_20.2.2.2.1
theorem dX2_aim_18 : decode cX2_aim 18 = .ok (.iastore, 1) := dGX2_20.2.2.2.2.1
theorem dX2_aim_19 : decode cX2_aim 19 = .ok (.return_, 1) := dGX2_20.2.2.2.2.2
theorem dGX2_21 : decode cX2_answer 0 = .ok (.iconst 0, 1) ∧ decode cX2_answer 1 = .ok (.istore 4, 2) ∧ decode cX2_answer 3 = .ok (.iload 4, 2) ∧ decode cX2_answer 5 = .ok (.aload_n 0, 1) ∧ decode cX2_answer 6 = .ok (.getfield 9, 3) ∧ decode cX2_answer 9 = .ok (.if_icmp .ge 70, 3) := by decide +kernel
theorem dX2_answer_0 : decode cX2_answer 0 = .ok (.iconst 0, 1) := dGX2_21.1
theorem dX2_answer_1 : decode cX2_answer 1 = .ok (.istore 4, 2) := dGX2_21.2.1
theorem dX2_answer_3 : decode cX2_answer 3 = .ok (.iload 4, 2) := dGX2_21.2.2.1
theorem dX2_answer_5 : decode cX2_answer 5 = .ok (.aload_n 0, 1) := dGX2_21.2.2.2.1
theorem dX2_answer_6 : decode cX2_answer 6 = .ok (.getfield 9, 3) := dGX2_21.2.2.2.2.1
theorem dX2_answer_9 : decode cX2_answer 9 = .ok (.if_icmp .ge 70, 3) := dGX2_21.2.2.2.2.2
theorem dGX2_22 : decode cX2_answer 12 = .ok (.aload_n 0, 1) ∧ decode cX2_answer 13 = .ok (.getfield 18, 3) ∧ decode cX2_answer 16 = .ok (.iload 4, 2) ∧ decode cX2_answer 18 = .ok (.iaload, 1) ∧ decode cX2_answer 19 = .ok (.iload_n 1, 1) ∧ decode cX2_answer 20 = .ok (.if_icmp .ne 53, 3) := by decide +kernel
theorem dX2_answer_12 : decode cX2_answer 12 = .ok (.aload_n 0, 1) := dGX2_22.1
theorem dX2_answer_13 : decode cX2_answer 13 = .ok (.getfield 18, 3) := dGX2_22.2.1
theorem dX2_answer_16 : decode cX2_answer 16 = .ok (.iload 4, 2) := dGX2_22.2.2.1
theorem dX2_answer_18 : decode cX2_answer 18 = .ok (.iaload, 1) := dGX2_22.2.2.2.1
theorem dX2_answer_19 : decode cX2_answer 19 = .ok (.iload_n 1, 1) := dGX2_22.2.2.2.2.1
theorem dX2_answer_20 : decode cX2_answer 20 = .ok (.if_icmp .ne 53, 3) := dGX2_22.2.2.2.2.2
theorem dGX2_23 : decode cX2_answer 23 = .ok (.aload_n 0, 1) ∧ decode cX2_answer 24 = .ok (.aload_n 0, 1) ∧ decode cX2_answer 25 = .ok (.getfield 25, 3) ∧ decode cX2_answer 28 = .ok (.iload 4, 2) ∧ decode cX2_answer 30 = .ok (.iaload, 1) ∧ decode cX2_answer 31 = .ok (.aload_n 0, 1) := by decide +kernel
theorem dX2_answer_23 : decode cX2_answer 23 = .ok (.aload_n 0, 1) := dGX2_23.1
theorem dX2_answer_24 : decode cX2_answer 24 = .ok (.aload_n 0, 1) := dGX2_23.2.1
theorem dX2_answer_25 : decode cX2_answer 25 = .ok (.getfield 25, 3) := dGX2_23.2.2.1
theorem dX2_answer_28 : decode cX2_answer 28 = .ok (.iload 4, 2) := dGX2_23.2.2.2.1
theorem dX2_answer_30 : decode cX2_answer 30 = .ok (.iaload, 1) := dGX2_23.2.2.2.2.1
theorem dX2_answer_31 : decode cX2_answer 31 = .ok (.aload_n 0, 1) := dGX2_23.2.2.2.2.2
theorem dGX2_24 : decode cX2_answer 32 = .ok (.getfield 28, 3) ∧ decode cX2_answer 35 = .ok (.iload 4, 2) ∧ decode cX2_answer 37 = .ok (.iaload, 1) ∧ decode cX2_answer 38 = .ok (.aload_n 3, 1) ∧ decode cX2_answer 39 = .ok (.invokevirtual 40, 3) ∧ decode cX2_answer 42 = .ok (.ifCond .eq 31, 3) := by decide +kernel
theorem dX2_answer_32 : decode cX2_answer 32 = .ok (.getfield 28, 3) := dGX2_24.1
theorem dX2_answer_35 : decode cX2_answer 35 = .ok (.iload 4, 2) := dGX2_24.2.1
theorem dX2_answer_37 : decode cX2_answer 37 = .ok (.iaload, 1) := dGX2_24.2.2.1
theorem dX2_answer_38 : decode cX2_answer 38 = .ok (.aload_n 3, 1) := dGX2_24.2.2.2.1
theorem dX2_answer_39 : decode cX2_answer 39 = .ok (.invokevirtual 40, 3) := dGX2_24.2.2.2.2.1
theorem dX2_answer_42 : decode cX2_answer 42 = .ok (.ifCond .eq 31, 3) := dGX2_24.2.2.2.2.2
theorem dGX2_25 : decode cX2_answer 45 = .ok (.iconst 0, 1) ∧ decode cX2_answer 46 = .ok (.iload_n 2, 1) ∧ decode cX2_answer 47 = .ok (.aload_n 0, 1) ∧ decode cX2_answer 48 = .ok (.aload_n 0, 1) ∧ decode cX2_answer 49 = .ok (.getfield 22, 3) ∧ decode cX2_answer 52 = .ok (.iload 4, 2) := by decide +kernel
theorem dX2_answer_45 : decode cX2_answer 45 = .ok (.iconst 0, 1) := dGX2_25.1
theorem dX2_answer_46 : decode cX2_answer 46 = .ok (.iload_n 2, 1) := dGX2_25.2.1
theorem dX2_answer_47 : decode cX2_answer 47 = .ok (.aload_n 0, 1) := dGX2_25.2.2.1
theorem dX2_answer_48 : decode cX2_answer 48 = .ok (.aload_n 0, 1) := dGX2_25.2.2.2.1
theorem dX2_answer_49 : decode cX2_answer 49 = .ok (.getfield 22, 3) := dGX2_25.2.2.2.2.1
theorem dX2_answer_52 : decode cX2_answer 52 = .ok (.iload 4, 2) := dGX2_25.2.2.2.2.2
theorem dGX2_26 : decode cX2_answer 54 = .ok (.iaload, 1) ∧ decode cX2_answer 55 = .ok (.aload_n 0, 1) ∧ decode cX2_answer 56 = .ok (.getfield 25, 3) ∧ decode cX2_answer 59 = .ok (.iload 4, 2) ∧ decode cX2_answer 61 = .ok (.iaload, 1) ∧ decode cX2_answer 62 = .ok (.aload_n 3, 1) := by decide +kernel
theorem dX2_answer_54 : decode cX2_answer 54 = .ok (.iaload, 1) := dGX2_26.1
theorem dX2_answer_55 : decode cX2_answer 55 = .ok (.aload_n 0, 1) := dGX2_26.2.1
theorem dX2_answer_56 : decode cX2_answer 56 = .ok (.getfield 25, 3) := dGX2_26.2.2.1
theorem dX2_answer_59 : decode cX2_answer 59 = .ok (.iload 4, 2) := dGX2_26.2.2.2.1
theorem dX2_answer_61 : decode cX2_answer 61 = .ok (.iaload, 1) := dGX2_26.2.2.2.2.1
theorem dX2_answer_62 : decode cX2_answer 62 = .ok (.aload_n 3, 1) := dGX2_26.2.2.2.2.2
theorem dGX2_27 : decode cX2_answer 63 = .ok (.invokevirtual 40, 3) ∧ decode cX2_answer 66 = .ok (.invokestatic 44, 3) ∧ decode cX2_answer 69 = .ok (.invokestatic 50, 3) ∧ decode cX2_answer 72 = .ok (.ireturn, 1) ∧ decode cX2_answer 73 = .ok (.iinc 4 1, 3) ∧ decode cX2_answer 76 = .ok (.goto (-73), 3) := by decide +kernel
theorem dX2_answer_63 : decode cX2_answer 63 = .ok (.invokevirtual 40, 3) := dGX2_27.1
theorem dX2_answer_66 : decode cX2_answer 66 = .ok (.invokestatic 44, 3) := dGX2_27.2.1
theorem dX2_answer_69 : decode cX2_answer 69 = .ok (.invokestatic 50, 3) := dGX2_27.2.2.1
theorem dX2_answer_72 : decode cX2_answer 72 = .ok (.ireturn, 1) := dGX2_27.2.2.2.1
theorem dX2_answer_73 : decode cX2_answer 73 = .ok (.iinc 4 1, 3) := dGX2_27.2.2.2.2.1
theorem dX2_answer_76 : decode cX2_answer 76 = .ok (.goto (-73), 3) := dGX2_27.2.2.2.2.2
theorem dGX2_28 : decode cX2_answer 79 = .ok (.iconst 0, 1) ∧ decode cX2_answer 80 = .ok (.ireturn, 1) ∧ decode cX2_reckon 0 = .ok (.iload_n 1, 1) ∧ decode cX2_reckon 1 = .ok (.istore 4, 2) ∧ decode cX2_reckon 3 = .ok (.iconst 0, 1) ∧ decode cX2_reckon 4 = .ok (.istore 5, 2) := by decide +kernel
theorem dX2_answer_79 : decode cX2_answer 79 = .ok (.iconst 0, 1) := dGX2_28.1
theorem dX2_answer_80 : decode cX2_answer 80 = .ok (.ireturn, 1) := dGX2_28.2.1
theorem dX2_reckon_0 : decode cX2_reckon 0 = .ok (.iload_n 1, 1) := dGX2_28.2.2.1
theorem dX2_reckon_1 : decode cX2_reckon 1 = .ok (.istore 4, 2) := dGX2_28.2.2.2.1
theorem dX2_reckon_3 : decode cX2_reckon 3 = .ok (.iconst 0, 1) := dGX2_28.2.2.2.2.1
theorem dX2_reckon_4 : decode cX2_reckon 4 = .ok (.istore 5, 2) := dGX2_28.2.2.2.2.2
theorem dGX2_29 : decode cX2_reckon 6 = .ok (.iconst 0, 1) ∧ decode cX2_reckon 7 = .ok (.istore 6, 2) ∧ decode cX2_reckon 9 = .ok (.iload 6, 2) ∧ decode cX2_reckon 11 = .ok (.sipush 200, 3) ∧ decode cX2_reckon 14 = .ok (.if_icmp .ge 275, 3) ∧ decode cX2_reckon 17 = .ok (.iload 4, 2) := by decide +kernel
theorem dX2_reckon_6 : decode cX2_reckon 6 = .ok (.iconst 0, 1) := dGX2_29.1
theorem dX2_reckon_7 : decode cX2_reckon 7 = .ok (.istore 6, 2) := dGX2_29.2.1
theorem dX2_reckon_9 : decode cX2_reckon 9 = .ok (.iload 6, 2) := dGX2_29.2.2.1
theorem dX2_reckon_11 : decode cX2_reckon 11 = .ok (.sipush 200, 3) := dGX2_29.2.2.2.1
theorem dX2_reckon_14 : decode cX2_reckon 14 = .ok (.if_icmp .ge 275, 3) := dGX2_29.2.2.2.2.1
theorem dX2_reckon_17 : decode cX2_reckon 17 = .ok (.iload 4, 2) := dGX2_29.2.2.2.2.2
theorem dGX2_30 : decode cX2_reckon 19 = .ok (.ifCond .lt 270, 3) ∧ decode cX2_reckon 22 = .ok (.iload 4, 2) ∧ decode cX2_reckon 24 = .ok (.iload_n 2, 1) ∧ decode cX2_reckon 25 = .ok (.if_icmp .ge 264, 3) ∧ decode cX2_reckon 28 = .ok (.iload 4, 2) ∧ decode cX2_reckon 30 = .ok (.aload_n 0, 1) := by decide +kernel
theorem dX2_reckon_19 : decode cX2_reckon 19 = .ok (.ifCond .lt 270, 3) := dGX2_30.1
theorem dX2_reckon_22 : decode cX2_reckon 22 = .ok (.iload 4, 2) := dGX2_30.2.1
theorem dX2_reckon_24 : decode cX2_reckon 24 = .ok (.iload_n 2, 1) := dGX2_30.2.2.1
theorem dX2_reckon_25 : decode cX2_reckon 25 = .ok (.if_icmp .ge 264, 3) := dGX2_30.2.2.2.1
theorem dX2_reckon_28 : decode cX2_reckon 28 = .ok (.iload 4, 2) := dGX2_30.2.2.2.2.1
theorem dX2_reckon_30 : decode cX2_reckon 30 = .ok (.aload_n 0, 1) := dGX2_30.2.2.2.2.2
theorem dGX2_31 : decode cX2_reckon 31 = .ok (.getfield 15, 3) ∧ decode cX2_reckon 34 = .ok (.if_icmp .ge 255, 3) ∧ decode cX2_reckon 37 = .ok (.aload_n 0, 1) ∧ decode cX2_reckon 38 = .ok (.getfield 31, 3) ∧ decode cX2_reckon 41 = .ok (.iload 4, 2) ∧ decode cX2_reckon 43 = .ok (.iaload, 1) := by decide +kernel
theorem dX2_reckon_31 : decode cX2_reckon 31 = .ok (.getfield 15, 3) := dGX2_31.1
theorem dX2_reckon_34 : decode cX2_reckon 34 = .ok (.if_icmp .ge 255, 3) := dGX2_31.2.1
theorem dX2_reckon_37 : decode cX2_reckon 37 = .ok (.aload_n 0, 1) := dGX2_31.2.2.1
theorem dX2_reckon_38 : decode cX2_reckon 38 = .ok (.getfield 31, 3) := dGX2_31.2.2.2.1
theorem dX2_reckon_41 : decode cX2_reckon 41 = .ok (.iload 4, 2) := dGX2_31.2.2.2.2.1
theorem dX2_reckon_43 : decode cX2_reckon 43 = .ok (.iaload, 1) := dGX2_31.2.2.2.2.2
theorem dGX2_32 : decode cX2_reckon 44 = .ok (.istore 7, 2) ∧ decode cX2_reckon 46 = .ok (.aload_n 0, 1) ∧ decode cX2_reckon 47 = .ok (.getfield 34, 3) ∧ decode cX2_reckon 50 = .ok (.iload 4, 2) ∧ decode cX2_reckon 52 = .ok (.iaload, 1) ∧ decode cX2_reckon 53 = .ok (.istore 8, 2) := by decide +kernel
theorem dX2_reckon_44 : decode cX2_reckon 44 = .ok (.istore 7, 2) := dGX2_32.1
theorem dX2_reckon_46 : decode cX2_reckon 46 = .ok (.aload_n 0, 1) := dGX2_32.2.1
theorem dX2_reckon_47 : decode cX2_reckon 47 = .ok (.getfield 34, 3) := dGX2_32.2.2.1
theorem dX2_reckon_50 : decode cX2_reckon 50 = .ok (.iload 4, 2) := dGX2_32.2.2.2.1
theorem dX2_reckon_52 : decode cX2_reckon 52 = .ok (.iaload, 1) := dGX2_32.2.2.2.2.1
theorem dX2_reckon_53 : decode cX2_reckon 53 = .ok (.istore 8, 2) := dGX2_32.2.2.2.2.2
theorem dGX2_33 : decode cX2_reckon 55 = .ok (.iinc 4 1, 3) ∧ decode cX2_reckon 58 = .ok (.iload 7, 2) ∧ decode cX2_reckon 60 = .ok (.ifCond .eq 9, 3) ∧ decode cX2_reckon 63 = .ok (.iload 7, 2) ∧ decode cX2_reckon 65 = .ok (.iconst 1, 1) ∧ decode cX2_reckon 66 = .ok (.if_icmp .ne 57, 3) := by decide +kernel
theorem dX2_reckon_55 : decode cX2_reckon 55 = .ok (.iinc 4 1, 3) := dGX2_33.1
theorem dX2_reckon_58 : decode cX2_reckon 58 = .ok (.iload 7, 2) := dGX2_33.2.1
theorem dX2_reckon_60 : decode cX2_reckon 60 = .ok (.ifCond .eq 9, 3) := dGX2_33.2.2.1
theorem dX2_reckon_63 : decode cX2_reckon 63 = .ok (.iload 7, 2) := dGX2_33.2.2.2.1
theorem dX2_reckon_65 : decode cX2_reckon 65 = .ok (.iconst 1, 1) := dGX2_33.2.2.2.2.1
theorem dX2_reckon_66 : decode cX2_reckon 66 = .ok (.if_icmp .ne 57, 3) := dGX2_33.2.2.2.2.2
theorem dGX2_34 : decode cX2_reckon 69 = .ok (.iload 5, 2) ∧ decode cX2_reckon 71 = .ok (.bipush 40, 2) ∧ decode cX2_reckon 73 = .ok (.if_icmp .ge 21, 3) ∧ decode cX2_reckon 76 = .ok (.iload 7, 2) ∧ decode cX2_reckon 78 = .ok (.iconst 1, 1) ∧ decode cX2_reckon 79 = .ok (.if_icmp .ne 17, 3) := by decide +kernel
theorem dX2_reckon_69 : decode cX2_reckon 69 = .ok (.iload 5, 2) := dGX2_34.1
theorem dX2_reckon_71 : decode cX2_reckon 71 = .ok (.bipush 40, 2) := dGX2_34.2.1
theorem dX2_reckon_73 : decode cX2_reckon 73 = .ok (.if_icmp .ge 21, 3) := dGX2_34.2.2.1
theorem dX2_reckon_76 : decode cX2_reckon 76 = .ok (.iload 7, 2) := dGX2_34.2.2.2.1
theorem dX2_reckon_78 : decode cX2_reckon 78 = .ok (.iconst 1, 1) := dGX2_34.2.2.2.2.1
theorem dX2_reckon_79 : decode cX2_reckon 79 = .ok (.if_icmp .ne 17, 3) := dGX2_34.2.2.2.2.2
theorem dGX2_35 : decode cX2_reckon 82 = .ok (.iload 8, 2) ∧ decode cX2_reckon 84 = .ok (.ifCond .lt 10, 3) ∧ decode cX2_reckon 87 = .ok (.iload 8, 2) ∧ decode cX2_reckon 89 = .ok (.aload_n 3, 1) ∧ decode cX2_reckon 90 = .ok (.arraylength, 1) ∧ decode cX2_reckon 91 = .ok (.if_icmp .lt 5, 3) := by decide +kernel
theorem dX2_reckon_82 : decode cX2_reckon 82 = .ok (.iload 8, 2) := dGX2_35.1
theorem dX2_reckon_84 : decode cX2_reckon 84 = .ok (.ifCond .lt 10, 3) := dGX2_35.2.1
theorem dX2_reckon_87 : decode cX2_reckon 87 = .ok (.iload 8, 2) := dGX2_35.2.2.1
theorem dX2_reckon_89 : decode cX2_reckon 89 = .ok (.aload_n 3, 1) := dGX2_35.2.2.2.1
theorem dX2_reckon_90 : decode cX2_reckon 90 = .ok (.arraylength, 1) := dGX2_35.2.2.2.2.1
theorem dX2_reckon_91 : decode cX2_reckon 91 = .ok (.if_icmp .lt 5, 3) := dGX2_35.2.2.2.2.2
theorem dGX2_36 : decode cX2_reckon 94 = .ok (.iconst 0, 1) ∧ decode cX2_reckon 95 = .ok (.ireturn, 1) ∧ decode cX2_reckon 96 = .ok (.aload_n 0, 1) ∧ decode cX2_reckon 97 = .ok (.getfield 37, 3) ∧ decode cX2_reckon 100 = .ok (.iload 5, 2) ∧ decode cX2_reckon 102 = .ok (.iload 7, 2) := by decide +kernel
theorem dX2_reckon_94 : decode cX2_reckon 94 = .ok (.iconst 0, 1) := dGX2_36.1
theorem dX2_reckon_95 : decode cX2_reckon 95 = .ok (.ireturn, 1) := dGX2_36.2.1
theorem dX2_reckon_96 : decode cX2_reckon 96 = .ok (.aload_n 0, 1) := dGX2_36.2.2.1
theorem dX2_reckon_97 : decode cX2_reckon 97 = .ok (.getfield 37, 3) := dGX2_36.2.2.2.1
theorem dX2_reckon_100 : decode cX2_reckon 100 = .ok (.iload 5, 2) := dGX2_36.2.2.2.2.1
theorem dX2_reckon_102 : decode cX2_reckon 102 = .ok (.iload 7, 2) := dGX2_36.2.2.2.2.2
theorem dGX2_37 : decode cX2_reckon 104 = .ok (.ifCond .ne 8, 3) ∧ decode cX2_reckon 107 = .ok (.iload 8, 2) ∧ decode cX2_reckon 109 = .ok (.goto 7, 3) ∧ decode cX2_reckon 112 = .ok (.aload_n 3, 1) ∧ decode cX2_reckon 113 = .ok (.iload 8, 2) ∧ decode cX2_reckon 115 = .ok (.iaload, 1) := by decide +kernel
theorem dX2_reckon_104 : decode cX2_reckon 104 = .ok (.ifCond .ne 8, 3) := dGX2_37.1
theorem dX2_reckon_107 : decode cX2_reckon 107 = .ok (.iload 8, 2) := dGX2_37.2.1
theorem dX2_reckon_109 : decode cX2_reckon 109 = .ok (.goto 7, 3) := dGX2_37.2.2.1
theorem dX2_reckon_112 : decode cX2_reckon 112 = .ok (.aload_n 3, 1) := dGX2_37.2.2.2.1
theorem dX2_reckon_113 : decode cX2_reckon 113 = .ok (.iload 8, 2) := dGX2_37.2.2.2.2.1
theorem dX2_reckon_115 : decode cX2_reckon 115 = .ok (.iaload, 1) := dGX2_37.2.2.2.2.2
theorem dGX2_38 : decode cX2_reckon 116 = .ok (.iastore, 1) ∧ decode cX2_reckon 117 = .ok (.iinc 5 1, 3) ∧ decode cX2_reckon 120 = .ok (.goto 163, 3) ∧ decode cX2_reckon 123 = .ok (.iload 5, 2) ∧ decode cX2_reckon 125 = .ok (.iconst 1, 1) ∧ decode cX2_reckon 126 = .ok (.if_icmp .ge 5, 3) := by decide +kernel
theorem dX2_reckon_116 : decode cX2_reckon 116 = .ok (.iastore, 1) := dGX2_38.1
theorem dX2_reckon_117 : decode cX2_reckon 117 = .ok (.iinc 5 1, 3) := dGX2_38.2.1
theorem dX2_reckon_120 : decode cX2_reckon 120 = .ok (.goto 163, 3) := dGX2_38.2.2.1
theorem dX2_reckon_123 : decode cX2_reckon 123 = .ok (.iload 5, 2) := dGX2_38.2.2.2.1
theorem dX2_reckon_125 : decode cX2_reckon 125 = .ok (.iconst 1, 1) := dGX2_38.2.2.2.2.1
theorem dX2_reckon_126 : decode cX2_reckon 126 = .ok (.if_icmp .ge 5, 3) := dGX2_38.2.2.2.2.2
theorem dGX2_39 : decode cX2_reckon 129 = .ok (.iconst 0, 1) ∧ decode cX2_reckon 130 = .ok (.ireturn, 1) ∧ decode cX2_reckon 131 = .ok (.iload 7, 2) ∧ decode cX2_reckon 133 = .ok (.iconst 2, 1) ∧ decode cX2_reckon 134 = .ok (.if_icmp .ne 26, 3) ∧ decode cX2_reckon 137 = .ok (.aload_n 0, 1) := by decide +kernel
theorem dX2_reckon_129 : decode cX2_reckon 129 = .ok (.iconst 0, 1) := dGX2_39.1
theorem dX2_reckon_130 : decode cX2_reckon 130 = .ok (.ireturn, 1) := dGX2_39.2.1
theorem dX2_reckon_131 : decode cX2_reckon 131 = .ok (.iload 7, 2) := dGX2_39.2.2.1
theorem dX2_reckon_133 : decode cX2_reckon 133 = .ok (.iconst 2, 1) := dGX2_39.2.2.2.1
theorem dX2_reckon_134 : decode cX2_reckon 134 = .ok (.if_icmp .ne 26, 3) := dGX2_39.2.2.2.2.1
theorem dX2_reckon_137 : decode cX2_reckon 137 = .ok (.aload_n 0, 1) := dGX2_39.2.2.2.2.2
theorem dGX2_40 : decode cX2_reckon 138 = .ok (.getfield 37, 3) ∧ decode cX2_reckon 141 = .ok (.iload 5, 2) ∧ decode cX2_reckon 143 = .ok (.iconst 1, 1) ∧ decode cX2_reckon 144 = .ok (.isub, 1) ∧ decode cX2_reckon 145 = .ok (.iconst 1, 1) ∧ decode cX2_reckon 146 = .ok (.aload_n 0, 1) := by decide +kernel
theorem dX2_reckon_138 : decode cX2_reckon 138 = .ok (.getfield 37, 3) := dGX2_40.1
theorem dX2_reckon_141 : decode cX2_reckon 141 = .ok (.iload 5, 2) := dGX2_40.2.1
theorem dX2_reckon_143 : decode cX2_reckon 143 = .ok (.iconst 1, 1) := dGX2_40.2.2.1
theorem dX2_reckon_144 : decode cX2_reckon 144 = .ok (.isub, 1) := dGX2_40.2.2.2.1
theorem dX2_reckon_145 : decode cX2_reckon 145 = .ok (.iconst 1, 1) := dGX2_40.2.2.2.2.1
theorem dX2_reckon_146 : decode cX2_reckon 146 = .ok (.aload_n 0, 1) := dGX2_40.2.2.2.2.2
theorem dGX2_41 : decode cX2_reckon 147 = .ok (.getfield 37, 3) ∧ decode cX2_reckon 150 = .ok (.iload 5, 2) ∧ decode cX2_reckon 152 = .ok (.iconst 1, 1) ∧ decode cX2_reckon 153 = .ok (.isub, 1) ∧ decode cX2_reckon 154 = .ok (.iaload, 1) ∧ decode cX2_reckon 155 = .ok (.isub, 1) := by decide +kernel
theorem dX2_reckon_147 : decode cX2_reckon 147 = .ok (.getfield 37, 3) := dGX2_41.1
theorem dX2_reckon_150 : decode cX2_reckon 150 = .ok (.iload 5, 2) := dGX2_41.2.1
theorem dX2_reckon_152 : decode cX2_reckon 152 = .ok (.iconst 1, 1) := dGX2_41.2.2.1
theorem dX2_reckon_153 : decode cX2_reckon 153 = .ok (.isub, 1) := dGX2_41.2.2.2.1
theorem dX2_reckon_154 : decode cX2_reckon 154 = .ok (.iaload, 1) := dGX2_41.2.2.2.2.1
theorem dX2_reckon_155 : decode cX2_reckon 155 = .ok (.isub, 1) := dGX2_41.2.2.2.2.2
theorem dGX2_42 : decode cX2_reckon 156 = .ok (.iastore, 1) ∧ decode cX2_reckon 157 = .ok (.goto 126, 3) ∧ decode cX2_reckon 160 = .ok (.iload 7, 2) ∧ decode cX2_reckon 162 = .ok (.iconst 3, 1) ∧ decode cX2_reckon 163 = .ok (.if_icmp .eq 9, 3) ∧ decode cX2_reckon 166 = .ok (.iload 7, 2) := by decide +kernel
theorem dX2_reckon_156 : decode cX2_reckon 156 = .ok (.iastore, 1) := dGX2_42.1
theorem dX2_reckon_157 : decode cX2_reckon 157 = .ok (.goto 126, 3) := dGX2_42.2.1
theorem dX2_reckon_160 : decode cX2_reckon 160 = .ok (.iload 7, 2) := dGX2_42.2.2.1
theorem dX2_reckon_162 : decode cX2_reckon 162 = .ok (.iconst 3, 1) := dGX2_42.2.2.2.1
theorem dX2_reckon_163 : decode cX2_reckon 163 = .ok (.if_icmp .eq 9, 3) := dGX2_42.2.2.2.2.1
theorem dX2_reckon_166 : decode cX2_reckon 166 = .ok (.iload 7, 2) := dGX2_42.2.2.2.2.2
theorem dGX2_43 : decode cX2_reckon 168 = .ok (.iconst 4, 1) ∧ decode cX2_reckon 169 = .ok (.if_icmp .ne 47, 3) ∧ decode cX2_reckon 172 = .ok (.aload_n 0, 1) ∧ decode cX2_reckon 173 = .ok (.getfield 37, 3) ∧ decode cX2_reckon 176 = .ok (.iload 5, 2) ∧ decode cX2_reckon 178 = .ok (.iconst 1, 1) := by decide +kernel
theorem dX2_reckon_168 : decode cX2_reckon 168 = .ok (.iconst 4, 1) := dGX2_43.1
theorem dX2_reckon_169 : decode cX2_reckon 169 = .ok (.if_icmp .ne 47, 3) := dGX2_43.2.1
theorem dX2_reckon_172 : decode cX2_reckon 172 = .ok (.aload_n 0, 1) := dGX2_43.2.2.1
theorem dX2_reckon_173 : decode cX2_reckon 173 = .ok (.getfield 37, 3) := dGX2_43.2.2.2.1
theorem dX2_reckon_176 : decode cX2_reckon 176 = .ok (.iload 5, 2) := dGX2_43.2.2.2.2.1
theorem dX2_reckon_178 : decode cX2_reckon 178 = .ok (.iconst 1, 1) := dGX2_43.2.2.2.2.2
theorem dGX2_44 : decode cX2_reckon 179 = .ok (.isub, 1) ∧ decode cX2_reckon 180 = .ok (.iaload, 1) ∧ decode cX2_reckon 181 = .ok (.ifCond .eq 7, 3) ∧ decode cX2_reckon 184 = .ok (.iconst 1, 1) ∧ decode cX2_reckon 185 = .ok (.goto 4, 3) ∧ decode cX2_reckon 188 = .ok (.iconst 0, 1) := by decide +kernel
theorem dX2_reckon_179 : decode cX2_reckon 179 = .ok (.isub, 1) := dGX2_44.1
theorem dX2_reckon_180 : decode cX2_reckon 180 = .ok (.iaload, 1) := dGX2_44.2.1
theorem dX2_reckon_181 : decode cX2_reckon 181 = .ok (.ifCond .eq 7, 3) := dGX2_44.2.2.1
theorem dX2_reckon_184 : decode cX2_reckon 184 = .ok (.iconst 1, 1) := dGX2_44.2.2.2.1
theorem dX2_reckon_185 : decode cX2_reckon 185 = .ok (.goto 4, 3) := dGX2_44.2.2.2.2.1
theorem dX2_reckon_188 : decode cX2_reckon 188 = .ok (.iconst 0, 1) := dGX2_44.2.2.2.2.2
theorem dGX2_45 : decode cX2_reckon 189 = .ok (.iload 7, 2) ∧ decode cX2_reckon 191 = .ok (.iconst 3, 1) ∧ decode cX2_reckon 192 = .ok (.if_icmp .ne 7, 3) ∧ decode cX2_reckon 195 = .ok (.iconst 1, 1) ∧ decode cX2_reckon 196 = .ok (.goto 4, 3) ∧ decode cX2_reckon 199 = .ok (.iconst 0, 1) := by decide +kernel
theorem dX2_reckon_189 : decode cX2_reckon 189 = .ok (.iload 7, 2) := dGX2_45.1
theorem dX2_reckon_191 : decode cX2_reckon 191 = .ok (.iconst 3, 1) := dGX2_45.2.1
theorem dX2_reckon_192 : decode cX2_reckon 192 = .ok (.if_icmp .ne 7, 3) := dGX2_45.2.2.1
theorem dX2_reckon_195 : decode cX2_reckon 195 = .ok (.iconst 1, 1) := dGX2_45.2.2.2.1
theorem dX2_reckon_196 : decode cX2_reckon 196 = .ok (.goto 4, 3) := dGX2_45.2.2.2.2.1
theorem dX2_reckon_199 : decode cX2_reckon 199 = .ok (.iconst 0, 1) := dGX2_45.2.2.2.2.2
theorem dGX2_46 : decode cX2_reckon 200 = .ok (.if_icmp .ne 10, 3) ∧ decode cX2_reckon 203 = .ok (.iload 8, 2) ∧ decode cX2_reckon 205 = .ok (.istore 4, 2) ∧ decode cX2_reckon 207 = .ok (.goto 76, 3) ∧ decode cX2_reckon 210 = .ok (.iinc 5 (-1), 3) ∧ decode cX2_reckon 213 = .ok (.goto 70, 3) := by decide +kernel
theorem dX2_reckon_200 : decode cX2_reckon 200 = .ok (.if_icmp .ne 10, 3) := dGX2_46.1
theorem dX2_reckon_203 : decode cX2_reckon 203 = .ok (.iload 8, 2) := dGX2_46.2.1
theorem dX2_reckon_205 : decode cX2_reckon 205 = .ok (.istore 4, 2) := dGX2_46.2.2.1
theorem dX2_reckon_207 : decode cX2_reckon 207 = .ok (.goto 76, 3) := dGX2_46.2.2.2.1
theorem dX2_reckon_210 : decode cX2_reckon 210 = .ok (.iinc 5 (-1), 3) := dGX2_46.2.2.2.2.1
theorem dX2_reckon_213 : decode cX2_reckon 213 = .ok (.goto 70, 3) := dGX2_46.2.2.2.2.2
theorem dGX2_47 : decode cX2_reckon 216 = .ok (.iload 5, 2) ∧ decode cX2_reckon 218 = .ok (.iconst 2, 1) ∧ decode cX2_reckon 219 = .ok (.if_icmp .lt 29, 3) ∧ decode cX2_reckon 222 = .ok (.aload_n 0, 1) ∧ decode cX2_reckon 223 = .ok (.getfield 37, 3) ∧ decode cX2_reckon 226 = .ok (.iload 5, 2) := by decide +kernel
theorem dX2_reckon_216 : decode cX2_reckon 216 = .ok (.iload 5, 2) := dGX2_47.1
theorem dX2_reckon_218 : decode cX2_reckon 218 = .ok (.iconst 2, 1) := dGX2_47.2.1
theorem dX2_reckon_219 : decode cX2_reckon 219 = .ok (.if_icmp .lt 29, 3) := dGX2_47.2.2.1
theorem dX2_reckon_222 : decode cX2_reckon 222 = .ok (.aload_n 0, 1) := dGX2_47.2.2.2.1
theorem dX2_reckon_223 : decode cX2_reckon 223 = .ok (.getfield 37, 3) := dGX2_47.2.2.2.2.1
theorem dX2_reckon_226 : decode cX2_reckon 226 = .ok (.iload 5, 2) := dGX2_47.2.2.2.2.2
theorem dGX2_48 : decode cX2_reckon 228 = .ok (.iconst 1, 1) ∧ decode cX2_reckon 229 = .ok (.isub, 1) ∧ decode cX2_reckon 230 = .ok (.iaload, 1) ∧ decode cX2_reckon 231 = .ok (.ifCond .ne 19, 3) ∧ decode cX2_reckon 234 = .ok (.iload 7, 2) ∧ decode cX2_reckon 236 = .ok (.bipush 47, 2) := by decide +kernel
theorem dX2_reckon_228 : decode cX2_reckon 228 = .ok (.iconst 1, 1) := dGX2_48.1
theorem dX2_reckon_229 : decode cX2_reckon 229 = .ok (.isub, 1) := dGX2_48.2.1
theorem dX2_reckon_230 : decode cX2_reckon 230 = .ok (.iaload, 1) := dGX2_48.2.2.1
theorem dX2_reckon_231 : decode cX2_reckon 231 = .ok (.ifCond .ne 19, 3) := dGX2_48.2.2.2.1
theorem dX2_reckon_234 : decode cX2_reckon 234 = .ok (.iload 7, 2) := dGX2_48.2.2.2.2.1
theorem dX2_reckon_236 : decode cX2_reckon 236 = .ok (.bipush 47, 2) := dGX2_48.2.2.2.2.2
theorem dGX2_49 : decode cX2_reckon 238 = .ok (.if_icmp .eq 10, 3) ∧ decode cX2_reckon 241 = .ok (.iload 7, 2) ∧ decode cX2_reckon 243 = .ok (.bipush 37, 2) ∧ decode cX2_reckon 245 = .ok (.if_icmp .ne 5, 3) ∧ decode cX2_reckon 248 = .ok (.iconst 0, 1) ∧ decode cX2_reckon 249 = .ok (.ireturn, 1) := by decide +kernel
theorem dX2_reckon_238 : decode cX2_reckon 238 = .ok (.if_icmp .eq 10, 3) := dGX2_49.1
theorem dX2_reckon_241 : decode cX2_reckon 241 = .ok (.iload 7, 2) := dGX2_49.2.1
theorem dX2_reckon_243 : decode cX2_reckon 243 = .ok (.bipush 37, 2) := dGX2_49.2.2.1
theorem dX2_reckon_245 : decode cX2_reckon 245 = .ok (.if_icmp .ne 5, 3) := dGX2_49.2.2.2.1
theorem dX2_reckon_248 : decode cX2_reckon 248 = .ok (.iconst 0, 1) := dGX2_49.2.2.2.2.1
theorem dX2_reckon_249 : decode cX2_reckon 249 = .ok (.ireturn, 1) := dGX2_49.2.2.2.2.2
theorem dGX2_50 : decode cX2_reckon 250 = .ok (.iinc 5 (-1), 3) ∧ decode cX2_reckon 253 = .ok (.aload_n 0, 1) ∧ decode cX2_reckon 254 = .ok (.getfield 37, 3) ∧ decode cX2_reckon 257 = .ok (.iload 5, 2) ∧ decode cX2_reckon 259 = .ok (.iconst 1, 1) ∧ decode cX2_reckon 260 = .ok (.isub, 1) := by decide +kernel
theorem dX2_reckon_250 : decode cX2_reckon 250 = .ok (.iinc 5 (-1), 3) := dGX2_50.1
theorem dX2_reckon_253 : decode cX2_reckon 253 = .ok (.aload_n 0, 1) := dGX2_50.2.1
theorem dX2_reckon_254 : decode cX2_reckon 254 = .ok (.getfield 37, 3) := dGX2_50.2.2.1
theorem dX2_reckon_257 : decode cX2_reckon 257 = .ok (.iload 5, 2) := dGX2_50.2.2.2.1
theorem dX2_reckon_259 : decode cX2_reckon 259 = .ok (.iconst 1, 1) := dGX2_50.2.2.2.2.1
theorem dX2_reckon_260 : decode cX2_reckon 260 = .ok (.isub, 1) := dGX2_50.2.2.2.2.2
theorem dGX2_51 : decode cX2_reckon 261 = .ok (.iload 7, 2) ∧ decode cX2_reckon 263 = .ok (.aload_n 0, 1) ∧ decode cX2_reckon 264 = .ok (.getfield 37, 3) ∧ decode cX2_reckon 267 = .ok (.iload 5, 2) ∧ decode cX2_reckon 269 = .ok (.iconst 1, 1) ∧ decode cX2_reckon 270 = .ok (.isub, 1) := by decide +kernel
theorem dX2_reckon_261 : decode cX2_reckon 261 = .ok (.iload 7, 2) := dGX2_51.1
theorem dX2_reckon_263 : decode cX2_reckon 263 = .ok (.aload_n 0, 1) := dGX2_51.2.1
theorem dX2_reckon_264 : decode cX2_reckon 264 = .ok (.getfield 37, 3) := dGX2_51.2.2.1
theorem dX2_reckon_267 : decode cX2_reckon 267 = .ok (.iload 5, 2) := dGX2_51.2.2.2.1
theorem dX2_reckon_269 : decode cX2_reckon 269 = .ok (.iconst 1, 1) := dGX2_51.2.2.2.2.1
theorem dX2_reckon_270 : decode cX2_reckon 270 = .ok (.isub, 1) := dGX2_51.2.2.2.2.2
theorem dGX2_52 : decode cX2_reckon 271 = .ok (.iaload, 1) ∧ decode cX2_reckon 272 = .ok (.aload_n 0, 1) ∧ decode cX2_reckon 273 = .ok (.getfield 37, 3) ∧ decode cX2_reckon 276 = .ok (.iload 5, 2) ∧ decode cX2_reckon 278 = .ok (.iaload, 1) ∧ decode cX2_reckon 279 = .ok (.invokestatic 53, 3) := by decide +kernel
theorem dX2_reckon_271 : decode cX2_reckon 271 = .ok (.iaload, 1) := dGX2_52.1
theorem dX2_reckon_272 : decode cX2_reckon 272 = .ok (.aload_n 0, 1) := dGX2_52.2.1
theorem dX2_reckon_273 : decode cX2_reckon 273 = .ok (.getfield 37, 3) := dGX2_52.2.2.1
theorem dX2_reckon_276 : decode cX2_reckon 276 = .ok (.iload 5, 2) := dGX2_52.2.2.2.1
theorem dX2_reckon_278 : decode cX2_reckon 278 = .ok (.iaload, 1) := dGX2_52.2.2.2.2.1
theorem dX2_reckon_279 : decode cX2_reckon 279 = .ok (.invokestatic 53, 3) := dGX2_52.2.2.2.2.2
theorem dGX2_53 : decode cX2_reckon 282 = .ok (.iastore, 1) ∧ decode cX2_reckon 283 = .ok (.iinc 6 1, 3) ∧ decode cX2_reckon 286 = .ok (.goto (-277), 3) ∧ decode cX2_reckon 289 = .ok (.iload 5, 2) ∧ decode cX2_reckon 291 = .ok (.ifCond .le 15, 3) ∧ decode cX2_reckon 294 = .ok (.aload_n 0, 1) := by decide +kernel
theorem dX2_reckon_282 : decode cX2_reckon 282 = .ok (.iastore, 1) := dGX2_53.1
theorem dX2_reckon_283 : decode cX2_reckon 283 = .ok (.iinc 6 1, 3) := dGX2_53.2.1
theorem dX2_reckon_286 : decode cX2_reckon 286 = .ok (.goto (-277), 3) := dGX2_53.2.2.1
theorem dX2_reckon_289 : decode cX2_reckon 289 = .ok (.iload 5, 2) := dGX2_53.2.2.2.1
theorem dX2_reckon_291 : decode cX2_reckon 291 = .ok (.ifCond .le 15, 3) := dGX2_53.2.2.2.2.1
theorem dX2_reckon_294 : decode cX2_reckon 294 = .ok (.aload_n 0, 1) := dGX2_53.2.2.2.2.2
theorem dGX2_54 : decode cX2_reckon 295 = .ok (.getfield 37, 3) ∧ decode cX2_reckon 298 = .ok (.iload 5, 2) ∧ decode cX2_reckon 300 = .ok (.iconst 1, 1) ∧ decode cX2_reckon 301 = .ok (.isub, 1) ∧ decode cX2_reckon 302 = .ok (.iaload, 1) ∧ decode cX2_reckon 303 = .ok (.goto 4, 3) := by decide +kernel
theorem dX2_reckon_295 : decode cX2_reckon 295 = .ok (.getfield 37, 3) := dGX2_54.1
theorem dX2_reckon_298 : decode cX2_reckon 298 = .ok (.iload 5, 2) := dGX2_54.2.1
theorem dX2_reckon_300 : decode cX2_reckon 300 = .ok (.iconst 1, 1) := dGX2_54.2.2.1
theorem dX2_reckon_301 : decode cX2_reckon 301 = .ok (.isub, 1) := dGX2_54.2.2.2.1
theorem dX2_reckon_302 : decode cX2_reckon 302 = .ok (.iaload, 1) := dGX2_54.2.2.2.2.1
theorem dX2_reckon_303 : decode cX2_reckon 303 = .ok (.goto 4, 3) := dGX2_54.2.2.2.2.2
theorem dGX2_55 : decode cX2_reckon 306 = .ok (.iconst 0, 1) ∧ decode cX2_reckon 307 = .ok (.ireturn, 1) ∧ decode cX2_joined 0 = .ok (.iload_n 0, 1) ∧ decode cX2_joined 1 = .ok (.lookupswitch 125 #[(37, 91), (42, 75), (43, 67), (45, 71), (47, 79), (60, 103), (62, 114)], 67) ∧ decode cX2_joined 68 = .ok (.iload_n 1, 1) ∧ decode cX2_joined 69 = .ok (.iload_n 2, 1) := by decide +kernel
theorem dX2_reckon_306 : decode cX2_reckon 306 = .ok (.iconst 0, 1) := dGX2_55.1
theorem dX2_reckon_307 : decode cX2_reckon 307 = .ok (.ireturn, 1) := dGX2_55.2.1
theorem dX2_joined_0 : decode cX2_joined 0 = .ok (.iload_n 0, 1) := dGX2_55.2.2.1
theorem dX2_joined_1 : decode cX2_joined 1 = .ok (.lookupswitch 125 #[(37, 91), (42, 75), (43, 67), (45, 71), (47, 79), (60, 103), (62, 114)], 67) := dGX2_55.2.2.2.1
theorem dX2_joined_68 : decode cX2_joined 68 = .ok (.iload_n 1, 1) := dGX2_55.2.2.2.2.1
theorem dX2_joined_69 : decode cX2_joined 69 = .ok (.iload_n 2, 1) := dGX2_55.2.2.2.2.2
theorem dGX2_56 : decode cX2_joined 70 = .ok (.iadd, 1) ∧ decode cX2_joined 71 = .ok (.ireturn, 1) ∧ decode cX2_joined 72 = .ok (.iload_n 1, 1) ∧ decode cX2_joined 73 = .ok (.iload_n 2, 1) ∧ decode cX2_joined 74 = .ok (.isub, 1) ∧ decode cX2_joined 75 = .ok (.ireturn, 1) := by decide +kernel
theorem dX2_joined_70 : decode cX2_joined 70 = .ok (.iadd, 1) := dGX2_56.1
theorem dX2_joined_71 : decode cX2_joined 71 = .ok (.ireturn, 1) := dGX2_56.2.1
theorem dX2_joined_72 : decode cX2_joined 72 = .ok (.iload_n 1, 1) := dGX2_56.2.2.1
theorem dX2_joined_73 : decode cX2_joined 73 = .ok (.iload_n 2, 1) := dGX2_56.2.2.2.1
theorem dX2_joined_74 : decode cX2_joined 74 = .ok (.isub, 1) := dGX2_56.2.2.2.2.1
theorem dX2_joined_75 : decode cX2_joined 75 = .ok (.ireturn, 1) := dGX2_56.2.2.2.2.2
theorem dGX2_57 : decode cX2_joined 76 = .ok (.iload_n 1, 1) ∧ decode cX2_joined 77 = .ok (.iload_n 2, 1) ∧ decode cX2_joined 78 = .ok (.imul, 1) ∧ decode cX2_joined 79 = .ok (.ireturn, 1) ∧ decode cX2_joined 80 = .ok (.iload_n 2, 1) ∧ decode cX2_joined 81 = .ok (.ifCond .ne 7, 3) := by decide +kernel
theorem dX2_joined_76 : decode cX2_joined 76 = .ok (.iload_n 1, 1) := dGX2_57.1
theorem dX2_joined_77 : decode cX2_joined 77 = .ok (.iload_n 2, 1) := dGX2_57.2.1
theorem dX2_joined_78 : decode cX2_joined 78 = .ok (.imul, 1) := dGX2_57.2.2.1
theorem dX2_joined_79 : decode cX2_joined 79 = .ok (.ireturn, 1) := dGX2_57.2.2.2.1
theorem dX2_joined_80 : decode cX2_joined 80 = .ok (.iload_n 2, 1) := dGX2_57.2.2.2.2.1
theorem dX2_joined_81 : decode cX2_joined 81 = .ok (.ifCond .ne 7, 3) := dGX2_57.2.2.2.2.2
theorem dGX2_58 : decode cX2_joined 84 = .ok (.iconst 0, 1) ∧ decode cX2_joined 85 = .ok (.goto 6, 3) ∧ decode cX2_joined 88 = .ok (.iload_n 1, 1) ∧ decode cX2_joined 89 = .ok (.iload_n 2, 1) ∧ decode cX2_joined 90 = .ok (.idiv, 1) ∧ decode cX2_joined 91 = .ok (.ireturn, 1) := by decide +kernel
theorem dX2_joined_84 : decode cX2_joined 84 = .ok (.iconst 0, 1) := dGX2_58.1
theorem dX2_joined_85 : decode cX2_joined 85 = .ok (.goto 6, 3) := dGX2_58.2.1
theorem dX2_joined_88 : decode cX2_joined 88 = .ok (.iload_n 1, 1) := dGX2_58.2.2.1
theorem dX2_joined_89 : decode cX2_joined 89 = .ok (.iload_n 2, 1) := dGX2_58.2.2.2.1
theorem dX2_joined_90 : decode cX2_joined 90 = .ok (.idiv, 1) := dGX2_58.2.2.2.2.1
theorem dX2_joined_91 : decode cX2_joined 91 = .ok (.ireturn, 1) := dGX2_58.2.2.2.2.2
theorem dGX2_59 : decode cX2_joined 92 = .ok (.iload_n 2, 1) ∧ decode cX2_joined 93 = .ok (.ifCond .ne 7, 3) ∧ decode cX2_joined 96 = .ok (.iconst 0, 1) ∧ decode cX2_joined 97 = .ok (.goto 6, 3) ∧ decode cX2_joined 100 = .ok (.iload_n 1, 1) ∧ decode cX2_joined 101 = .ok (.iload_n 2, 1) := by decide +kernel
theorem dX2_joined_92 : decode cX2_joined 92 = .ok (.iload_n 2, 1) := dGX2_59.1
theorem dX2_joined_93 : decode cX2_joined 93 = .ok (.ifCond .ne 7, 3) := dGX2_59.2.1
theorem dX2_joined_96 : decode cX2_joined 96 = .ok (.iconst 0, 1) := dGX2_59.2.2.1
theorem dX2_joined_97 : decode cX2_joined 97 = .ok (.goto 6, 3) := dGX2_59.2.2.2.1
theorem dX2_joined_100 : decode cX2_joined 100 = .ok (.iload_n 1, 1) := dGX2_59.2.2.2.2.1
theorem dX2_joined_101 : decode cX2_joined 101 = .ok (.iload_n 2, 1) := dGX2_59.2.2.2.2.2
theorem dGX2_60 : decode cX2_joined 102 = .ok (.irem, 1) ∧ decode cX2_joined 103 = .ok (.ireturn, 1) ∧ decode cX2_joined 104 = .ok (.iload_n 1, 1) ∧ decode cX2_joined 105 = .ok (.iload_n 2, 1) ∧ decode cX2_joined 106 = .ok (.if_icmp .ge 7, 3) ∧ decode cX2_joined 109 = .ok (.iconst 1, 1) := by decide +kernel
theorem dX2_joined_102 : decode cX2_joined 102 = .ok (.irem, 1) := dGX2_60.1
theorem dX2_joined_103 : decode cX2_joined 103 = .ok (.ireturn, 1) := dGX2_60.2.1
theorem dX2_joined_104 : decode cX2_joined 104 = .ok (.iload_n 1, 1) := dGX2_60.2.2.1
theorem dX2_joined_105 : decode cX2_joined 105 = .ok (.iload_n 2, 1) := dGX2_60.2.2.2.1
theorem dX2_joined_106 : decode cX2_joined 106 = .ok (.if_icmp .ge 7, 3) := dGX2_60.2.2.2.2.1
theorem dX2_joined_109 : decode cX2_joined 109 = .ok (.iconst 1, 1) := dGX2_60.2.2.2.2.2
theorem dGX2_61 : decode cX2_joined 110 = .ok (.goto 4, 3) ∧ decode cX2_joined 113 = .ok (.iconst 0, 1) ∧ decode cX2_joined 114 = .ok (.ireturn, 1) ∧ decode cX2_joined 115 = .ok (.iload_n 1, 1) ∧ decode cX2_joined 116 = .ok (.iload_n 2, 1) ∧ decode cX2_joined 117 = .ok (.if_icmp .le 7, 3) := by decide +kernel
theorem dX2_joined_110 : decode cX2_joined 110 = .ok (.goto 4, 3) := dGX2_61.1
theorem dX2_joined_113 : decode cX2_joined 113 = .ok (.iconst 0, 1) := dGX2_61.2.1
theorem dX2_joined_114 : decode cX2_joined 114 = .ok (.ireturn, 1) := dGX2_61.2.2.1
theorem dX2_joined_115 : decode cX2_joined 115 = .ok (.iload_n 1, 1) := dGX2_61.2.2.2.1
theorem dX2_joined_116 : decode cX2_joined 116 = .ok (.iload_n 2, 1) := dGX2_61.2.2.2.2.1
theorem dX2_joined_117 : decode cX2_joined 117 = .ok (.if_icmp .le 7, 3) := dGX2_61.2.2.2.2.2
theorem dGX2_62 : decode cX2_joined 120 = .ok (.iconst 1, 1) ∧ decode cX2_joined 121 = .ok (.goto 4, 3) ∧ decode cX2_joined 124 = .ok (.iconst 0, 1) ∧ decode cX2_joined 125 = .ok (.ireturn, 1) ∧ decode cX2_joined 126 = .ok (.iload_n 1, 1) ∧ decode cX2_joined 127 = .ok (.iload_n 2, 1) := by decide +kernel
theorem dX2_joined_120 : decode cX2_joined 120 = .ok (.iconst 1, 1) := dGX2_62.1
theorem dX2_joined_121 : decode cX2_joined 121 = .ok (.goto 4, 3) := dGX2_62.2.1
theorem dX2_joined_124 : decode cX2_joined 124 = .ok (.iconst 0, 1) := dGX2_62.2.2.1
theorem dX2_joined_125 : decode cX2_joined 125 = .ok (.ireturn, 1) := dGX2_62.2.2.2.1
theorem dX2_joined_126 : decode cX2_joined 126 = .ok (.iload_n 1, 1) := dGX2_62.2.2.2.2.1
theorem dX2_joined_127 : decode cX2_joined 127 = .ok (.iload_n 2, 1) := dGX2_62.2.2.2.2.2
theorem dGX2_63 : decode cX2_joined 128 = .ok (.if_icmp .ne 7, 3) ∧ decode cX2_joined 131 = .ok (.iconst 1, 1) ∧ decode cX2_joined 132 = .ok (.goto 4, 3) ∧ decode cX2_joined 135 = .ok (.iconst 0, 1) ∧ decode cX2_joined 136 = .ok (.ireturn, 1) := by decide +kernel
theorem dX2_joined_128 : decode cX2_joined 128 = .ok (.if_icmp .ne 7, 3) := dGX2_63.1
theorem dX2_joined_131 : decode cX2_joined 131 = .ok (.iconst 1, 1) := dGX2_63.2.1
theorem dX2_joined_132 : decode cX2_joined 132 = .ok (.goto 4, 3) := dGX2_63.2.2.1
theorem dX2_joined_135 : decode cX2_joined 135 = .ok (.iconst 0, 1) := dGX2_63.2.2.2.1
theorem dX2_joined_136 : decode cX2_joined 136 = .ok (.ireturn, 1) := dGX2_63.2.2.2.2
theorem dGX3_0 : decode cX3_init 0 = .ok (.aload_n 0, 1) ∧ decode cX3_init 1 = .ok (.invokespecial 3, 3) ∧ decode cX3_init 4 = .ok (.aload_n 0, 1) ∧ decode cX3_init 5 = .ok (.iconst 0, 1) ∧ decode cX3_init 6 = .ok (.putfield 9, 3) ∧ decode cX3_init 9 = .ok (.aload_n 0, 1) := by decide +kernel
theorem dX3_init_0 : decode cX3_init 0 = .ok (.aload_n 0, 1) := dGX3_0.1
theorem dX3_init_1 : decode cX3_init 1 = .ok (.invokespecial 3, 3) := dGX3_0.2.1
theorem dX3_init_4 : decode cX3_init 4 = .ok (.aload_n 0, 1) := dGX3_0.2.2.1
theorem dX3_init_5 : decode cX3_init 5 = .ok (.iconst 0, 1) := dGX3_0.2.2.2.1
theorem dX3_init_6 : decode cX3_init 6 = .ok (.putfield 9, 3) := dGX3_0.2.2.2.2.1
theorem dX3_init_9 : decode cX3_init 9 = .ok (.aload_n 0, 1) := dGX3_0.2.2.2.2.2
theorem dGX3_1 : decode cX3_init 10 = .ok (.bipush 8, 2) ∧ decode cX3_init 12 = .ok (.newarray .int, 2) ∧ decode cX3_init 14 = .ok (.putfield 15, 3) ∧ decode cX3_init 17 = .ok (.aload_n 0, 1) ∧ decode cX3_init 18 = .ok (.bipush 8, 2) ∧ decode cX3_init 20 = .ok (.newarray .int, 2) := by decide +kernel
theorem dX3_init_10 : decode cX3_init 10 = .ok (.bipush 8, 2) := dGX3_1.1
theorem dX3_init_12 : decode cX3_init 12 = .ok (.newarray .int, 2) := dGX3_1.2.1
theorem dX3_init_14 : decode cX3_init 14 = .ok (.putfield 15, 3) := dGX3_1.2.2.1
theorem dX3_init_17 : decode cX3_init 17 = .ok (.aload_n 0, 1) := dGX3_1.2.2.2.1
theorem dX3_init_18 : decode cX3_init 18 = .ok (.bipush 8, 2) := dGX3_1.2.2.2.2.1
theorem dX3_init_20 : decode cX3_init 20 = .ok (.newarray .int, 2) := dGX3_1.2.2.2.2.2
theorem dGX3_2 : decode cX3_init 22 = .ok (.putfield 19, 3) ∧ decode cX3_init 25 = .ok (.aload_n 0, 1) ∧ decode cX3_init 26 = .ok (.sipush 2304, 3) ∧ decode cX3_init 29 = .ok (.newarray .int, 2) ∧ decode cX3_init 31 = .ok (.putfield 22, 3) ∧ decode cX3_init 34 = .ok (.return_, 1) := by decide +kernel
theorem dX3_init_22 : decode cX3_init 22 = .ok (.putfield 19, 3) := dGX3_2.1
theorem dX3_init_25 : decode cX3_init 25 = .ok (.aload_n 0, 1) := dGX3_2.2.1
theorem dX3_init_26 : decode cX3_init 26 = .ok (.sipush 2304, 3) := dGX3_2.2.2.1
theorem dX3_init_29 : decode cX3_init 29 = .ok (.newarray .int, 2) := dGX3_2.2.2.2.1
theorem dX3_init_31 : decode cX3_init 31 = .ok (.putfield 22, 3) := dGX3_2.2.2.2.2.1
theorem dX3_init_34 : decode cX3_init 34 = .ok (.return_, 1) := dGX3_2.2.2.2.2.2
theorem dGX3_3 : decode cX3_plan 0 = .ok (.aload_n 1, 1) ∧ decode cX3_plan 1 = .ok (.getfield 25, 3) ∧ decode cX3_plan 4 = .ok (.getfield 31, 3) ∧ decode cX3_plan 7 = .ok (.istore_n 3, 1) ∧ decode cX3_plan 8 = .ok (.iconst 1, 1) ∧ decode cX3_plan 9 = .ok (.aload_n 1, 1) := by decide +kernel
theorem dX3_plan_0 : decode cX3_plan 0 = .ok (.aload_n 1, 1) := dGX3_3.1
theorem dX3_plan_1 : decode cX3_plan 1 = .ok (.getfield 25, 3) := dGX3_3.2.1
theorem dX3_plan_4 : decode cX3_plan 4 = .ok (.getfield 31, 3) := dGX3_3.2.2.1
theorem dX3_plan_7 : decode cX3_plan 7 = .ok (.istore_n 3, 1) := dGX3_3.2.2.2.1
theorem dX3_plan_8 : decode cX3_plan 8 = .ok (.iconst 1, 1) := dGX3_3.2.2.2.2.1
theorem dX3_plan_9 : decode cX3_plan 9 = .ok (.aload_n 1, 1) := dGX3_3.2.2.2.2.2
theorem dGX3_4 : decode cX3_plan 10 = .ok (.getfield 36, 3) ∧ decode cX3_plan 13 = .ok (.getfield 40, 3) ∧ decode cX3_plan 16 = .ok (.ishl, 1) ∧ decode cX3_plan 17 = .ok (.istore 4, 2) ∧ decode cX3_plan 19 = .ok (.iconst 0, 1) ∧ decode cX3_plan 20 = .ok (.istore 5, 2) := by decide +kernel
theorem dX3_plan_10 : decode cX3_plan 10 = .ok (.getfield 36, 3) := dGX3_4.1
theorem dX3_plan_13 : decode cX3_plan 13 = .ok (.getfield 40, 3) := dGX3_4.2.1
theorem dX3_plan_16 : decode cX3_plan 16 = .ok (.ishl, 1) := dGX3_4.2.2.1
theorem dX3_plan_17 : decode cX3_plan 17 = .ok (.istore 4, 2) := dGX3_4.2.2.2.1
theorem dX3_plan_19 : decode cX3_plan 19 = .ok (.iconst 0, 1) := dGX3_4.2.2.2.2.1
theorem dX3_plan_20 : decode cX3_plan 20 = .ok (.istore 5, 2) := dGX3_4.2.2.2.2.2
theorem dGX3_5 : decode cX3_plan 22 = .ok (.iload 5, 2) ∧ decode cX3_plan 24 = .ok (.iload_n 3, 1) ∧ decode cX3_plan 25 = .ok (.if_icmp .ge 23, 3) ∧ decode cX3_plan 28 = .ok (.aload_n 0, 1) ∧ decode cX3_plan 29 = .ok (.getfield 19, 3) ∧ decode cX3_plan 32 = .ok (.iload 5, 2) := by decide +kernel
theorem dX3_plan_22 : decode cX3_plan 22 = .ok (.iload 5, 2) := dGX3_5.1
theorem dX3_plan_24 : decode cX3_plan 24 = .ok (.iload_n 3, 1) := dGX3_5.2.1
theorem dX3_plan_25 : decode cX3_plan 25 = .ok (.if_icmp .ge 23, 3) := dGX3_5.2.2.1
theorem dX3_plan_28 : decode cX3_plan 28 = .ok (.aload_n 0, 1) := dGX3_5.2.2.2.1
theorem dX3_plan_29 : decode cX3_plan 29 = .ok (.getfield 19, 3) := dGX3_5.2.2.2.2.1
theorem dX3_plan_32 : decode cX3_plan 32 = .ok (.iload 5, 2) := dGX3_5.2.2.2.2.2
theorem dGX3_6 : decode cX3_plan 34 = .ok (.aload_n 1, 1) ∧ decode cX3_plan 35 = .ok (.iload 5, 2) ∧ decode cX3_plan 37 = .ok (.iload_n 2, 1) ∧ decode cX3_plan 38 = .ok (.invokestatic 43, 3) ∧ decode cX3_plan 41 = .ok (.iastore, 1) ∧ decode cX3_plan 42 = .ok (.iinc 5 1, 3) := by decide +kernel
theorem dX3_plan_34 : decode cX3_plan 34 = .ok (.aload_n 1, 1) := dGX3_6.1
theorem dX3_plan_35 : decode cX3_plan 35 = .ok (.iload 5, 2) := dGX3_6.2.1
theorem dX3_plan_37 : decode cX3_plan 37 = .ok (.iload_n 2, 1) := dGX3_6.2.2.1
theorem dX3_plan_38 : decode cX3_plan 38 = .ok (.invokestatic 43, 3) := dGX3_6.2.2.2.1
theorem dX3_plan_41 : decode cX3_plan 41 = .ok (.iastore, 1) := dGX3_6.2.2.2.2.1
theorem dX3_plan_42 : decode cX3_plan 42 = .ok (.iinc 5 1, 3) := dGX3_6.2.2.2.2.2
theorem dGX3_7 : decode cX3_plan 45 = .ok (.goto (-23), 3) ∧ decode cX3_plan 48 = .ok (.iconst 0, 1) ∧ decode cX3_plan 49 = .ok (.istore 5, 2) ∧ decode cX3_plan 51 = .ok (.iload 5, 2) ∧ decode cX3_plan 53 = .ok (.iload 4, 2) ∧ decode cX3_plan 55 = .ok (.if_icmp .ge 23, 3) := by decide +kernel
theorem dX3_plan_45 : decode cX3_plan 45 = .ok (.goto (-23), 3) := dGX3_7.1
theorem dX3_plan_48 : decode cX3_plan 48 = .ok (.iconst 0, 1) := dGX3_7.2.1
theorem dX3_plan_49 : decode cX3_plan 49 = .ok (.istore 5, 2) := dGX3_7.2.2.1
theorem dX3_plan_51 : decode cX3_plan 51 = .ok (.iload 5, 2) := dGX3_7.2.2.2.1
theorem dX3_plan_53 : decode cX3_plan 53 = .ok (.iload 4, 2) := dGX3_7.2.2.2.2.1
theorem dX3_plan_55 : decode cX3_plan 55 = .ok (.if_icmp .ge 23, 3) := dGX3_7.2.2.2.2.2
theorem dGX3_8 : decode cX3_plan 58 = .ok (.aload_n 0, 1) ∧ decode cX3_plan 59 = .ok (.getfield 22, 3) ∧ decode cX3_plan 62 = .ok (.iload_n 3, 1) ∧ decode cX3_plan 63 = .ok (.sipush 256, 3) ∧ decode cX3_plan 66 = .ok (.imul, 1) ∧ decode cX3_plan 67 = .ok (.iload 5, 2) := by decide +kernel
theorem dX3_plan_58 : decode cX3_plan 58 = .ok (.aload_n 0, 1) := dGX3_8.1
theorem dX3_plan_59 : decode cX3_plan 59 = .ok (.getfield 22, 3) := dGX3_8.2.1
theorem dX3_plan_62 : decode cX3_plan 62 = .ok (.iload_n 3, 1) := dGX3_8.2.2.1
theorem dX3_plan_63 : decode cX3_plan 63 = .ok (.sipush 256, 3) := dGX3_8.2.2.2.1
theorem dX3_plan_66 : decode cX3_plan 66 = .ok (.imul, 1) := dGX3_8.2.2.2.2.1
theorem dX3_plan_67 : decode cX3_plan 67 = .ok (.iload 5, 2) := dGX3_8.2.2.2.2.2
theorem dGX3_9 : decode cX3_plan 69 = .ok (.iadd, 1) ∧ decode cX3_plan 70 = .ok (.iconst 0, 1) ∧ decode cX3_plan 71 = .ok (.iastore, 1) ∧ decode cX3_plan 72 = .ok (.iinc 5 1, 3) ∧ decode cX3_plan 75 = .ok (.goto (-24), 3) ∧ decode cX3_plan 78 = .ok (.iload_n 3, 1) := by decide +kernel
theorem dX3_plan_69 : decode cX3_plan 69 = .ok (.iadd, 1) := dGX3_9.1
theorem dX3_plan_70 : decode cX3_plan 70 = .ok (.iconst 0, 1) := dGX3_9.2.1
theorem dX3_plan_71 : decode cX3_plan 71 = .ok (.iastore, 1) := dGX3_9.2.2.1
theorem dX3_plan_72 : decode cX3_plan 72 = .ok (.iinc 5 1, 3) := dGX3_9.2.2.2.1
theorem dX3_plan_75 : decode cX3_plan 75 = .ok (.goto (-24), 3) := dGX3_9.2.2.2.2.1
theorem dX3_plan_78 : decode cX3_plan 78 = .ok (.iload_n 3, 1) := dGX3_9.2.2.2.2.2
theorem dGX3_10 : decode cX3_plan 79 = .ok (.iconst 1, 1) ∧ decode cX3_plan 80 = .ok (.isub, 1) ∧ decode cX3_plan 81 = .ok (.istore 5, 2) ∧ decode cX3_plan 83 = .ok (.iload 5, 2) ∧ decode cX3_plan 85 = .ok (.ifCond .lt 47, 3) ∧ decode cX3_plan 88 = .ok (.iconst 0, 1) := by decide +kernel
theorem dX3_plan_79 : decode cX3_plan 79 = .ok (.iconst 1, 1) := dGX3_10.1
theorem dX3_plan_80 : decode cX3_plan 80 = .ok (.isub, 1) := dGX3_10.2.1
theorem dX3_plan_81 : decode cX3_plan 81 = .ok (.istore 5, 2) := dGX3_10.2.2.1
theorem dX3_plan_83 : decode cX3_plan 83 = .ok (.iload 5, 2) := dGX3_10.2.2.2.1
theorem dX3_plan_85 : decode cX3_plan 85 = .ok (.ifCond .lt 47, 3) := dGX3_10.2.2.2.2.1
theorem dX3_plan_88 : decode cX3_plan 88 = .ok (.iconst 0, 1) := dGX3_10.2.2.2.2.2
theorem dGX3_11 : decode cX3_plan 89 = .ok (.istore 6, 2) ∧ decode cX3_plan 91 = .ok (.iload 6, 2) ∧ decode cX3_plan 93 = .ok (.iload 4, 2) ∧ decode cX3_plan 95 = .ok (.if_icmp .ge 31, 3) ∧ decode cX3_plan 98 = .ok (.aload_n 0, 1) ∧ decode cX3_plan 99 = .ok (.getfield 22, 3) := by decide +kernel
theorem dX3_plan_89 : decode cX3_plan 89 = .ok (.istore 6, 2) := dGX3_11.1
theorem dX3_plan_91 : decode cX3_plan 91 = .ok (.iload 6, 2) := dGX3_11.2.1
theorem dX3_plan_93 : decode cX3_plan 93 = .ok (.iload 4, 2) := dGX3_11.2.2.1
theorem dX3_plan_95 : decode cX3_plan 95 = .ok (.if_icmp .ge 31, 3) := dGX3_11.2.2.2.1
theorem dX3_plan_98 : decode cX3_plan 98 = .ok (.aload_n 0, 1) := dGX3_11.2.2.2.2.1
theorem dX3_plan_99 : decode cX3_plan 99 = .ok (.getfield 22, 3) := dGX3_11.2.2.2.2.2
theorem dGX3_12 : decode cX3_plan 102 = .ok (.iload 5, 2) ∧ decode cX3_plan 104 = .ok (.sipush 256, 3) ∧ decode cX3_plan 107 = .ok (.imul, 1) ∧ decode cX3_plan 108 = .ok (.iload 6, 2) ∧ decode cX3_plan 110 = .ok (.iadd, 1) ∧ decode cX3_plan 111 = .ok (.aload_n 0, 1) := by decide +kernel
theorem dX3_plan_102 : decode cX3_plan 102 = .ok (.iload 5, 2) := dGX3_12.1
theorem dX3_plan_104 : decode cX3_plan 104 = .ok (.sipush 256, 3) := dGX3_12.2.1
theorem dX3_plan_107 : decode cX3_plan 107 = .ok (.imul, 1) := dGX3_12.2.2.1
theorem dX3_plan_108 : decode cX3_plan 108 = .ok (.iload 6, 2) := dGX3_12.2.2.2.1
theorem dX3_plan_110 : decode cX3_plan 110 = .ok (.iadd, 1) := dGX3_12.2.2.2.2.1
theorem dX3_plan_111 : decode cX3_plan 111 = .ok (.aload_n 0, 1) := dGX3_12.2.2.2.2.2
theorem dGX3_13 : decode cX3_plan 112 = .ok (.iload 5, 2) ∧ decode cX3_plan 114 = .ok (.iload 6, 2) ∧ decode cX3_plan 116 = .ok (.invokevirtual 47, 3) ∧ decode cX3_plan 119 = .ok (.iastore, 1) ∧ decode cX3_plan 120 = .ok (.iinc 6 1, 3) ∧ decode cX3_plan 123 = .ok (.goto (-32), 3) := by decide +kernel
theorem dX3_plan_112 : decode cX3_plan 112 = .ok (.iload 5, 2) := dGX3_13.1
theorem dX3_plan_114 : decode cX3_plan 114 = .ok (.iload 6, 2) := dGX3_13.2.1
theorem dX3_plan_116 : decode cX3_plan 116 = .ok (.invokevirtual 47, 3) := dGX3_13.2.2.1
theorem dX3_plan_119 : decode cX3_plan 119 = .ok (.iastore, 1) := dGX3_13.2.2.2.1
theorem dX3_plan_120 : decode cX3_plan 120 = .ok (.iinc 6 1, 3) := dGX3_13.2.2.2.2.1
theorem dX3_plan_123 : decode cX3_plan 123 = .ok (.goto (-32), 3) := dGX3_13.2.2.2.2.2
theorem dGX3_14 : decode cX3_plan 126 = .ok (.iinc 5 (-1), 3) ∧ decode cX3_plan 129 = .ok (.goto (-46), 3) ∧ decode cX3_plan 132 = .ok (.aload_n 0, 1) ∧ decode cX3_plan 133 = .ok (.aload_n 0, 1) ∧ decode cX3_plan 134 = .ok (.getfield 22, 3) ∧ decode cX3_plan 137 = .ok (.iconst 0, 1) := by decide +kernel
theorem dX3_plan_126 : decode cX3_plan 126 = .ok (.iinc 5 (-1), 3) := dGX3_14.1
theorem dX3_plan_129 : decode cX3_plan 129 = .ok (.goto (-46), 3) := dGX3_14.2.1
theorem dX3_plan_132 : decode cX3_plan 132 = .ok (.aload_n 0, 1) := dGX3_14.2.2.1
theorem dX3_plan_133 : decode cX3_plan 133 = .ok (.aload_n 0, 1) := dGX3_14.2.2.2.1
theorem dX3_plan_134 : decode cX3_plan 134 = .ok (.getfield 22, 3) := dGX3_14.2.2.2.2.1
theorem dX3_plan_137 : decode cX3_plan 137 = .ok (.iconst 0, 1) := dGX3_14.2.2.2.2.2
theorem dGX3_15 : decode cX3_plan 138 = .ok (.iaload, 1) ∧ decode cX3_plan 139 = .ok (.putfield 9, 3) ∧ decode cX3_plan 142 = .ok (.aload_n 0, 1) ∧ decode cX3_plan 143 = .ok (.iload_n 3, 1) ∧ decode cX3_plan 144 = .ok (.invokevirtual 51, 3) ∧ decode cX3_plan 147 = .ok (.return_, 1) := by decide +kernel
theorem dX3_plan_138 : decode cX3_plan 138 = .ok (.iaload, 1) := dGX3_15.1
theorem dX3_plan_139 : decode cX3_plan 139 = .ok (.putfield 9, 3) := dGX3_15.2.1
theorem dX3_plan_142 : decode cX3_plan 142 = .ok (.aload_n 0, 1) := dGX3_15.2.2.1
theorem dX3_plan_143 : decode cX3_plan 143 = .ok (.iload_n 3, 1) := dGX3_15.2.2.2.1
theorem dX3_plan_144 : decode cX3_plan 144 = .ok (.invokevirtual 51, 3) := dGX3_15.2.2.2.2.1
theorem dX3_plan_147 : decode cX3_plan 147 = .ok (.return_, 1) := dGX3_15.2.2.2.2.2
theorem dGX3_16 : decode cX3_borrowersOf 0 = .ok (.iconst 0, 1) ∧ decode cX3_borrowersOf 1 = .ok (.istore_n 3, 1) ∧ decode cX3_borrowersOf 2 = .ok (.iconst 0, 1) ∧ decode cX3_borrowersOf 3 = .ok (.istore 4, 2) ∧ decode cX3_borrowersOf 5 = .ok (.iload 4, 2) ∧ decode cX3_borrowersOf 7 = .ok (.aload_n 0, 1) := by decide +kernel
theorem dX3_borrowersOf_0 : decode cX3_borrowersOf 0 = .ok (.iconst 0, 1) := dGX3_16.1
theorem dX3_borrowersOf_1 : decode cX3_borrowersOf 1 = .ok (.istore_n 3, 1) := dGX3_16.2.1
theorem dX3_borrowersOf_2 : decode cX3_borrowersOf 2 = .ok (.iconst 0, 1) := dGX3_16.2.2.1
theorem dX3_borrowersOf_3 : decode cX3_borrowersOf 3 = .ok (.istore 4, 2) := dGX3_16.2.2.2.1
theorem dX3_borrowersOf_5 : decode cX3_borrowersOf 5 = .ok (.iload 4, 2) := dGX3_16.2.2.2.2.1
theorem dX3_borrowersOf_7 : decode cX3_borrowersOf 7 = .ok (.aload_n 0, 1) := dGX3_16.2.2.2.2.2
theorem dGX3_17 : decode cX3_borrowersOf 8 = .ok (.getfield 36, 3) ∧ decode cX3_borrowersOf 11 = .ok (.getfield 40, 3) ∧ decode cX3_borrowersOf 14 = .ok (.if_icmp .ge 57, 3) ∧ decode cX3_borrowersOf 17 = .ok (.aload_n 0, 1) ∧ decode cX3_borrowersOf 18 = .ok (.getfield 25, 3) ∧ decode cX3_borrowersOf 21 = .ok (.getfield 55, 3) := by decide +kernel
theorem dX3_borrowersOf_8 : decode cX3_borrowersOf 8 = .ok (.getfield 36, 3) := dGX3_17.1
theorem dX3_borrowersOf_11 : decode cX3_borrowersOf 11 = .ok (.getfield 40, 3) := dGX3_17.2.1
theorem dX3_borrowersOf_14 : decode cX3_borrowersOf 14 = .ok (.if_icmp .ge 57, 3) := dGX3_17.2.2.1
theorem dX3_borrowersOf_17 : decode cX3_borrowersOf 17 = .ok (.aload_n 0, 1) := dGX3_17.2.2.2.1
theorem dX3_borrowersOf_18 : decode cX3_borrowersOf 18 = .ok (.getfield 25, 3) := dGX3_17.2.2.2.2.1
theorem dX3_borrowersOf_21 : decode cX3_borrowersOf 21 = .ok (.getfield 55, 3) := dGX3_17.2.2.2.2.2
theorem dGX3_18 : decode cX3_borrowersOf 24 = .ok (.iload_n 1, 1) ∧ decode cX3_borrowersOf 25 = .ok (.iaload, 1) ∧ decode cX3_borrowersOf 26 = .ok (.ifCond .le 39, 3) ∧ decode cX3_borrowersOf 29 = .ok (.aload_n 0, 1) ∧ decode cX3_borrowersOf 30 = .ok (.getfield 36, 3) ∧ decode cX3_borrowersOf 33 = .ok (.getfield 58, 3) := by decide +kernel
theorem dX3_borrowersOf_24 : decode cX3_borrowersOf 24 = .ok (.iload_n 1, 1) := dGX3_18.1
theorem dX3_borrowersOf_25 : decode cX3_borrowersOf 25 = .ok (.iaload, 1) := dGX3_18.2.1
theorem dX3_borrowersOf_26 : decode cX3_borrowersOf 26 = .ok (.ifCond .le 39, 3) := dGX3_18.2.2.1
theorem dX3_borrowersOf_29 : decode cX3_borrowersOf 29 = .ok (.aload_n 0, 1) := dGX3_18.2.2.2.1
theorem dX3_borrowersOf_30 : decode cX3_borrowersOf 30 = .ok (.getfield 36, 3) := dGX3_18.2.2.2.2.1
theorem dX3_borrowersOf_33 : decode cX3_borrowersOf 33 = .ok (.getfield 58, 3) := dGX3_18.2.2.2.2.2
theorem dGX3_19 : decode cX3_borrowersOf 36 = .ok (.iload 4, 2) ∧ decode cX3_borrowersOf 38 = .ok (.iaload, 1) ∧ decode cX3_borrowersOf 39 = .ok (.ifCond .ne 26, 3) ∧ decode cX3_borrowersOf 42 = .ok (.aload_n 0, 1) ∧ decode cX3_borrowersOf 43 = .ok (.getfield 61, 3) ∧ decode cX3_borrowersOf 46 = .ok (.iload 4, 2) := by decide +kernel
theorem dX3_borrowersOf_36 : decode cX3_borrowersOf 36 = .ok (.iload 4, 2) := dGX3_19.1
theorem dX3_borrowersOf_38 : decode cX3_borrowersOf 38 = .ok (.iaload, 1) := dGX3_19.2.1
theorem dX3_borrowersOf_39 : decode cX3_borrowersOf 39 = .ok (.ifCond .ne 26, 3) := dGX3_19.2.2.1
theorem dX3_borrowersOf_42 : decode cX3_borrowersOf 42 = .ok (.aload_n 0, 1) := dGX3_19.2.2.2.1
theorem dX3_borrowersOf_43 : decode cX3_borrowersOf 43 = .ok (.getfield 61, 3) := dGX3_19.2.2.2.2.1
theorem dX3_borrowersOf_46 : decode cX3_borrowersOf 46 = .ok (.iload 4, 2) := dGX3_19.2.2.2.2.2
theorem dGX3_20 : decode cX3_borrowersOf 48 = .ok (.bipush 8, 2) ∧ decode cX3_borrowersOf 50 = .ok (.imul, 1) ∧ decode cX3_borrowersOf 51 = .ok (.iload_n 1, 1) ∧ decode cX3_borrowersOf 52 = .ok (.iadd, 1) ∧ decode cX3_borrowersOf 53 = .ok (.iaload, 1) ∧ decode cX3_borrowersOf 54 = .ok (.iload_n 2, 1) := by decide +kernel
theorem dX3_borrowersOf_48 : decode cX3_borrowersOf 48 = .ok (.bipush 8, 2) := dGX3_20.1
theorem dX3_borrowersOf_50 : decode cX3_borrowersOf 50 = .ok (.imul, 1) := dGX3_20.2.1
theorem dX3_borrowersOf_51 : decode cX3_borrowersOf 51 = .ok (.iload_n 1, 1) := dGX3_20.2.2.1
theorem dX3_borrowersOf_52 : decode cX3_borrowersOf 52 = .ok (.iadd, 1) := dGX3_20.2.2.2.1
theorem dX3_borrowersOf_53 : decode cX3_borrowersOf 53 = .ok (.iaload, 1) := dGX3_20.2.2.2.2.1
theorem dX3_borrowersOf_54 : decode cX3_borrowersOf 54 = .ok (.iload_n 2, 1) := dGX3_20.2.2.2.2.2
theorem dGX3_21 : decode cX3_borrowersOf 55 = .ok (.if_icmp .lt 10, 3) ∧ decode cX3_borrowersOf 58 = .ok (.iload_n 3, 1) ∧ decode cX3_borrowersOf 59 = .ok (.iconst 1, 1) ∧ decode cX3_borrowersOf 60 = .ok (.iload 4, 2) ∧ decode cX3_borrowersOf 62 = .ok (.ishl, 1) ∧ decode cX3_borrowersOf 63 = .ok (.ior, 1) := by decide +kernel
theorem dX3_borrowersOf_55 : decode cX3_borrowersOf 55 = .ok (.if_icmp .lt 10, 3) := dGX3_21.1
theorem dX3_borrowersOf_58 : decode cX3_borrowersOf 58 = .ok (.iload_n 3, 1) := dGX3_21.2.1
theorem dX3_borrowersOf_59 : decode cX3_borrowersOf 59 = .ok (.iconst 1, 1) := dGX3_21.2.2.1
theorem dX3_borrowersOf_60 : decode cX3_borrowersOf 60 = .ok (.iload 4, 2) := dGX3_21.2.2.2.1
theorem dX3_borrowersOf_62 : decode cX3_borrowersOf 62 = .ok (.ishl, 1) := dGX3_21.2.2.2.2.1
theorem dX3_borrowersOf_63 : decode cX3_borrowersOf 63 = .ok (.ior, 1) := dGX3_21.2.2.2.2.2
theorem dGX3_22 : decode cX3_borrowersOf 64 = .ok (.istore_n 3, 1) ∧ decode cX3_borrowersOf 65 = .ok (.iinc 4 1, 3) ∧ decode cX3_borrowersOf 68 = .ok (.goto (-63), 3) ∧ decode cX3_borrowersOf 71 = .ok (.iload_n 3, 1) ∧ decode cX3_borrowersOf 72 = .ok (.ireturn, 1) ∧ decode cX3_mostFrom 0 = .ok (.aload_n 0, 1) := by decide +kernel
theorem dX3_borrowersOf_64 : decode cX3_borrowersOf 64 = .ok (.istore_n 3, 1) := dGX3_22.1
theorem dX3_borrowersOf_65 : decode cX3_borrowersOf 65 = .ok (.iinc 4 1, 3) := dGX3_22.2.1
theorem dX3_borrowersOf_68 : decode cX3_borrowersOf 68 = .ok (.goto (-63), 3) := dGX3_22.2.2.1
theorem dX3_borrowersOf_71 : decode cX3_borrowersOf 71 = .ok (.iload_n 3, 1) := dGX3_22.2.2.2.1
theorem dX3_borrowersOf_72 : decode cX3_borrowersOf 72 = .ok (.ireturn, 1) := dGX3_22.2.2.2.2.1
theorem dX3_mostFrom_0 : decode cX3_mostFrom 0 = .ok (.aload_n 0, 1) := dGX3_22.2.2.2.2.2
theorem dGX3_23 : decode cX3_mostFrom 1 = .ok (.getfield 22, 3) ∧ decode cX3_mostFrom 4 = .ok (.iload_n 1, 1) ∧ decode cX3_mostFrom 5 = .ok (.iconst 1, 1) ∧ decode cX3_mostFrom 6 = .ok (.iadd, 1) ∧ decode cX3_mostFrom 7 = .ok (.sipush 256, 3) ∧ decode cX3_mostFrom 10 = .ok (.imul, 1) := by decide +kernel
theorem dX3_mostFrom_1 : decode cX3_mostFrom 1 = .ok (.getfield 22, 3) := dGX3_23.1
theorem dX3_mostFrom_4 : decode cX3_mostFrom 4 = .ok (.iload_n 1, 1) := dGX3_23.2.1
theorem dX3_mostFrom_5 : decode cX3_mostFrom 5 = .ok (.iconst 1, 1) := dGX3_23.2.2.1
theorem dX3_mostFrom_6 : decode cX3_mostFrom 6 = .ok (.iadd, 1) := dGX3_23.2.2.2.1
theorem dX3_mostFrom_7 : decode cX3_mostFrom 7 = .ok (.sipush 256, 3) := dGX3_23.2.2.2.2.1
theorem dX3_mostFrom_10 : decode cX3_mostFrom 10 = .ok (.imul, 1) := dGX3_23.2.2.2.2.2
theorem dGX3_24 : decode cX3_mostFrom 11 = .ok (.iload_n 2, 1) ∧ decode cX3_mostFrom 12 = .ok (.iadd, 1) ∧ decode cX3_mostFrom 13 = .ok (.iaload, 1) ∧ decode cX3_mostFrom 14 = .ok (.istore_n 3, 1) ∧ decode cX3_mostFrom 15 = .ok (.iconst 0, 1) ∧ decode cX3_mostFrom 16 = .ok (.istore 4, 2) := by decide +kernel
theorem dX3_mostFrom_11 : decode cX3_mostFrom 11 = .ok (.iload_n 2, 1) := dGX3_24.1
theorem dX3_mostFrom_12 : decode cX3_mostFrom 12 = .ok (.iadd, 1) := dGX3_24.2.1
theorem dX3_mostFrom_13 : decode cX3_mostFrom 13 = .ok (.iaload, 1) := dGX3_24.2.2.1
theorem dX3_mostFrom_14 : decode cX3_mostFrom 14 = .ok (.istore_n 3, 1) := dGX3_24.2.2.2.1
theorem dX3_mostFrom_15 : decode cX3_mostFrom 15 = .ok (.iconst 0, 1) := dGX3_24.2.2.2.2.1
theorem dX3_mostFrom_16 : decode cX3_mostFrom 16 = .ok (.istore 4, 2) := dGX3_24.2.2.2.2.2
theorem dGX3_25 : decode cX3_mostFrom 18 = .ok (.iload 4, 2) ∧ decode cX3_mostFrom 20 = .ok (.bipush 8, 2) ∧ decode cX3_mostFrom 22 = .ok (.if_icmp .ge 53, 3) ∧ decode cX3_mostFrom 25 = .ok (.aload_n 0, 1) ∧ decode cX3_mostFrom 26 = .ok (.getfield 19, 3) ∧ decode cX3_mostFrom 29 = .ok (.iload_n 1, 1) := by decide +kernel
theorem dX3_mostFrom_18 : decode cX3_mostFrom 18 = .ok (.iload 4, 2) := dGX3_25.1
theorem dX3_mostFrom_20 : decode cX3_mostFrom 20 = .ok (.bipush 8, 2) := dGX3_25.2.1
theorem dX3_mostFrom_22 : decode cX3_mostFrom 22 = .ok (.if_icmp .ge 53, 3) := dGX3_25.2.2.1
theorem dX3_mostFrom_25 : decode cX3_mostFrom 25 = .ok (.aload_n 0, 1) := dGX3_25.2.2.2.1
theorem dX3_mostFrom_26 : decode cX3_mostFrom 26 = .ok (.getfield 19, 3) := dGX3_25.2.2.2.2.1
theorem dX3_mostFrom_29 : decode cX3_mostFrom 29 = .ok (.iload_n 1, 1) := dGX3_25.2.2.2.2.2
theorem dGX3_26 : decode cX3_mostFrom 30 = .ok (.iaload, 1) ∧ decode cX3_mostFrom 31 = .ok (.iload_n 2, 1) ∧ decode cX3_mostFrom 32 = .ok (.iconst (-1), 1) ∧ decode cX3_mostFrom 33 = .ok (.ixor, 1) ∧ decode cX3_mostFrom 34 = .ok (.iand, 1) ∧ decode cX3_mostFrom 35 = .ok (.iconst 1, 1) := by decide +kernel
theorem dX3_mostFrom_30 : decode cX3_mostFrom 30 = .ok (.iaload, 1) := dGX3_26.1
theorem dX3_mostFrom_31 : decode cX3_mostFrom 31 = .ok (.iload_n 2, 1) := dGX3_26.2.1
theorem dX3_mostFrom_32 : decode cX3_mostFrom 32 = .ok (.iconst (-1), 1) := dGX3_26.2.2.1
theorem dX3_mostFrom_33 : decode cX3_mostFrom 33 = .ok (.ixor, 1) := dGX3_26.2.2.2.1
theorem dX3_mostFrom_34 : decode cX3_mostFrom 34 = .ok (.iand, 1) := dGX3_26.2.2.2.2.1
theorem dX3_mostFrom_35 : decode cX3_mostFrom 35 = .ok (.iconst 1, 1) := dGX3_26.2.2.2.2.2
theorem dGX3_27 : decode cX3_mostFrom 36 = .ok (.iload 4, 2) ∧ decode cX3_mostFrom 38 = .ok (.ishl, 1) ∧ decode cX3_mostFrom 39 = .ok (.iand, 1) ∧ decode cX3_mostFrom 40 = .ok (.ifCond .eq 29, 3) ∧ decode cX3_mostFrom 43 = .ok (.iload_n 3, 1) ∧ decode cX3_mostFrom 44 = .ok (.iconst 1, 1) := by decide +kernel
theorem dX3_mostFrom_36 : decode cX3_mostFrom 36 = .ok (.iload 4, 2) := dGX3_27.1
theorem dX3_mostFrom_38 : decode cX3_mostFrom 38 = .ok (.ishl, 1) := dGX3_27.2.1
theorem dX3_mostFrom_39 : decode cX3_mostFrom 39 = .ok (.iand, 1) := dGX3_27.2.2.1
theorem dX3_mostFrom_40 : decode cX3_mostFrom 40 = .ok (.ifCond .eq 29, 3) := dGX3_27.2.2.2.1
theorem dX3_mostFrom_43 : decode cX3_mostFrom 43 = .ok (.iload_n 3, 1) := dGX3_27.2.2.2.2.1
theorem dX3_mostFrom_44 : decode cX3_mostFrom 44 = .ok (.iconst 1, 1) := dGX3_27.2.2.2.2.2
theorem dGX3_28 : decode cX3_mostFrom 45 = .ok (.aload_n 0, 1) ∧ decode cX3_mostFrom 46 = .ok (.getfield 22, 3) ∧ decode cX3_mostFrom 49 = .ok (.iload_n 1, 1) ∧ decode cX3_mostFrom 50 = .ok (.iconst 1, 1) ∧ decode cX3_mostFrom 51 = .ok (.iadd, 1) ∧ decode cX3_mostFrom 52 = .ok (.sipush 256, 3) := by decide +kernel
theorem dX3_mostFrom_45 : decode cX3_mostFrom 45 = .ok (.aload_n 0, 1) := dGX3_28.1
theorem dX3_mostFrom_46 : decode cX3_mostFrom 46 = .ok (.getfield 22, 3) := dGX3_28.2.1
theorem dX3_mostFrom_49 : decode cX3_mostFrom 49 = .ok (.iload_n 1, 1) := dGX3_28.2.2.1
theorem dX3_mostFrom_50 : decode cX3_mostFrom 50 = .ok (.iconst 1, 1) := dGX3_28.2.2.2.1
theorem dX3_mostFrom_51 : decode cX3_mostFrom 51 = .ok (.iadd, 1) := dGX3_28.2.2.2.2.1
theorem dX3_mostFrom_52 : decode cX3_mostFrom 52 = .ok (.sipush 256, 3) := dGX3_28.2.2.2.2.2
theorem dGX3_29 : decode cX3_mostFrom 55 = .ok (.imul, 1) ∧ decode cX3_mostFrom 56 = .ok (.iload_n 2, 1) ∧ decode cX3_mostFrom 57 = .ok (.iconst 1, 1) ∧ decode cX3_mostFrom 58 = .ok (.iload 4, 2) ∧ decode cX3_mostFrom 60 = .ok (.ishl, 1) ∧ decode cX3_mostFrom 61 = .ok (.ior, 1) := by decide +kernel
theorem dX3_mostFrom_55 : decode cX3_mostFrom 55 = .ok (.imul, 1) := dGX3_29.1
theorem dX3_mostFrom_56 : decode cX3_mostFrom 56 = .ok (.iload_n 2, 1) := dGX3_29.2.1
theorem dX3_mostFrom_57 : decode cX3_mostFrom 57 = .ok (.iconst 1, 1) := dGX3_29.2.2.1
theorem dX3_mostFrom_58 : decode cX3_mostFrom 58 = .ok (.iload 4, 2) := dGX3_29.2.2.2.1
theorem dX3_mostFrom_60 : decode cX3_mostFrom 60 = .ok (.ishl, 1) := dGX3_29.2.2.2.2.1
theorem dX3_mostFrom_61 : decode cX3_mostFrom 61 = .ok (.ior, 1) := dGX3_29.2.2.2.2.2
theorem dGX3_30 : decode cX3_mostFrom 62 = .ok (.iadd, 1) ∧ decode cX3_mostFrom 63 = .ok (.iaload, 1) ∧ decode cX3_mostFrom 64 = .ok (.iadd, 1) ∧ decode cX3_mostFrom 65 = .ok (.invokestatic 64, 3) ∧ decode cX3_mostFrom 68 = .ok (.istore_n 3, 1) ∧ decode cX3_mostFrom 69 = .ok (.iinc 4 1, 3) := by decide +kernel
theorem dX3_mostFrom_62 : decode cX3_mostFrom 62 = .ok (.iadd, 1) := dGX3_30.1
theorem dX3_mostFrom_63 : decode cX3_mostFrom 63 = .ok (.iaload, 1) := dGX3_30.2.1
theorem dX3_mostFrom_64 : decode cX3_mostFrom 64 = .ok (.iadd, 1) := dGX3_30.2.2.1
theorem dX3_mostFrom_65 : decode cX3_mostFrom 65 = .ok (.invokestatic 64, 3) := dGX3_30.2.2.2.1
theorem dX3_mostFrom_68 : decode cX3_mostFrom 68 = .ok (.istore_n 3, 1) := dGX3_30.2.2.2.2.1
theorem dX3_mostFrom_69 : decode cX3_mostFrom 69 = .ok (.iinc 4 1, 3) := dGX3_30.2.2.2.2.2
theorem dGX3_31 : decode cX3_mostFrom 72 = .ok (.goto (-54), 3) ∧ decode cX3_mostFrom 75 = .ok (.iload_n 3, 1) ∧ decode cX3_mostFrom 76 = .ok (.ireturn, 1) ∧ decode cX3_tellRow 0 = .ok (.iconst 0, 1) ∧ decode cX3_tellRow 1 = .ok (.istore_n 2, 1) ∧ decode cX3_tellRow 2 = .ok (.iconst 0, 1) := by decide +kernel
theorem dX3_mostFrom_72 : decode cX3_mostFrom 72 = .ok (.goto (-54), 3) := dGX3_31.1
theorem dX3_mostFrom_75 : decode cX3_mostFrom 75 = .ok (.iload_n 3, 1) := dGX3_31.2.1
theorem dX3_mostFrom_76 : decode cX3_mostFrom 76 = .ok (.ireturn, 1) := dGX3_31.2.2.1
theorem dX3_tellRow_0 : decode cX3_tellRow 0 = .ok (.iconst 0, 1) := dGX3_31.2.2.2.1
theorem dX3_tellRow_1 : decode cX3_tellRow 1 = .ok (.istore_n 2, 1) := dGX3_31.2.2.2.2.1
theorem dX3_tellRow_2 : decode cX3_tellRow 2 = .ok (.iconst 0, 1) := dGX3_31.2.2.2.2.2
theorem dGX3_32 : decode cX3_tellRow 3 = .ok (.istore_n 3, 1) ∧ decode cX3_tellRow 4 = .ok (.iload_n 3, 1) ∧ decode cX3_tellRow 5 = .ok (.iload_n 1, 1) ∧ decode cX3_tellRow 6 = .ok (.if_icmp .ge 43, 3) ∧ decode cX3_tellRow 9 = .ok (.aload_n 0, 1) ∧ decode cX3_tellRow 10 = .ok (.getfield 15, 3) := by decide +kernel
theorem dX3_tellRow_3 : decode cX3_tellRow 3 = .ok (.istore_n 3, 1) := dGX3_32.1
theorem dX3_tellRow_4 : decode cX3_tellRow 4 = .ok (.iload_n 3, 1) := dGX3_32.2.1
theorem dX3_tellRow_5 : decode cX3_tellRow 5 = .ok (.iload_n 1, 1) := dGX3_32.2.2.1
theorem dX3_tellRow_6 : decode cX3_tellRow 6 = .ok (.if_icmp .ge 43, 3) := dGX3_32.2.2.2.1
theorem dX3_tellRow_9 : decode cX3_tellRow 9 = .ok (.aload_n 0, 1) := dGX3_32.2.2.2.2.1
theorem dX3_tellRow_10 : decode cX3_tellRow 10 = .ok (.getfield 15, 3) := dGX3_32.2.2.2.2.2
theorem dGX3_33 : decode cX3_tellRow 13 = .ok (.iload_n 3, 1) ∧ decode cX3_tellRow 14 = .ok (.aload_n 0, 1) ∧ decode cX3_tellRow 15 = .ok (.iload_n 3, 1) ∧ decode cX3_tellRow 16 = .ok (.iload_n 2, 1) ∧ decode cX3_tellRow 17 = .ok (.invokevirtual 69, 3) ∧ decode cX3_tellRow 20 = .ok (.iastore, 1) := by decide +kernel
theorem dX3_tellRow_13 : decode cX3_tellRow 13 = .ok (.iload_n 3, 1) := dGX3_33.1
theorem dX3_tellRow_14 : decode cX3_tellRow 14 = .ok (.aload_n 0, 1) := dGX3_33.2.1
theorem dX3_tellRow_15 : decode cX3_tellRow 15 = .ok (.iload_n 3, 1) := dGX3_33.2.2.1
theorem dX3_tellRow_16 : decode cX3_tellRow 16 = .ok (.iload_n 2, 1) := dGX3_33.2.2.2.1
theorem dX3_tellRow_17 : decode cX3_tellRow 17 = .ok (.invokevirtual 69, 3) := dGX3_33.2.2.2.2.1
theorem dX3_tellRow_20 : decode cX3_tellRow 20 = .ok (.iastore, 1) := dGX3_33.2.2.2.2.2
theorem dGX3_34 : decode cX3_tellRow 21 = .ok (.aload_n 0, 1) ∧ decode cX3_tellRow 22 = .ok (.getfield 15, 3) ∧ decode cX3_tellRow 25 = .ok (.iload_n 3, 1) ∧ decode cX3_tellRow 26 = .ok (.iaload, 1) ∧ decode cX3_tellRow 27 = .ok (.bipush 8, 2) ∧ decode cX3_tellRow 29 = .ok (.if_icmp .eq 14, 3) := by decide +kernel
theorem dX3_tellRow_21 : decode cX3_tellRow 21 = .ok (.aload_n 0, 1) := dGX3_34.1
theorem dX3_tellRow_22 : decode cX3_tellRow 22 = .ok (.getfield 15, 3) := dGX3_34.2.1
theorem dX3_tellRow_25 : decode cX3_tellRow 25 = .ok (.iload_n 3, 1) := dGX3_34.2.2.1
theorem dX3_tellRow_26 : decode cX3_tellRow 26 = .ok (.iaload, 1) := dGX3_34.2.2.2.1
theorem dX3_tellRow_27 : decode cX3_tellRow 27 = .ok (.bipush 8, 2) := dGX3_34.2.2.2.2.1
theorem dX3_tellRow_29 : decode cX3_tellRow 29 = .ok (.if_icmp .eq 14, 3) := dGX3_34.2.2.2.2.2
theorem dGX3_35 : decode cX3_tellRow 32 = .ok (.iload_n 2, 1) ∧ decode cX3_tellRow 33 = .ok (.iconst 1, 1) ∧ decode cX3_tellRow 34 = .ok (.aload_n 0, 1) ∧ decode cX3_tellRow 35 = .ok (.getfield 15, 3) ∧ decode cX3_tellRow 38 = .ok (.iload_n 3, 1) ∧ decode cX3_tellRow 39 = .ok (.iaload, 1) := by decide +kernel
theorem dX3_tellRow_32 : decode cX3_tellRow 32 = .ok (.iload_n 2, 1) := dGX3_35.1
theorem dX3_tellRow_33 : decode cX3_tellRow 33 = .ok (.iconst 1, 1) := dGX3_35.2.1
theorem dX3_tellRow_34 : decode cX3_tellRow 34 = .ok (.aload_n 0, 1) := dGX3_35.2.2.1
theorem dX3_tellRow_35 : decode cX3_tellRow 35 = .ok (.getfield 15, 3) := dGX3_35.2.2.2.1
theorem dX3_tellRow_38 : decode cX3_tellRow 38 = .ok (.iload_n 3, 1) := dGX3_35.2.2.2.2.1
theorem dX3_tellRow_39 : decode cX3_tellRow 39 = .ok (.iaload, 1) := dGX3_35.2.2.2.2.2
theorem dGX3_36 : decode cX3_tellRow 40 = .ok (.ishl, 1) ∧ decode cX3_tellRow 41 = .ok (.ior, 1) ∧ decode cX3_tellRow 42 = .ok (.istore_n 2, 1) ∧ decode cX3_tellRow 43 = .ok (.iinc 3 1, 3) ∧ decode cX3_tellRow 46 = .ok (.goto (-42), 3) ∧ decode cX3_tellRow 49 = .ok (.return_, 1) := by decide +kernel
theorem dX3_tellRow_40 : decode cX3_tellRow 40 = .ok (.ishl, 1) := dGX3_36.1
theorem dX3_tellRow_41 : decode cX3_tellRow 41 = .ok (.ior, 1) := dGX3_36.2.1
theorem dX3_tellRow_42 : decode cX3_tellRow 42 = .ok (.istore_n 2, 1) := dGX3_36.2.2.1
theorem dX3_tellRow_43 : decode cX3_tellRow 43 = .ok (.iinc 3 1, 3) := dGX3_36.2.2.2.1
theorem dX3_tellRow_46 : decode cX3_tellRow 46 = .ok (.goto (-42), 3) := dGX3_36.2.2.2.2.1
theorem dX3_tellRow_49 : decode cX3_tellRow 49 = .ok (.return_, 1) := dGX3_36.2.2.2.2.2
theorem dGX3_37 : decode cX3_leastBorrower 0 = .ok (.iconst 0, 1) ∧ decode cX3_leastBorrower 1 = .ok (.istore_n 3, 1) ∧ decode cX3_leastBorrower 2 = .ok (.iload_n 3, 1) ∧ decode cX3_leastBorrower 3 = .ok (.bipush 8, 2) ∧ decode cX3_leastBorrower 5 = .ok (.if_icmp .ge 63, 3) ∧ decode cX3_leastBorrower 8 = .ok (.aload_n 0, 1) := by decide +kernel
theorem dX3_leastBorrower_0 : decode cX3_leastBorrower 0 = .ok (.iconst 0, 1) := dGX3_37.1
theorem dX3_leastBorrower_1 : decode cX3_leastBorrower 1 = .ok (.istore_n 3, 1) := dGX3_37.2.1
theorem dX3_leastBorrower_2 : decode cX3_leastBorrower 2 = .ok (.iload_n 3, 1) := dGX3_37.2.2.1
theorem dX3_leastBorrower_3 : decode cX3_leastBorrower 3 = .ok (.bipush 8, 2) := dGX3_37.2.2.2.1
theorem dX3_leastBorrower_5 : decode cX3_leastBorrower 5 = .ok (.if_icmp .ge 63, 3) := dGX3_37.2.2.2.2.1
theorem dX3_leastBorrower_8 : decode cX3_leastBorrower 8 = .ok (.aload_n 0, 1) := dGX3_37.2.2.2.2.2
theorem dGX3_38 : decode cX3_leastBorrower 9 = .ok (.getfield 19, 3) ∧ decode cX3_leastBorrower 12 = .ok (.iload_n 1, 1) ∧ decode cX3_leastBorrower 13 = .ok (.iaload, 1) ∧ decode cX3_leastBorrower 14 = .ok (.iload_n 2, 1) ∧ decode cX3_leastBorrower 15 = .ok (.iconst (-1), 1) ∧ decode cX3_leastBorrower 16 = .ok (.ixor, 1) := by decide +kernel
theorem dX3_leastBorrower_9 : decode cX3_leastBorrower 9 = .ok (.getfield 19, 3) := dGX3_38.1
theorem dX3_leastBorrower_12 : decode cX3_leastBorrower 12 = .ok (.iload_n 1, 1) := dGX3_38.2.1
theorem dX3_leastBorrower_13 : decode cX3_leastBorrower 13 = .ok (.iaload, 1) := dGX3_38.2.2.1
theorem dX3_leastBorrower_14 : decode cX3_leastBorrower 14 = .ok (.iload_n 2, 1) := dGX3_38.2.2.2.1
theorem dX3_leastBorrower_15 : decode cX3_leastBorrower 15 = .ok (.iconst (-1), 1) := dGX3_38.2.2.2.2.1
theorem dX3_leastBorrower_16 : decode cX3_leastBorrower 16 = .ok (.ixor, 1) := dGX3_38.2.2.2.2.2
theorem dGX3_39 : decode cX3_leastBorrower 17 = .ok (.iand, 1) ∧ decode cX3_leastBorrower 18 = .ok (.iconst 1, 1) ∧ decode cX3_leastBorrower 19 = .ok (.iload_n 3, 1) ∧ decode cX3_leastBorrower 20 = .ok (.ishl, 1) ∧ decode cX3_leastBorrower 21 = .ok (.iand, 1) ∧ decode cX3_leastBorrower 22 = .ok (.ifCond .eq 40, 3) := by decide +kernel
theorem dX3_leastBorrower_17 : decode cX3_leastBorrower 17 = .ok (.iand, 1) := dGX3_39.1
theorem dX3_leastBorrower_18 : decode cX3_leastBorrower 18 = .ok (.iconst 1, 1) := dGX3_39.2.1
theorem dX3_leastBorrower_19 : decode cX3_leastBorrower 19 = .ok (.iload_n 3, 1) := dGX3_39.2.2.1
theorem dX3_leastBorrower_20 : decode cX3_leastBorrower 20 = .ok (.ishl, 1) := dGX3_39.2.2.2.1
theorem dX3_leastBorrower_21 : decode cX3_leastBorrower 21 = .ok (.iand, 1) := dGX3_39.2.2.2.2.1
theorem dX3_leastBorrower_22 : decode cX3_leastBorrower 22 = .ok (.ifCond .eq 40, 3) := dGX3_39.2.2.2.2.2
theorem dGX3_40 : decode cX3_leastBorrower 25 = .ok (.iconst 1, 1) ∧ decode cX3_leastBorrower 26 = .ok (.aload_n 0, 1) ∧ decode cX3_leastBorrower 27 = .ok (.getfield 22, 3) ∧ decode cX3_leastBorrower 30 = .ok (.iload_n 1, 1) ∧ decode cX3_leastBorrower 31 = .ok (.iconst 1, 1) ∧ decode cX3_leastBorrower 32 = .ok (.iadd, 1) := by decide +kernel
theorem dX3_leastBorrower_25 : decode cX3_leastBorrower 25 = .ok (.iconst 1, 1) := dGX3_40.1
theorem dX3_leastBorrower_26 : decode cX3_leastBorrower 26 = .ok (.aload_n 0, 1) := dGX3_40.2.1
theorem dX3_leastBorrower_27 : decode cX3_leastBorrower 27 = .ok (.getfield 22, 3) := dGX3_40.2.2.1
theorem dX3_leastBorrower_30 : decode cX3_leastBorrower 30 = .ok (.iload_n 1, 1) := dGX3_40.2.2.2.1
theorem dX3_leastBorrower_31 : decode cX3_leastBorrower 31 = .ok (.iconst 1, 1) := dGX3_40.2.2.2.2.1
theorem dX3_leastBorrower_32 : decode cX3_leastBorrower 32 = .ok (.iadd, 1) := dGX3_40.2.2.2.2.2
theorem dGX3_41 : decode cX3_leastBorrower 33 = .ok (.sipush 256, 3) ∧ decode cX3_leastBorrower 36 = .ok (.imul, 1) ∧ decode cX3_leastBorrower 37 = .ok (.iload_n 2, 1) ∧ decode cX3_leastBorrower 38 = .ok (.iconst 1, 1) ∧ decode cX3_leastBorrower 39 = .ok (.iload_n 3, 1) ∧ decode cX3_leastBorrower 40 = .ok (.ishl, 1) := by decide +kernel
theorem dX3_leastBorrower_33 : decode cX3_leastBorrower 33 = .ok (.sipush 256, 3) := dGX3_41.1
theorem dX3_leastBorrower_36 : decode cX3_leastBorrower 36 = .ok (.imul, 1) := dGX3_41.2.1
theorem dX3_leastBorrower_37 : decode cX3_leastBorrower 37 = .ok (.iload_n 2, 1) := dGX3_41.2.2.1
theorem dX3_leastBorrower_38 : decode cX3_leastBorrower 38 = .ok (.iconst 1, 1) := dGX3_41.2.2.2.1
theorem dX3_leastBorrower_39 : decode cX3_leastBorrower 39 = .ok (.iload_n 3, 1) := dGX3_41.2.2.2.2.1
theorem dX3_leastBorrower_40 : decode cX3_leastBorrower 40 = .ok (.ishl, 1) := dGX3_41.2.2.2.2.2
theorem dGX3_42 : decode cX3_leastBorrower 41 = .ok (.ior, 1) ∧ decode cX3_leastBorrower 42 = .ok (.iadd, 1) ∧ decode cX3_leastBorrower 43 = .ok (.iaload, 1) ∧ decode cX3_leastBorrower 44 = .ok (.iadd, 1) ∧ decode cX3_leastBorrower 45 = .ok (.aload_n 0, 1) ∧ decode cX3_leastBorrower 46 = .ok (.getfield 22, 3) := by decide +kernel
theorem dX3_leastBorrower_41 : decode cX3_leastBorrower 41 = .ok (.ior, 1) := dGX3_42.1
theorem dX3_leastBorrower_42 : decode cX3_leastBorrower 42 = .ok (.iadd, 1) := dGX3_42.2.1
theorem dX3_leastBorrower_43 : decode cX3_leastBorrower 43 = .ok (.iaload, 1) := dGX3_42.2.2.1
theorem dX3_leastBorrower_44 : decode cX3_leastBorrower 44 = .ok (.iadd, 1) := dGX3_42.2.2.2.1
theorem dX3_leastBorrower_45 : decode cX3_leastBorrower 45 = .ok (.aload_n 0, 1) := dGX3_42.2.2.2.2.1
theorem dX3_leastBorrower_46 : decode cX3_leastBorrower 46 = .ok (.getfield 22, 3) := dGX3_42.2.2.2.2.2
theorem dGX3_43 : decode cX3_leastBorrower 49 = .ok (.iload_n 1, 1) ∧ decode cX3_leastBorrower 50 = .ok (.sipush 256, 3) ∧ decode cX3_leastBorrower 53 = .ok (.imul, 1) ∧ decode cX3_leastBorrower 54 = .ok (.iload_n 2, 1) ∧ decode cX3_leastBorrower 55 = .ok (.iadd, 1) ∧ decode cX3_leastBorrower 56 = .ok (.iaload, 1) := by decide +kernel
theorem dX3_leastBorrower_49 : decode cX3_leastBorrower 49 = .ok (.iload_n 1, 1) := dGX3_43.1
theorem dX3_leastBorrower_50 : decode cX3_leastBorrower 50 = .ok (.sipush 256, 3) := dGX3_43.2.1
theorem dX3_leastBorrower_53 : decode cX3_leastBorrower 53 = .ok (.imul, 1) := dGX3_43.2.2.1
theorem dX3_leastBorrower_54 : decode cX3_leastBorrower 54 = .ok (.iload_n 2, 1) := dGX3_43.2.2.2.1
theorem dX3_leastBorrower_55 : decode cX3_leastBorrower 55 = .ok (.iadd, 1) := dGX3_43.2.2.2.2.1
theorem dX3_leastBorrower_56 : decode cX3_leastBorrower 56 = .ok (.iaload, 1) := dGX3_43.2.2.2.2.2
theorem dGX3_44 : decode cX3_leastBorrower 57 = .ok (.if_icmp .ne 5, 3) ∧ decode cX3_leastBorrower 60 = .ok (.iload_n 3, 1) ∧ decode cX3_leastBorrower 61 = .ok (.ireturn, 1) ∧ decode cX3_leastBorrower 62 = .ok (.iinc 3 1, 3) ∧ decode cX3_leastBorrower 65 = .ok (.goto (-63), 3) ∧ decode cX3_leastBorrower 68 = .ok (.bipush 8, 2) := by decide +kernel
theorem dX3_leastBorrower_57 : decode cX3_leastBorrower 57 = .ok (.if_icmp .ne 5, 3) := dGX3_44.1
theorem dX3_leastBorrower_60 : decode cX3_leastBorrower 60 = .ok (.iload_n 3, 1) := dGX3_44.2.1
theorem dX3_leastBorrower_61 : decode cX3_leastBorrower 61 = .ok (.ireturn, 1) := dGX3_44.2.2.1
theorem dX3_leastBorrower_62 : decode cX3_leastBorrower 62 = .ok (.iinc 3 1, 3) := dGX3_44.2.2.2.1
theorem dX3_leastBorrower_65 : decode cX3_leastBorrower 65 = .ok (.goto (-63), 3) := dGX3_44.2.2.2.2.1
theorem dX3_leastBorrower_68 : decode cX3_leastBorrower 68 = .ok (.bipush 8, 2) := dGX3_44.2.2.2.2.2
theorem dGX3_45 : decode cX3_leastBorrower 70 = .ok (.ireturn, 1) ∧ decode cX3_handOut 0 = .ok (.iconst 0, 1) ∧ decode cX3_handOut 1 = .ok (.istore_n 2, 1) ∧ decode cX3_handOut 2 = .ok (.iload_n 2, 1) ∧ decode cX3_handOut 3 = .ok (.aload_n 1, 1) ∧ decode cX3_handOut 4 = .ok (.getfield 25, 3) := by decide +kernel
theorem dX3_leastBorrower_70 : decode cX3_leastBorrower 70 = .ok (.ireturn, 1) := dGX3_45.1
theorem dX3_handOut_0 : decode cX3_handOut 0 = .ok (.iconst 0, 1) := dGX3_45.2.1
theorem dX3_handOut_1 : decode cX3_handOut 1 = .ok (.istore_n 2, 1) := dGX3_45.2.2.1
theorem dX3_handOut_2 : decode cX3_handOut 2 = .ok (.iload_n 2, 1) := dGX3_45.2.2.2.1
theorem dX3_handOut_3 : decode cX3_handOut 3 = .ok (.aload_n 1, 1) := dGX3_45.2.2.2.2.1
theorem dX3_handOut_4 : decode cX3_handOut 4 = .ok (.getfield 25, 3) := dGX3_45.2.2.2.2.2
theorem dGX3_46 : decode cX3_handOut 7 = .ok (.getfield 31, 3) ∧ decode cX3_handOut 10 = .ok (.if_icmp .ge 40, 3) ∧ decode cX3_handOut 13 = .ok (.aload_n 1, 1) ∧ decode cX3_handOut 14 = .ok (.getfield 36, 3) ∧ decode cX3_handOut 17 = .ok (.aload_n 0, 1) ∧ decode cX3_handOut 18 = .ok (.getfield 15, 3) := by decide +kernel
theorem dX3_handOut_7 : decode cX3_handOut 7 = .ok (.getfield 31, 3) := dGX3_46.1
theorem dX3_handOut_10 : decode cX3_handOut 10 = .ok (.if_icmp .ge 40, 3) := dGX3_46.2.1
theorem dX3_handOut_13 : decode cX3_handOut 13 = .ok (.aload_n 1, 1) := dGX3_46.2.2.1
theorem dX3_handOut_14 : decode cX3_handOut 14 = .ok (.getfield 36, 3) := dGX3_46.2.2.2.1
theorem dX3_handOut_17 : decode cX3_handOut 17 = .ok (.aload_n 0, 1) := dGX3_46.2.2.2.2.1
theorem dX3_handOut_18 : decode cX3_handOut 18 = .ok (.getfield 15, 3) := dGX3_46.2.2.2.2.2
theorem dGX3_47 : decode cX3_handOut 21 = .ok (.iload_n 2, 1) ∧ decode cX3_handOut 22 = .ok (.iaload, 1) ∧ decode cX3_handOut 23 = .ok (.invokevirtual 72, 3) ∧ decode cX3_handOut 26 = .ok (.ifCond .eq 18, 3) ∧ decode cX3_handOut 29 = .ok (.aload_n 1, 1) ∧ decode cX3_handOut 30 = .ok (.getfield 36, 3) := by decide +kernel
theorem dX3_handOut_21 : decode cX3_handOut 21 = .ok (.iload_n 2, 1) := dGX3_47.1
theorem dX3_handOut_22 : decode cX3_handOut 22 = .ok (.iaload, 1) := dGX3_47.2.1
theorem dX3_handOut_23 : decode cX3_handOut 23 = .ok (.invokevirtual 72, 3) := dGX3_47.2.2.1
theorem dX3_handOut_26 : decode cX3_handOut 26 = .ok (.ifCond .eq 18, 3) := dGX3_47.2.2.2.1
theorem dX3_handOut_29 : decode cX3_handOut 29 = .ok (.aload_n 1, 1) := dGX3_47.2.2.2.2.1
theorem dX3_handOut_30 : decode cX3_handOut 30 = .ok (.getfield 36, 3) := dGX3_47.2.2.2.2.2
theorem dGX3_48 : decode cX3_handOut 33 = .ok (.getfield 58, 3) ∧ decode cX3_handOut 36 = .ok (.aload_n 0, 1) ∧ decode cX3_handOut 37 = .ok (.getfield 15, 3) ∧ decode cX3_handOut 40 = .ok (.iload_n 2, 1) ∧ decode cX3_handOut 41 = .ok (.iaload, 1) ∧ decode cX3_handOut 42 = .ok (.iconst 1, 1) := by decide +kernel
theorem dX3_handOut_33 : decode cX3_handOut 33 = .ok (.getfield 58, 3) := dGX3_48.1
theorem dX3_handOut_36 : decode cX3_handOut 36 = .ok (.aload_n 0, 1) := dGX3_48.2.1
theorem dX3_handOut_37 : decode cX3_handOut 37 = .ok (.getfield 15, 3) := dGX3_48.2.2.1
theorem dX3_handOut_40 : decode cX3_handOut 40 = .ok (.iload_n 2, 1) := dGX3_48.2.2.2.1
theorem dX3_handOut_41 : decode cX3_handOut 41 = .ok (.iaload, 1) := dGX3_48.2.2.2.2.1
theorem dX3_handOut_42 : decode cX3_handOut 42 = .ok (.iconst 1, 1) := dGX3_48.2.2.2.2.2
theorem dGX3_49 : decode cX3_handOut 43 = .ok (.iastore, 1) ∧ decode cX3_handOut 44 = .ok (.iinc 2 1, 3) ∧ decode cX3_handOut 47 = .ok (.goto (-45), 3) ∧ decode cX3_handOut 50 = .ok (.return_, 1) := by decide +kernel
theorem dX3_handOut_43 : decode cX3_handOut 43 = .ok (.iastore, 1) := dGX3_49.1
theorem dX3_handOut_44 : decode cX3_handOut 44 = .ok (.iinc 2 1, 3) := dGX3_49.2.1
theorem dX3_handOut_47 : decode cX3_handOut 47 = .ok (.goto (-45), 3) := dGX3_49.2.2.1
theorem dX3_handOut_50 : decode cX3_handOut 50 = .ok (.return_, 1) := dGX3_49.2.2.2
theorem dGX4_0 : decode cX4_init 0 = .ok (.aload_n 0, 1) ∧ decode cX4_init 1 = .ok (.invokespecial 3, 3) ∧ decode cX4_init 4 = .ok (.aload_n 0, 1) ∧ decode cX4_init 5 = .ok (.iconst 0, 1) ∧ decode cX4_init 6 = .ok (.putfield 9, 3) ∧ decode cX4_init 9 = .ok (.aload_n 0, 1) := by decide +kernel
theorem dX4_init_0 : decode cX4_init 0 = .ok (.aload_n 0, 1) := dGX4_0.1
theorem dX4_init_1 : decode cX4_init 1 = .ok (.invokespecial 3, 3) := dGX4_0.2.1
theorem dX4_init_4 : decode cX4_init 4 = .ok (.aload_n 0, 1) := dGX4_0.2.2.1
theorem dX4_init_5 : decode cX4_init 5 = .ok (.iconst 0, 1) := dGX4_0.2.2.2.1
theorem dX4_init_6 : decode cX4_init 6 = .ok (.putfield 9, 3) := dGX4_0.2.2.2.2.1
theorem dX4_init_9 : decode cX4_init 9 = .ok (.aload_n 0, 1) := dGX4_0.2.2.2.2.2
theorem dGX4_1 : decode cX4_init 10 = .ok (.bipush 8, 2) ∧ decode cX4_init 12 = .ok (.newarray .int, 2) ∧ decode cX4_init 14 = .ok (.putfield 15, 3) ∧ decode cX4_init 17 = .ok (.aload_n 0, 1) ∧ decode cX4_init 18 = .ok (.bipush 8, 2) ∧ decode cX4_init 20 = .ok (.newarray .int, 2) := by decide +kernel
theorem dX4_init_10 : decode cX4_init 10 = .ok (.bipush 8, 2) := dGX4_1.1
theorem dX4_init_12 : decode cX4_init 12 = .ok (.newarray .int, 2) := dGX4_1.2.1
theorem dX4_init_14 : decode cX4_init 14 = .ok (.putfield 15, 3) := dGX4_1.2.2.1
theorem dX4_init_17 : decode cX4_init 17 = .ok (.aload_n 0, 1) := dGX4_1.2.2.2.1
theorem dX4_init_18 : decode cX4_init 18 = .ok (.bipush 8, 2) := dGX4_1.2.2.2.2.1
theorem dX4_init_20 : decode cX4_init 20 = .ok (.newarray .int, 2) := dGX4_1.2.2.2.2.2
theorem dGX4_2 : decode cX4_init 22 = .ok (.putfield 19, 3) ∧ decode cX4_init 25 = .ok (.aload_n 0, 1) ∧ decode cX4_init 26 = .ok (.bipush 8, 2) ∧ decode cX4_init 28 = .ok (.newarray .int, 2) ∧ decode cX4_init 30 = .ok (.putfield 22, 3) ∧ decode cX4_init 33 = .ok (.aload_n 0, 1) := by decide +kernel
theorem dX4_init_22 : decode cX4_init 22 = .ok (.putfield 19, 3) := dGX4_2.1
theorem dX4_init_25 : decode cX4_init 25 = .ok (.aload_n 0, 1) := dGX4_2.2.1
theorem dX4_init_26 : decode cX4_init 26 = .ok (.bipush 8, 2) := dGX4_2.2.2.1
theorem dX4_init_28 : decode cX4_init 28 = .ok (.newarray .int, 2) := dGX4_2.2.2.2.1
theorem dX4_init_30 : decode cX4_init 30 = .ok (.putfield 22, 3) := dGX4_2.2.2.2.2.1
theorem dX4_init_33 : decode cX4_init 33 = .ok (.aload_n 0, 1) := dGX4_2.2.2.2.2.2
theorem dGX4_3 : decode cX4_init 34 = .ok (.bipush 8, 2) ∧ decode cX4_init 36 = .ok (.newarray .int, 2) ∧ decode cX4_init 38 = .ok (.putfield 25, 3) ∧ decode cX4_init 41 = .ok (.return_, 1) ∧ decode cX4_has 0 = .ok (.iload_n 1, 1) ∧ decode cX4_has 1 = .ok (.ifCond .lt 15, 3) := by decide +kernel
theorem dX4_init_34 : decode cX4_init 34 = .ok (.bipush 8, 2) := dGX4_3.1
theorem dX4_init_36 : decode cX4_init 36 = .ok (.newarray .int, 2) := dGX4_3.2.1
theorem dX4_init_38 : decode cX4_init 38 = .ok (.putfield 25, 3) := dGX4_3.2.2.1
theorem dX4_init_41 : decode cX4_init 41 = .ok (.return_, 1) := dGX4_3.2.2.2.1
theorem dX4_has_0 : decode cX4_has 0 = .ok (.iload_n 1, 1) := dGX4_3.2.2.2.2.1
theorem dX4_has_1 : decode cX4_has 1 = .ok (.ifCond .lt 15, 3) := dGX4_3.2.2.2.2.2
theorem dGX4_4 : decode cX4_has 4 = .ok (.iload_n 1, 1) ∧ decode cX4_has 5 = .ok (.aload_n 0, 1) ∧ decode cX4_has 6 = .ok (.getfield 9, 3) ∧ decode cX4_has 9 = .ok (.if_icmp .ge 7, 3) ∧ decode cX4_has 12 = .ok (.iconst 1, 1) ∧ decode cX4_has 13 = .ok (.goto 4, 3) := by decide +kernel
theorem dX4_has_4 : decode cX4_has 4 = .ok (.iload_n 1, 1) := dGX4_4.1
theorem dX4_has_5 : decode cX4_has 5 = .ok (.aload_n 0, 1) := dGX4_4.2.1
theorem dX4_has_6 : decode cX4_has 6 = .ok (.getfield 9, 3) := dGX4_4.2.2.1
theorem dX4_has_9 : decode cX4_has 9 = .ok (.if_icmp .ge 7, 3) := dGX4_4.2.2.2.1
theorem dX4_has_12 : decode cX4_has 12 = .ok (.iconst 1, 1) := dGX4_4.2.2.2.2.1
theorem dX4_has_13 : decode cX4_has 13 = .ok (.goto 4, 3) := dGX4_4.2.2.2.2.2
theorem dGX4_5 : decode cX4_has 16 = .ok (.iconst 0, 1) ∧ decode cX4_has 17 = .ok (.ireturn, 1) ∧ decode cX4_add 0 = .ok (.aload_n 0, 1) ∧ decode cX4_add 1 = .ok (.getfield 9, 3) ∧ decode cX4_add 4 = .ok (.bipush 8, 2) ∧ decode cX4_add 6 = .ok (.if_icmp .lt 5, 3) := by decide +kernel
theorem dX4_has_16 : decode cX4_has 16 = .ok (.iconst 0, 1) := dGX4_5.1
theorem dX4_has_17 : decode cX4_has 17 = .ok (.ireturn, 1) := dGX4_5.2.1
theorem dX4_add_0 : decode cX4_add 0 = .ok (.aload_n 0, 1) := dGX4_5.2.2.1
theorem dX4_add_1 : decode cX4_add 1 = .ok (.getfield 9, 3) := dGX4_5.2.2.2.1
theorem dX4_add_4 : decode cX4_add 4 = .ok (.bipush 8, 2) := dGX4_5.2.2.2.2.1
theorem dX4_add_6 : decode cX4_add 6 = .ok (.if_icmp .lt 5, 3) := dGX4_5.2.2.2.2.2
theorem dGX4_6 : decode cX4_add 9 = .ok (.iconst (-1), 1) ∧ decode cX4_add 10 = .ok (.ireturn, 1) ∧ decode cX4_add 11 = .ok (.aload_n 0, 1) ∧ decode cX4_add 12 = .ok (.getfield 15, 3) ∧ decode cX4_add 15 = .ok (.aload_n 0, 1) ∧ decode cX4_add 16 = .ok (.getfield 9, 3) := by decide +kernel
theorem dX4_add_9 : decode cX4_add 9 = .ok (.iconst (-1), 1) := dGX4_6.1
theorem dX4_add_10 : decode cX4_add 10 = .ok (.ireturn, 1) := dGX4_6.2.1
theorem dX4_add_11 : decode cX4_add 11 = .ok (.aload_n 0, 1) := dGX4_6.2.2.1
theorem dX4_add_12 : decode cX4_add 12 = .ok (.getfield 15, 3) := dGX4_6.2.2.2.1
theorem dX4_add_15 : decode cX4_add 15 = .ok (.aload_n 0, 1) := dGX4_6.2.2.2.2.1
theorem dX4_add_16 : decode cX4_add 16 = .ok (.getfield 9, 3) := dGX4_6.2.2.2.2.2
theorem dGX4_7 : decode cX4_add 19 = .ok (.bipush 10, 2) ∧ decode cX4_add 21 = .ok (.iastore, 1) ∧ decode cX4_add 22 = .ok (.aload_n 0, 1) ∧ decode cX4_add 23 = .ok (.getfield 19, 3) ∧ decode cX4_add 26 = .ok (.aload_n 0, 1) ∧ decode cX4_add 27 = .ok (.getfield 9, 3) := by decide +kernel
theorem dX4_add_19 : decode cX4_add 19 = .ok (.bipush 10, 2) := dGX4_7.1
theorem dX4_add_21 : decode cX4_add 21 = .ok (.iastore, 1) := dGX4_7.2.1
theorem dX4_add_22 : decode cX4_add 22 = .ok (.aload_n 0, 1) := dGX4_7.2.2.1
theorem dX4_add_23 : decode cX4_add 23 = .ok (.getfield 19, 3) := dGX4_7.2.2.2.1
theorem dX4_add_26 : decode cX4_add 26 = .ok (.aload_n 0, 1) := dGX4_7.2.2.2.2.1
theorem dX4_add_27 : decode cX4_add 27 = .ok (.getfield 9, 3) := dGX4_7.2.2.2.2.2
theorem dGX4_8 : decode cX4_add 30 = .ok (.iload_n 1, 1) ∧ decode cX4_add 31 = .ok (.iastore, 1) ∧ decode cX4_add 32 = .ok (.aload_n 0, 1) ∧ decode cX4_add 33 = .ok (.getfield 22, 3) ∧ decode cX4_add 36 = .ok (.aload_n 0, 1) ∧ decode cX4_add 37 = .ok (.getfield 9, 3) := by decide +kernel
theorem dX4_add_30 : decode cX4_add 30 = .ok (.iload_n 1, 1) := dGX4_8.1
theorem dX4_add_31 : decode cX4_add 31 = .ok (.iastore, 1) := dGX4_8.2.1
theorem dX4_add_32 : decode cX4_add 32 = .ok (.aload_n 0, 1) := dGX4_8.2.2.1
theorem dX4_add_33 : decode cX4_add 33 = .ok (.getfield 22, 3) := dGX4_8.2.2.2.1
theorem dX4_add_36 : decode cX4_add 36 = .ok (.aload_n 0, 1) := dGX4_8.2.2.2.2.1
theorem dX4_add_37 : decode cX4_add 37 = .ok (.getfield 9, 3) := dGX4_8.2.2.2.2.2
theorem dGX4_9 : decode cX4_add 40 = .ok (.iload_n 2, 1) ∧ decode cX4_add 41 = .ok (.iastore, 1) ∧ decode cX4_add 42 = .ok (.aload_n 0, 1) ∧ decode cX4_add 43 = .ok (.dup, 1) ∧ decode cX4_add 44 = .ok (.getfield 9, 3) ∧ decode cX4_add 47 = .ok (.iconst 1, 1) := by decide +kernel
theorem dX4_add_40 : decode cX4_add 40 = .ok (.iload_n 2, 1) := dGX4_9.1
theorem dX4_add_41 : decode cX4_add 41 = .ok (.iastore, 1) := dGX4_9.2.1
theorem dX4_add_42 : decode cX4_add 42 = .ok (.aload_n 0, 1) := dGX4_9.2.2.1
theorem dX4_add_43 : decode cX4_add 43 = .ok (.dup, 1) := dGX4_9.2.2.2.1
theorem dX4_add_44 : decode cX4_add 44 = .ok (.getfield 9, 3) := dGX4_9.2.2.2.2.1
theorem dX4_add_47 : decode cX4_add 47 = .ok (.iconst 1, 1) := dGX4_9.2.2.2.2.2
theorem dGX4_10 : decode cX4_add 48 = .ok (.iadd, 1) ∧ decode cX4_add 49 = .ok (.putfield 9, 3) ∧ decode cX4_add 52 = .ok (.aload_n 0, 1) ∧ decode cX4_add 53 = .ok (.getfield 9, 3) ∧ decode cX4_add 56 = .ok (.iconst 1, 1) ∧ decode cX4_add 57 = .ok (.isub, 1) := by decide +kernel
theorem dX4_add_48 : decode cX4_add 48 = .ok (.iadd, 1) := dGX4_10.1
theorem dX4_add_49 : decode cX4_add 49 = .ok (.putfield 9, 3) := dGX4_10.2.1
theorem dX4_add_52 : decode cX4_add 52 = .ok (.aload_n 0, 1) := dGX4_10.2.2.1
theorem dX4_add_53 : decode cX4_add 53 = .ok (.getfield 9, 3) := dGX4_10.2.2.2.1
theorem dX4_add_56 : decode cX4_add 56 = .ok (.iconst 1, 1) := dGX4_10.2.2.2.2.1
theorem dX4_add_57 : decode cX4_add 57 = .ok (.isub, 1) := dGX4_10.2.2.2.2.2
theorem dGX4_11 : decode cX4_add 58 = .ok (.ireturn, 1) ∧ decode cX4_bitsBelow 0 = .ok (.iconst 0, 1) ∧ decode cX4_bitsBelow 1 = .ok (.istore_n 2, 1) ∧ decode cX4_bitsBelow 2 = .ok (.iconst 0, 1) ∧ decode cX4_bitsBelow 3 = .ok (.istore_n 3, 1) ∧ decode cX4_bitsBelow 4 = .ok (.iload_n 3, 1) := by decide +kernel
theorem dX4_add_58 : decode cX4_add 58 = .ok (.ireturn, 1) := dGX4_11.1
theorem dX4_bitsBelow_0 : decode cX4_bitsBelow 0 = .ok (.iconst 0, 1) := dGX4_11.2.1
theorem dX4_bitsBelow_1 : decode cX4_bitsBelow 1 = .ok (.istore_n 2, 1) := dGX4_11.2.2.1
theorem dX4_bitsBelow_2 : decode cX4_bitsBelow 2 = .ok (.iconst 0, 1) := dGX4_11.2.2.2.1
theorem dX4_bitsBelow_3 : decode cX4_bitsBelow 3 = .ok (.istore_n 3, 1) := dGX4_11.2.2.2.2.1
theorem dX4_bitsBelow_4 : decode cX4_bitsBelow 4 = .ok (.iload_n 3, 1) := dGX4_11.2.2.2.2.2
theorem dGX4_12 : decode cX4_bitsBelow 5 = .ok (.aload_n 0, 1) ∧ decode cX4_bitsBelow 6 = .ok (.getfield 9, 3) ∧ decode cX4_bitsBelow 9 = .ok (.if_icmp .ge 25, 3) ∧ decode cX4_bitsBelow 12 = .ok (.aload_n 0, 1) ∧ decode cX4_bitsBelow 13 = .ok (.getfield 15, 3) ∧ decode cX4_bitsBelow 16 = .ok (.iload_n 3, 1) := by decide +kernel
theorem dX4_bitsBelow_5 : decode cX4_bitsBelow 5 = .ok (.aload_n 0, 1) := dGX4_12.1
theorem dX4_bitsBelow_6 : decode cX4_bitsBelow 6 = .ok (.getfield 9, 3) := dGX4_12.2.1
theorem dX4_bitsBelow_9 : decode cX4_bitsBelow 9 = .ok (.if_icmp .ge 25, 3) := dGX4_12.2.2.1
theorem dX4_bitsBelow_12 : decode cX4_bitsBelow 12 = .ok (.aload_n 0, 1) := dGX4_12.2.2.2.1
theorem dX4_bitsBelow_13 : decode cX4_bitsBelow 13 = .ok (.getfield 15, 3) := dGX4_12.2.2.2.2.1
theorem dX4_bitsBelow_16 : decode cX4_bitsBelow 16 = .ok (.iload_n 3, 1) := dGX4_12.2.2.2.2.2
theorem dGX4_13 : decode cX4_bitsBelow 17 = .ok (.iaload, 1) ∧ decode cX4_bitsBelow 18 = .ok (.iload_n 1, 1) ∧ decode cX4_bitsBelow 19 = .ok (.if_icmp .ne 9, 3) ∧ decode cX4_bitsBelow 22 = .ok (.iload_n 2, 1) ∧ decode cX4_bitsBelow 23 = .ok (.iconst 1, 1) ∧ decode cX4_bitsBelow 24 = .ok (.iload_n 3, 1) := by decide +kernel
theorem dX4_bitsBelow_17 : decode cX4_bitsBelow 17 = .ok (.iaload, 1) := dGX4_13.1
theorem dX4_bitsBelow_18 : decode cX4_bitsBelow 18 = .ok (.iload_n 1, 1) := dGX4_13.2.1
theorem dX4_bitsBelow_19 : decode cX4_bitsBelow 19 = .ok (.if_icmp .ne 9, 3) := dGX4_13.2.2.1
theorem dX4_bitsBelow_22 : decode cX4_bitsBelow 22 = .ok (.iload_n 2, 1) := dGX4_13.2.2.2.1
theorem dX4_bitsBelow_23 : decode cX4_bitsBelow 23 = .ok (.iconst 1, 1) := dGX4_13.2.2.2.2.1
theorem dX4_bitsBelow_24 : decode cX4_bitsBelow 24 = .ok (.iload_n 3, 1) := dGX4_13.2.2.2.2.2
theorem dGX4_14 : decode cX4_bitsBelow 25 = .ok (.ishl, 1) ∧ decode cX4_bitsBelow 26 = .ok (.ior, 1) ∧ decode cX4_bitsBelow 27 = .ok (.istore_n 2, 1) ∧ decode cX4_bitsBelow 28 = .ok (.iinc 3 1, 3) ∧ decode cX4_bitsBelow 31 = .ok (.goto (-27), 3) ∧ decode cX4_bitsBelow 34 = .ok (.iload_n 2, 1) := by decide +kernel
theorem dX4_bitsBelow_25 : decode cX4_bitsBelow 25 = .ok (.ishl, 1) := dGX4_14.1
theorem dX4_bitsBelow_26 : decode cX4_bitsBelow 26 = .ok (.ior, 1) := dGX4_14.2.1
theorem dX4_bitsBelow_27 : decode cX4_bitsBelow 27 = .ok (.istore_n 2, 1) := dGX4_14.2.2.1
theorem dX4_bitsBelow_28 : decode cX4_bitsBelow 28 = .ok (.iinc 3 1, 3) := dGX4_14.2.2.2.1
theorem dX4_bitsBelow_31 : decode cX4_bitsBelow 31 = .ok (.goto (-27), 3) := dGX4_14.2.2.2.2.1
theorem dX4_bitsBelow_34 : decode cX4_bitsBelow 34 = .ok (.iload_n 2, 1) := dGX4_14.2.2.2.2.2
theorem dGX4_15 : decode cX4_bitsBelow 35 = .ok (.ireturn, 1) ∧ decode cX4_allBruises 0 = .ok (.iconst 0, 1) ∧ decode cX4_allBruises 1 = .ok (.istore_n 1, 1) ∧ decode cX4_allBruises 2 = .ok (.iconst 0, 1) ∧ decode cX4_allBruises 3 = .ok (.istore_n 2, 1) ∧ decode cX4_allBruises 4 = .ok (.iload_n 2, 1) := by decide +kernel
theorem dX4_bitsBelow_35 : decode cX4_bitsBelow 35 = .ok (.ireturn, 1) := dGX4_15.1
theorem dX4_allBruises_0 : decode cX4_allBruises 0 = .ok (.iconst 0, 1) := dGX4_15.2.1
theorem dX4_allBruises_1 : decode cX4_allBruises 1 = .ok (.istore_n 1, 1) := dGX4_15.2.2.1
theorem dX4_allBruises_2 : decode cX4_allBruises 2 = .ok (.iconst 0, 1) := dGX4_15.2.2.2.1
theorem dX4_allBruises_3 : decode cX4_allBruises 3 = .ok (.istore_n 2, 1) := dGX4_15.2.2.2.2.1
theorem dX4_allBruises_4 : decode cX4_allBruises 4 = .ok (.iload_n 2, 1) := dGX4_15.2.2.2.2.2
theorem dGX4_16 : decode cX4_allBruises 5 = .ok (.aload_n 0, 1) ∧ decode cX4_allBruises 6 = .ok (.getfield 9, 3) ∧ decode cX4_allBruises 9 = .ok (.if_icmp .ge 18, 3) ∧ decode cX4_allBruises 12 = .ok (.iload_n 1, 1) ∧ decode cX4_allBruises 13 = .ok (.aload_n 0, 1) ∧ decode cX4_allBruises 14 = .ok (.getfield 25, 3) := by decide +kernel
theorem dX4_allBruises_5 : decode cX4_allBruises 5 = .ok (.aload_n 0, 1) := dGX4_16.1
theorem dX4_allBruises_6 : decode cX4_allBruises 6 = .ok (.getfield 9, 3) := dGX4_16.2.1
theorem dX4_allBruises_9 : decode cX4_allBruises 9 = .ok (.if_icmp .ge 18, 3) := dGX4_16.2.2.1
theorem dX4_allBruises_12 : decode cX4_allBruises 12 = .ok (.iload_n 1, 1) := dGX4_16.2.2.2.1
theorem dX4_allBruises_13 : decode cX4_allBruises 13 = .ok (.aload_n 0, 1) := dGX4_16.2.2.2.2.1
theorem dX4_allBruises_14 : decode cX4_allBruises 14 = .ok (.getfield 25, 3) := dGX4_16.2.2.2.2.2
theorem dGX4_17 : decode cX4_allBruises 17 = .ok (.iload_n 2, 1) ∧ decode cX4_allBruises 18 = .ok (.iaload, 1) ∧ decode cX4_allBruises 19 = .ok (.iadd, 1) ∧ decode cX4_allBruises 20 = .ok (.istore_n 1, 1) ∧ decode cX4_allBruises 21 = .ok (.iinc 2 1, 3) ∧ decode cX4_allBruises 24 = .ok (.goto (-20), 3) := by decide +kernel
theorem dX4_allBruises_17 : decode cX4_allBruises 17 = .ok (.iload_n 2, 1) := dGX4_17.1
theorem dX4_allBruises_18 : decode cX4_allBruises 18 = .ok (.iaload, 1) := dGX4_17.2.1
theorem dX4_allBruises_19 : decode cX4_allBruises 19 = .ok (.iadd, 1) := dGX4_17.2.2.1
theorem dX4_allBruises_20 : decode cX4_allBruises 20 = .ok (.istore_n 1, 1) := dGX4_17.2.2.2.1
theorem dX4_allBruises_21 : decode cX4_allBruises 21 = .ok (.iinc 2 1, 3) := dGX4_17.2.2.2.2.1
theorem dX4_allBruises_24 : decode cX4_allBruises 24 = .ok (.goto (-20), 3) := dGX4_17.2.2.2.2.2
theorem dGX4_18 : decode cX4_allBruises 27 = .ok (.iload_n 1, 1) ∧ decode cX4_allBruises 28 = .ok (.ireturn, 1) ∧ decode cX4_struckBelow 0 = .ok (.iconst (-1), 1) ∧ decode cX4_struckBelow 1 = .ok (.istore_n 2, 1) ∧ decode cX4_struckBelow 2 = .ok (.iconst 0, 1) ∧ decode cX4_struckBelow 3 = .ok (.istore_n 3, 1) := by decide +kernel
theorem dX4_allBruises_27 : decode cX4_allBruises 27 = .ok (.iload_n 1, 1) := dGX4_18.1
theorem dX4_allBruises_28 : decode cX4_allBruises 28 = .ok (.ireturn, 1) := dGX4_18.2.1
theorem dX4_struckBelow_0 : decode cX4_struckBelow 0 = .ok (.iconst (-1), 1) := dGX4_18.2.2.1
theorem dX4_struckBelow_1 : decode cX4_struckBelow 1 = .ok (.istore_n 2, 1) := dGX4_18.2.2.2.1
theorem dX4_struckBelow_2 : decode cX4_struckBelow 2 = .ok (.iconst 0, 1) := dGX4_18.2.2.2.2.1
theorem dX4_struckBelow_3 : decode cX4_struckBelow 3 = .ok (.istore_n 3, 1) := dGX4_18.2.2.2.2.2
theorem dGX4_19 : decode cX4_struckBelow 4 = .ok (.iload_n 3, 1) ∧ decode cX4_struckBelow 5 = .ok (.aload_n 0, 1) ∧ decode cX4_struckBelow 6 = .ok (.getfield 9, 3) ∧ decode cX4_struckBelow 9 = .ok (.if_icmp .ge 50, 3) ∧ decode cX4_struckBelow 12 = .ok (.aload_n 0, 1) ∧ decode cX4_struckBelow 13 = .ok (.getfield 15, 3) := by decide +kernel
theorem dX4_struckBelow_4 : decode cX4_struckBelow 4 = .ok (.iload_n 3, 1) := dGX4_19.1
theorem dX4_struckBelow_5 : decode cX4_struckBelow 5 = .ok (.aload_n 0, 1) := dGX4_19.2.1
theorem dX4_struckBelow_6 : decode cX4_struckBelow 6 = .ok (.getfield 9, 3) := dGX4_19.2.2.1
theorem dX4_struckBelow_9 : decode cX4_struckBelow 9 = .ok (.if_icmp .ge 50, 3) := dGX4_19.2.2.2.1
theorem dX4_struckBelow_12 : decode cX4_struckBelow 12 = .ok (.aload_n 0, 1) := dGX4_19.2.2.2.2.1
theorem dX4_struckBelow_13 : decode cX4_struckBelow 13 = .ok (.getfield 15, 3) := dGX4_19.2.2.2.2.2
theorem dGX4_20 : decode cX4_struckBelow 16 = .ok (.iload_n 3, 1) ∧ decode cX4_struckBelow 17 = .ok (.iaload, 1) ∧ decode cX4_struckBelow 18 = .ok (.iload_n 1, 1) ∧ decode cX4_struckBelow 19 = .ok (.if_icmp .ne 34, 3) ∧ decode cX4_struckBelow 22 = .ok (.aload_n 0, 1) ∧ decode cX4_struckBelow 23 = .ok (.getfield 22, 3) := by decide +kernel
theorem dX4_struckBelow_16 : decode cX4_struckBelow 16 = .ok (.iload_n 3, 1) := dGX4_20.1
theorem dX4_struckBelow_17 : decode cX4_struckBelow 17 = .ok (.iaload, 1) := dGX4_20.2.1
theorem dX4_struckBelow_18 : decode cX4_struckBelow 18 = .ok (.iload_n 1, 1) := dGX4_20.2.2.1
theorem dX4_struckBelow_19 : decode cX4_struckBelow 19 = .ok (.if_icmp .ne 34, 3) := dGX4_20.2.2.2.1
theorem dX4_struckBelow_22 : decode cX4_struckBelow 22 = .ok (.aload_n 0, 1) := dGX4_20.2.2.2.2.1
theorem dX4_struckBelow_23 : decode cX4_struckBelow 23 = .ok (.getfield 22, 3) := dGX4_20.2.2.2.2.2
theorem dGX4_21 : decode cX4_struckBelow 26 = .ok (.iload_n 3, 1) ∧ decode cX4_struckBelow 27 = .ok (.iaload, 1) ∧ decode cX4_struckBelow 28 = .ok (.ifCond .ne 25, 3) ∧ decode cX4_struckBelow 31 = .ok (.iload_n 2, 1) ∧ decode cX4_struckBelow 32 = .ok (.iconst (-1), 1) ∧ decode cX4_struckBelow 33 = .ok (.if_icmp .eq 18, 3) := by decide +kernel
theorem dX4_struckBelow_26 : decode cX4_struckBelow 26 = .ok (.iload_n 3, 1) := dGX4_21.1
theorem dX4_struckBelow_27 : decode cX4_struckBelow 27 = .ok (.iaload, 1) := dGX4_21.2.1
theorem dX4_struckBelow_28 : decode cX4_struckBelow 28 = .ok (.ifCond .ne 25, 3) := dGX4_21.2.2.1
theorem dX4_struckBelow_31 : decode cX4_struckBelow 31 = .ok (.iload_n 2, 1) := dGX4_21.2.2.2.1
theorem dX4_struckBelow_32 : decode cX4_struckBelow 32 = .ok (.iconst (-1), 1) := dGX4_21.2.2.2.2.1
theorem dX4_struckBelow_33 : decode cX4_struckBelow 33 = .ok (.if_icmp .eq 18, 3) := dGX4_21.2.2.2.2.2
theorem dGX4_22 : decode cX4_struckBelow 36 = .ok (.aload_n 0, 1) ∧ decode cX4_struckBelow 37 = .ok (.getfield 25, 3) ∧ decode cX4_struckBelow 40 = .ok (.iload_n 3, 1) ∧ decode cX4_struckBelow 41 = .ok (.iaload, 1) ∧ decode cX4_struckBelow 42 = .ok (.aload_n 0, 1) ∧ decode cX4_struckBelow 43 = .ok (.getfield 25, 3) := by decide +kernel
theorem dX4_struckBelow_36 : decode cX4_struckBelow 36 = .ok (.aload_n 0, 1) := dGX4_22.1
theorem dX4_struckBelow_37 : decode cX4_struckBelow 37 = .ok (.getfield 25, 3) := dGX4_22.2.1
theorem dX4_struckBelow_40 : decode cX4_struckBelow 40 = .ok (.iload_n 3, 1) := dGX4_22.2.2.1
theorem dX4_struckBelow_41 : decode cX4_struckBelow 41 = .ok (.iaload, 1) := dGX4_22.2.2.2.1
theorem dX4_struckBelow_42 : decode cX4_struckBelow 42 = .ok (.aload_n 0, 1) := dGX4_22.2.2.2.2.1
theorem dX4_struckBelow_43 : decode cX4_struckBelow 43 = .ok (.getfield 25, 3) := dGX4_22.2.2.2.2.2
theorem dGX4_23 : decode cX4_struckBelow 46 = .ok (.iload_n 2, 1) ∧ decode cX4_struckBelow 47 = .ok (.iaload, 1) ∧ decode cX4_struckBelow 48 = .ok (.if_icmp .ge 5, 3) ∧ decode cX4_struckBelow 51 = .ok (.iload_n 3, 1) ∧ decode cX4_struckBelow 52 = .ok (.istore_n 2, 1) ∧ decode cX4_struckBelow 53 = .ok (.iinc 3 1, 3) := by decide +kernel
theorem dX4_struckBelow_46 : decode cX4_struckBelow 46 = .ok (.iload_n 2, 1) := dGX4_23.1
theorem dX4_struckBelow_47 : decode cX4_struckBelow 47 = .ok (.iaload, 1) := dGX4_23.2.1
theorem dX4_struckBelow_48 : decode cX4_struckBelow 48 = .ok (.if_icmp .ge 5, 3) := dGX4_23.2.2.1
theorem dX4_struckBelow_51 : decode cX4_struckBelow 51 = .ok (.iload_n 3, 1) := dGX4_23.2.2.2.1
theorem dX4_struckBelow_52 : decode cX4_struckBelow 52 = .ok (.istore_n 2, 1) := dGX4_23.2.2.2.2.1
theorem dX4_struckBelow_53 : decode cX4_struckBelow 53 = .ok (.iinc 3 1, 3) := dGX4_23.2.2.2.2.2
theorem dGX4_24 : decode cX4_struckBelow 56 = .ok (.goto (-52), 3) ∧ decode cX4_struckBelow 59 = .ok (.iload_n 2, 1) ∧ decode cX4_struckBelow 60 = .ok (.ireturn, 1) ∧ decode cX4_copyFrom 0 = .ok (.aload_n 0, 1) ∧ decode cX4_copyFrom 1 = .ok (.aload_n 1, 1) ∧ decode cX4_copyFrom 2 = .ok (.getfield 9, 3) := by decide +kernel
theorem dX4_struckBelow_56 : decode cX4_struckBelow 56 = .ok (.goto (-52), 3) := dGX4_24.1
theorem dX4_struckBelow_59 : decode cX4_struckBelow 59 = .ok (.iload_n 2, 1) := dGX4_24.2.1
theorem dX4_struckBelow_60 : decode cX4_struckBelow 60 = .ok (.ireturn, 1) := dGX4_24.2.2.1
theorem dX4_copyFrom_0 : decode cX4_copyFrom 0 = .ok (.aload_n 0, 1) := dGX4_24.2.2.2.1
theorem dX4_copyFrom_1 : decode cX4_copyFrom 1 = .ok (.aload_n 1, 1) := dGX4_24.2.2.2.2.1
theorem dX4_copyFrom_2 : decode cX4_copyFrom 2 = .ok (.getfield 9, 3) := dGX4_24.2.2.2.2.2
theorem dGX4_25 : decode cX4_copyFrom 5 = .ok (.putfield 9, 3) ∧ decode cX4_copyFrom 8 = .ok (.aload_n 1, 1) ∧ decode cX4_copyFrom 9 = .ok (.getfield 15, 3) ∧ decode cX4_copyFrom 12 = .ok (.iconst 0, 1) ∧ decode cX4_copyFrom 13 = .ok (.aload_n 0, 1) ∧ decode cX4_copyFrom 14 = .ok (.getfield 15, 3) := by decide +kernel
theorem dX4_copyFrom_5 : decode cX4_copyFrom 5 = .ok (.putfield 9, 3) := dGX4_25.1
theorem dX4_copyFrom_8 : decode cX4_copyFrom 8 = .ok (.aload_n 1, 1) := dGX4_25.2.1
theorem dX4_copyFrom_9 : decode cX4_copyFrom 9 = .ok (.getfield 15, 3) := dGX4_25.2.2.1
theorem dX4_copyFrom_12 : decode cX4_copyFrom 12 = .ok (.iconst 0, 1) := dGX4_25.2.2.2.1
theorem dX4_copyFrom_13 : decode cX4_copyFrom 13 = .ok (.aload_n 0, 1) := dGX4_25.2.2.2.2.1
theorem dX4_copyFrom_14 : decode cX4_copyFrom 14 = .ok (.getfield 15, 3) := dGX4_25.2.2.2.2.2
theorem dGX4_26 : decode cX4_copyFrom 17 = .ok (.iconst 0, 1) ∧ decode cX4_copyFrom 18 = .ok (.bipush 8, 2) ∧ decode cX4_copyFrom 20 = .ok (.invokestatic 28, 3) ∧ decode cX4_copyFrom 23 = .ok (.aload_n 1, 1) ∧ decode cX4_copyFrom 24 = .ok (.getfield 19, 3) ∧ decode cX4_copyFrom 27 = .ok (.iconst 0, 1) := by decide +kernel
theorem dX4_copyFrom_17 : decode cX4_copyFrom 17 = .ok (.iconst 0, 1) := dGX4_26.1
theorem dX4_copyFrom_18 : decode cX4_copyFrom 18 = .ok (.bipush 8, 2) := dGX4_26.2.1
theorem dX4_copyFrom_20 : decode cX4_copyFrom 20 = .ok (.invokestatic 28, 3) := dGX4_26.2.2.1
theorem dX4_copyFrom_23 : decode cX4_copyFrom 23 = .ok (.aload_n 1, 1) := dGX4_26.2.2.2.1
theorem dX4_copyFrom_24 : decode cX4_copyFrom 24 = .ok (.getfield 19, 3) := dGX4_26.2.2.2.2.1
theorem dX4_copyFrom_27 : decode cX4_copyFrom 27 = .ok (.iconst 0, 1) := dGX4_26.2.2.2.2.2
theorem dGX4_27 : decode cX4_copyFrom 28 = .ok (.aload_n 0, 1) ∧ decode cX4_copyFrom 29 = .ok (.getfield 19, 3) ∧ decode cX4_copyFrom 32 = .ok (.iconst 0, 1) ∧ decode cX4_copyFrom 33 = .ok (.bipush 8, 2) ∧ decode cX4_copyFrom 35 = .ok (.invokestatic 28, 3) ∧ decode cX4_copyFrom 38 = .ok (.aload_n 1, 1) := by decide +kernel
theorem dX4_copyFrom_28 : decode cX4_copyFrom 28 = .ok (.aload_n 0, 1) := dGX4_27.1
theorem dX4_copyFrom_29 : decode cX4_copyFrom 29 = .ok (.getfield 19, 3) := dGX4_27.2.1
theorem dX4_copyFrom_32 : decode cX4_copyFrom 32 = .ok (.iconst 0, 1) := dGX4_27.2.2.1
theorem dX4_copyFrom_33 : decode cX4_copyFrom 33 = .ok (.bipush 8, 2) := dGX4_27.2.2.2.1
theorem dX4_copyFrom_35 : decode cX4_copyFrom 35 = .ok (.invokestatic 28, 3) := dGX4_27.2.2.2.2.1
theorem dX4_copyFrom_38 : decode cX4_copyFrom 38 = .ok (.aload_n 1, 1) := dGX4_27.2.2.2.2.2
theorem dGX4_28 : decode cX4_copyFrom 39 = .ok (.getfield 22, 3) ∧ decode cX4_copyFrom 42 = .ok (.iconst 0, 1) ∧ decode cX4_copyFrom 43 = .ok (.aload_n 0, 1) ∧ decode cX4_copyFrom 44 = .ok (.getfield 22, 3) ∧ decode cX4_copyFrom 47 = .ok (.iconst 0, 1) ∧ decode cX4_copyFrom 48 = .ok (.bipush 8, 2) := by decide +kernel
theorem dX4_copyFrom_39 : decode cX4_copyFrom 39 = .ok (.getfield 22, 3) := dGX4_28.1
theorem dX4_copyFrom_42 : decode cX4_copyFrom 42 = .ok (.iconst 0, 1) := dGX4_28.2.1
theorem dX4_copyFrom_43 : decode cX4_copyFrom 43 = .ok (.aload_n 0, 1) := dGX4_28.2.2.1
theorem dX4_copyFrom_44 : decode cX4_copyFrom 44 = .ok (.getfield 22, 3) := dGX4_28.2.2.2.1
theorem dX4_copyFrom_47 : decode cX4_copyFrom 47 = .ok (.iconst 0, 1) := dGX4_28.2.2.2.2.1
theorem dX4_copyFrom_48 : decode cX4_copyFrom 48 = .ok (.bipush 8, 2) := dGX4_28.2.2.2.2.2
theorem dGX4_29 : decode cX4_copyFrom 50 = .ok (.invokestatic 28, 3) ∧ decode cX4_copyFrom 53 = .ok (.aload_n 1, 1) ∧ decode cX4_copyFrom 54 = .ok (.getfield 25, 3) ∧ decode cX4_copyFrom 57 = .ok (.iconst 0, 1) ∧ decode cX4_copyFrom 58 = .ok (.aload_n 0, 1) ∧ decode cX4_copyFrom 59 = .ok (.getfield 25, 3) := by decide +kernel
theorem dX4_copyFrom_50 : decode cX4_copyFrom 50 = .ok (.invokestatic 28, 3) := dGX4_29.1
theorem dX4_copyFrom_53 : decode cX4_copyFrom 53 = .ok (.aload_n 1, 1) := dGX4_29.2.1
theorem dX4_copyFrom_54 : decode cX4_copyFrom 54 = .ok (.getfield 25, 3) := dGX4_29.2.2.1
theorem dX4_copyFrom_57 : decode cX4_copyFrom 57 = .ok (.iconst 0, 1) := dGX4_29.2.2.2.1
theorem dX4_copyFrom_58 : decode cX4_copyFrom 58 = .ok (.aload_n 0, 1) := dGX4_29.2.2.2.2.1
theorem dX4_copyFrom_59 : decode cX4_copyFrom 59 = .ok (.getfield 25, 3) := dGX4_29.2.2.2.2.2
theorem dGX4_30 : decode cX4_copyFrom 62 = .ok (.iconst 0, 1) ∧ decode cX4_copyFrom 63 = .ok (.bipush 8, 2) ∧ decode cX4_copyFrom 65 = .ok (.invokestatic 28, 3) ∧ decode cX4_copyFrom 68 = .ok (.return_, 1) := by decide +kernel
theorem dX4_copyFrom_62 : decode cX4_copyFrom 62 = .ok (.iconst 0, 1) := dGX4_30.1
theorem dX4_copyFrom_63 : decode cX4_copyFrom 63 = .ok (.bipush 8, 2) := dGX4_30.2.1
theorem dX4_copyFrom_65 : decode cX4_copyFrom 65 = .ok (.invokestatic 28, 3) := dGX4_30.2.2.1
theorem dX4_copyFrom_68 : decode cX4_copyFrom 68 = .ok (.return_, 1) := dGX4_30.2.2.2
theorem dGX5_0 : decode cX5_init 0 = .ok (.aload_n 0, 1) ∧ decode cX5_init 1 = .ok (.invokespecial 3, 3) ∧ decode cX5_init 4 = .ok (.aload_n 0, 1) ∧ decode cX5_init 5 = .ok (.sipush 200, 3) ∧ decode cX5_init 8 = .ok (.newarray .int, 2) ∧ decode cX5_init 10 = .ok (.putfield 9, 3) := by decide +kernel
theorem dX5_init_0 : decode cX5_init 0 = .ok (.aload_n 0, 1) := dGX5_0.1
theorem dX5_init_1 : decode cX5_init 1 = .ok (.invokespecial 3, 3) := dGX5_0.2.1
theorem dX5_init_4 : decode cX5_init 4 = .ok (.aload_n 0, 1) := dGX5_0.2.2.1
theorem dX5_init_5 : decode cX5_init 5 = .ok (.sipush 200, 3) := dGX5_0.2.2.2.1
theorem dX5_init_8 : decode cX5_init 8 = .ok (.newarray .int, 2) := dGX5_0.2.2.2.2.1
theorem dX5_init_10 : decode cX5_init 10 = .ok (.putfield 9, 3) := dGX5_0.2.2.2.2.2
theorem dGX5_1 : decode cX5_init 13 = .ok (.aload_n 0, 1) ∧ decode cX5_init 14 = .ok (.iconst 0, 1) ∧ decode cX5_init 15 = .ok (.putfield 15, 3) ∧ decode cX5_init 18 = .ok (.aload_n 0, 1) ∧ decode cX5_init 19 = .ok (.iconst 0, 1) ∧ decode cX5_init 20 = .ok (.putfield 19, 3) := by decide +kernel
theorem dX5_init_13 : decode cX5_init 13 = .ok (.aload_n 0, 1) := dGX5_1.1
theorem dX5_init_14 : decode cX5_init 14 = .ok (.iconst 0, 1) := dGX5_1.2.1
theorem dX5_init_15 : decode cX5_init 15 = .ok (.putfield 15, 3) := dGX5_1.2.2.1
theorem dX5_init_18 : decode cX5_init 18 = .ok (.aload_n 0, 1) := dGX5_1.2.2.2.1
theorem dX5_init_19 : decode cX5_init 19 = .ok (.iconst 0, 1) := dGX5_1.2.2.2.2.1
theorem dX5_init_20 : decode cX5_init 20 = .ok (.putfield 19, 3) := dGX5_1.2.2.2.2.2
theorem dGX5_2 : decode cX5_init 23 = .ok (.aload_n 0, 1) ∧ decode cX5_init 24 = .ok (.iconst 0, 1) ∧ decode cX5_init 25 = .ok (.putfield 22, 3) ∧ decode cX5_init 28 = .ok (.aload_n 0, 1) ∧ decode cX5_init 29 = .ok (.iconst 0, 1) ∧ decode cX5_init 30 = .ok (.putfield 25, 3) := by decide +kernel
theorem dX5_init_23 : decode cX5_init 23 = .ok (.aload_n 0, 1) := dGX5_2.1
theorem dX5_init_24 : decode cX5_init 24 = .ok (.iconst 0, 1) := dGX5_2.2.1
theorem dX5_init_25 : decode cX5_init 25 = .ok (.putfield 22, 3) := dGX5_2.2.2.1
theorem dX5_init_28 : decode cX5_init 28 = .ok (.aload_n 0, 1) := dGX5_2.2.2.2.1
theorem dX5_init_29 : decode cX5_init 29 = .ok (.iconst 0, 1) := dGX5_2.2.2.2.2.1
theorem dX5_init_30 : decode cX5_init 30 = .ok (.putfield 25, 3) := dGX5_2.2.2.2.2.2
theorem dGX5_3 : decode cX5_init 33 = .ok (.return_, 1) ∧ decode cX5_readLaw 0 = .ok (.aload_n 0, 1) ∧ decode cX5_readLaw 1 = .ok (.iload_n 2, 1) ∧ decode cX5_readLaw 2 = .ok (.sipush 200, 3) ∧ decode cX5_readLaw 5 = .ok (.invokestatic 28, 3) ∧ decode cX5_readLaw 8 = .ok (.putfield 15, 3) := by decide +kernel
theorem dX5_init_33 : decode cX5_init 33 = .ok (.return_, 1) := dGX5_3.1
theorem dX5_readLaw_0 : decode cX5_readLaw 0 = .ok (.aload_n 0, 1) := dGX5_3.2.1
theorem dX5_readLaw_1 : decode cX5_readLaw 1 = .ok (.iload_n 2, 1) := dGX5_3.2.2.1
theorem dX5_readLaw_2 : decode cX5_readLaw 2 = .ok (.sipush 200, 3) := dGX5_3.2.2.2.1
theorem dX5_readLaw_5 : decode cX5_readLaw 5 = .ok (.invokestatic 28, 3) := dGX5_3.2.2.2.2.1
theorem dX5_readLaw_8 : decode cX5_readLaw 8 = .ok (.putfield 15, 3) := dGX5_3.2.2.2.2.2
theorem dGX5_4 : decode cX5_readLaw 11 = .ok (.iconst 0, 1) ∧ decode cX5_readLaw 12 = .ok (.istore 4, 2) ∧ decode cX5_readLaw 14 = .ok (.iload 4, 2) ∧ decode cX5_readLaw 16 = .ok (.aload_n 0, 1) ∧ decode cX5_readLaw 17 = .ok (.getfield 15, 3) ∧ decode cX5_readLaw 20 = .ok (.if_icmp .ge 22, 3) := by decide +kernel
theorem dX5_readLaw_11 : decode cX5_readLaw 11 = .ok (.iconst 0, 1) := dGX5_4.1
theorem dX5_readLaw_12 : decode cX5_readLaw 12 = .ok (.istore 4, 2) := dGX5_4.2.1
theorem dX5_readLaw_14 : decode cX5_readLaw 14 = .ok (.iload 4, 2) := dGX5_4.2.2.1
theorem dX5_readLaw_16 : decode cX5_readLaw 16 = .ok (.aload_n 0, 1) := dGX5_4.2.2.2.1
theorem dX5_readLaw_17 : decode cX5_readLaw 17 = .ok (.getfield 15, 3) := dGX5_4.2.2.2.2.1
theorem dX5_readLaw_20 : decode cX5_readLaw 20 = .ok (.if_icmp .ge 22, 3) := dGX5_4.2.2.2.2.2
theorem dGX5_5 : decode cX5_readLaw 23 = .ok (.aload_n 0, 1) ∧ decode cX5_readLaw 24 = .ok (.getfield 9, 3) ∧ decode cX5_readLaw 27 = .ok (.iload 4, 2) ∧ decode cX5_readLaw 29 = .ok (.aload_n 1, 1) ∧ decode cX5_readLaw 30 = .ok (.iload 4, 2) ∧ decode cX5_readLaw 32 = .ok (.invokevirtual 34, 3) := by decide +kernel
theorem dX5_readLaw_23 : decode cX5_readLaw 23 = .ok (.aload_n 0, 1) := dGX5_5.1
theorem dX5_readLaw_24 : decode cX5_readLaw 24 = .ok (.getfield 9, 3) := dGX5_5.2.1
theorem dX5_readLaw_27 : decode cX5_readLaw 27 = .ok (.iload 4, 2) := dGX5_5.2.2.1
theorem dX5_readLaw_29 : decode cX5_readLaw 29 = .ok (.aload_n 1, 1) := dGX5_5.2.2.2.1
theorem dX5_readLaw_30 : decode cX5_readLaw 30 = .ok (.iload 4, 2) := dGX5_5.2.2.2.2.1
theorem dX5_readLaw_32 : decode cX5_readLaw 32 = .ok (.invokevirtual 34, 3) := dGX5_5.2.2.2.2.2
theorem dGX5_6 : decode cX5_readLaw 35 = .ok (.iastore, 1) ∧ decode cX5_readLaw 36 = .ok (.iinc 4 1, 3) ∧ decode cX5_readLaw 39 = .ok (.goto (-25), 3) ∧ decode cX5_readLaw 42 = .ok (.aload_n 0, 1) ∧ decode cX5_readLaw 43 = .ok (.iconst 0, 1) ∧ decode cX5_readLaw 44 = .ok (.putfield 19, 3) := by decide +kernel
theorem dX5_readLaw_35 : decode cX5_readLaw 35 = .ok (.iastore, 1) := dGX5_6.1
theorem dX5_readLaw_36 : decode cX5_readLaw 36 = .ok (.iinc 4 1, 3) := dGX5_6.2.1
theorem dX5_readLaw_39 : decode cX5_readLaw 39 = .ok (.goto (-25), 3) := dGX5_6.2.2.1
theorem dX5_readLaw_42 : decode cX5_readLaw 42 = .ok (.aload_n 0, 1) := dGX5_6.2.2.2.1
theorem dX5_readLaw_43 : decode cX5_readLaw 43 = .ok (.iconst 0, 1) := dGX5_6.2.2.2.2.1
theorem dX5_readLaw_44 : decode cX5_readLaw 44 = .ok (.putfield 19, 3) := dGX5_6.2.2.2.2.2
theorem dGX5_7 : decode cX5_readLaw 47 = .ok (.aload_n 0, 1) ∧ decode cX5_readLaw 48 = .ok (.iconst 0, 1) ∧ decode cX5_readLaw 49 = .ok (.putfield 22, 3) ∧ decode cX5_readLaw 52 = .ok (.aload_n 3, 1) ∧ decode cX5_readLaw 53 = .ok (.iconst 0, 1) ∧ decode cX5_readLaw 54 = .ok (.putfield 40, 3) := by decide +kernel
theorem dX5_readLaw_47 : decode cX5_readLaw 47 = .ok (.aload_n 0, 1) := dGX5_7.1
theorem dX5_readLaw_48 : decode cX5_readLaw 48 = .ok (.iconst 0, 1) := dGX5_7.2.1
theorem dX5_readLaw_49 : decode cX5_readLaw 49 = .ok (.putfield 22, 3) := dGX5_7.2.2.1
theorem dX5_readLaw_52 : decode cX5_readLaw 52 = .ok (.aload_n 3, 1) := dGX5_7.2.2.2.1
theorem dX5_readLaw_53 : decode cX5_readLaw 53 = .ok (.iconst 0, 1) := dGX5_7.2.2.2.2.1
theorem dX5_readLaw_54 : decode cX5_readLaw 54 = .ok (.putfield 40, 3) := dGX5_7.2.2.2.2.2
theorem dGX5_8 : decode cX5_readLaw 57 = .ok (.aload_n 3, 1) ∧ decode cX5_readLaw 58 = .ok (.iconst 0, 1) ∧ decode cX5_readLaw 59 = .ok (.putfield 45, 3) ∧ decode cX5_readLaw 62 = .ok (.aload_n 0, 1) ∧ decode cX5_readLaw 63 = .ok (.aload_n 3, 1) ∧ decode cX5_readLaw 64 = .ok (.invokevirtual 48, 3) := by decide +kernel
theorem dX5_readLaw_57 : decode cX5_readLaw 57 = .ok (.aload_n 3, 1) := dGX5_8.1
theorem dX5_readLaw_58 : decode cX5_readLaw 58 = .ok (.iconst 0, 1) := dGX5_8.2.1
theorem dX5_readLaw_59 : decode cX5_readLaw 59 = .ok (.putfield 45, 3) := dGX5_8.2.2.1
theorem dX5_readLaw_62 : decode cX5_readLaw 62 = .ok (.aload_n 0, 1) := dGX5_8.2.2.2.1
theorem dX5_readLaw_63 : decode cX5_readLaw 63 = .ok (.aload_n 3, 1) := dGX5_8.2.2.2.2.1
theorem dX5_readLaw_64 : decode cX5_readLaw 64 = .ok (.invokevirtual 48, 3) := dGX5_8.2.2.2.2.2
theorem dGX5_9 : decode cX5_readLaw 67 = .ok (.iconst 0, 1) ∧ decode cX5_readLaw 68 = .ok (.istore 4, 2) ∧ decode cX5_readLaw 70 = .ok (.iload 4, 2) ∧ decode cX5_readLaw 72 = .ok (.sipush 200, 3) ∧ decode cX5_readLaw 75 = .ok (.if_icmp .ge 38, 3) ∧ decode cX5_readLaw 78 = .ok (.aload_n 0, 1) := by decide +kernel
theorem dX5_readLaw_67 : decode cX5_readLaw 67 = .ok (.iconst 0, 1) := dGX5_9.1
theorem dX5_readLaw_68 : decode cX5_readLaw 68 = .ok (.istore 4, 2) := dGX5_9.2.1
theorem dX5_readLaw_70 : decode cX5_readLaw 70 = .ok (.iload 4, 2) := dGX5_9.2.2.1
theorem dX5_readLaw_72 : decode cX5_readLaw 72 = .ok (.sipush 200, 3) := dGX5_9.2.2.2.1
theorem dX5_readLaw_75 : decode cX5_readLaw 75 = .ok (.if_icmp .ge 38, 3) := dGX5_9.2.2.2.2.1
theorem dX5_readLaw_78 : decode cX5_readLaw 78 = .ok (.aload_n 0, 1) := dGX5_9.2.2.2.2.2
theorem dGX5_10 : decode cX5_readLaw 79 = .ok (.getfield 22, 3) ∧ decode cX5_readLaw 82 = .ok (.ifCond .ne 31, 3) ∧ decode cX5_readLaw 85 = .ok (.aload_n 0, 1) ∧ decode cX5_readLaw 86 = .ok (.getfield 19, 3) ∧ decode cX5_readLaw 89 = .ok (.aload_n 0, 1) ∧ decode cX5_readLaw 90 = .ok (.getfield 15, 3) := by decide +kernel
theorem dX5_readLaw_79 : decode cX5_readLaw 79 = .ok (.getfield 22, 3) := dGX5_10.1
theorem dX5_readLaw_82 : decode cX5_readLaw 82 = .ok (.ifCond .ne 31, 3) := dGX5_10.2.1
theorem dX5_readLaw_85 : decode cX5_readLaw 85 = .ok (.aload_n 0, 1) := dGX5_10.2.2.1
theorem dX5_readLaw_86 : decode cX5_readLaw 86 = .ok (.getfield 19, 3) := dGX5_10.2.2.2.1
theorem dX5_readLaw_89 : decode cX5_readLaw 89 = .ok (.aload_n 0, 1) := dGX5_10.2.2.2.2.1
theorem dX5_readLaw_90 : decode cX5_readLaw 90 = .ok (.getfield 15, 3) := dGX5_10.2.2.2.2.2
theorem dGX5_11 : decode cX5_readLaw 93 = .ok (.if_icmp .ge 20, 3) ∧ decode cX5_readLaw 96 = .ok (.aload_n 0, 1) ∧ decode cX5_readLaw 97 = .ok (.bipush 59, 2) ∧ decode cX5_readLaw 99 = .ok (.invokevirtual 52, 3) ∧ decode cX5_readLaw 102 = .ok (.aload_n 0, 1) ∧ decode cX5_readLaw 103 = .ok (.aload_n 3, 1) := by decide +kernel
theorem dX5_readLaw_93 : decode cX5_readLaw 93 = .ok (.if_icmp .ge 20, 3) := dGX5_11.1
theorem dX5_readLaw_96 : decode cX5_readLaw 96 = .ok (.aload_n 0, 1) := dGX5_11.2.1
theorem dX5_readLaw_97 : decode cX5_readLaw 97 = .ok (.bipush 59, 2) := dGX5_11.2.2.1
theorem dX5_readLaw_99 : decode cX5_readLaw 99 = .ok (.invokevirtual 52, 3) := dGX5_11.2.2.2.1
theorem dX5_readLaw_102 : decode cX5_readLaw 102 = .ok (.aload_n 0, 1) := dGX5_11.2.2.2.2.1
theorem dX5_readLaw_103 : decode cX5_readLaw 103 = .ok (.aload_n 3, 1) := dGX5_11.2.2.2.2.2
theorem dGX5_12 : decode cX5_readLaw 104 = .ok (.invokevirtual 48, 3) ∧ decode cX5_readLaw 107 = .ok (.iinc 4 1, 3) ∧ decode cX5_readLaw 110 = .ok (.goto (-40), 3) ∧ decode cX5_readLaw 113 = .ok (.aload_n 0, 1) ∧ decode cX5_readLaw 114 = .ok (.getfield 22, 3) ∧ decode cX5_readLaw 117 = .ok (.ifCond .ne 10, 3) := by decide +kernel
theorem dX5_readLaw_104 : decode cX5_readLaw 104 = .ok (.invokevirtual 48, 3) := dGX5_12.1
theorem dX5_readLaw_107 : decode cX5_readLaw 107 = .ok (.iinc 4 1, 3) := dGX5_12.2.1
theorem dX5_readLaw_110 : decode cX5_readLaw 110 = .ok (.goto (-40), 3) := dGX5_12.2.2.1
theorem dX5_readLaw_113 : decode cX5_readLaw 113 = .ok (.aload_n 0, 1) := dGX5_12.2.2.2.1
theorem dX5_readLaw_114 : decode cX5_readLaw 114 = .ok (.getfield 22, 3) := dGX5_12.2.2.2.2.1
theorem dX5_readLaw_117 : decode cX5_readLaw 117 = .ok (.ifCond .ne 10, 3) := dGX5_12.2.2.2.2.2
theorem dGX5_13 : decode cX5_readLaw 120 = .ok (.aload_n 3, 1) ∧ decode cX5_readLaw 121 = .ok (.getfield 40, 3) ∧ decode cX5_readLaw 124 = .ok (.goto 16, 3) ∧ decode cX5_readLaw 127 = .ok (.sipush (-1000), 3) ∧ decode cX5_readLaw 130 = .ok (.aload_n 0, 1) ∧ decode cX5_readLaw 131 = .ok (.getfield 22, 3) := by decide +kernel
theorem dX5_readLaw_120 : decode cX5_readLaw 120 = .ok (.aload_n 3, 1) := dGX5_13.1
theorem dX5_readLaw_121 : decode cX5_readLaw 121 = .ok (.getfield 40, 3) := dGX5_13.2.1
theorem dX5_readLaw_124 : decode cX5_readLaw 124 = .ok (.goto 16, 3) := dGX5_13.2.2.1
theorem dX5_readLaw_127 : decode cX5_readLaw 127 = .ok (.sipush (-1000), 3) := dGX5_13.2.2.2.1
theorem dX5_readLaw_130 : decode cX5_readLaw 130 = .ok (.aload_n 0, 1) := dGX5_13.2.2.2.2.1
theorem dX5_readLaw_131 : decode cX5_readLaw 131 = .ok (.getfield 22, 3) := dGX5_13.2.2.2.2.2
theorem dGX5_14 : decode cX5_readLaw 134 = .ok (.imul, 1) ∧ decode cX5_readLaw 135 = .ok (.aload_n 0, 1) ∧ decode cX5_readLaw 136 = .ok (.getfield 25, 3) ∧ decode cX5_readLaw 139 = .ok (.isub, 1) ∧ decode cX5_readLaw 140 = .ok (.ireturn, 1) ∧ decode cX5_sign 0 = .ok (.aload_n 0, 1) := by decide +kernel
theorem dX5_readLaw_134 : decode cX5_readLaw 134 = .ok (.imul, 1) := dGX5_14.1
theorem dX5_readLaw_135 : decode cX5_readLaw 135 = .ok (.aload_n 0, 1) := dGX5_14.2.1
theorem dX5_readLaw_136 : decode cX5_readLaw 136 = .ok (.getfield 25, 3) := dGX5_14.2.2.1
theorem dX5_readLaw_139 : decode cX5_readLaw 139 = .ok (.isub, 1) := dGX5_14.2.2.2.1
theorem dX5_readLaw_140 : decode cX5_readLaw 140 = .ok (.ireturn, 1) := dGX5_14.2.2.2.2.1
theorem dX5_sign_0 : decode cX5_sign 0 = .ok (.aload_n 0, 1) := dGX5_14.2.2.2.2.2
theorem dGX5_15 : decode cX5_sign 1 = .ok (.getfield 19, 3) ∧ decode cX5_sign 4 = .ok (.ifCond .lt 27, 3) ∧ decode cX5_sign 7 = .ok (.aload_n 0, 1) ∧ decode cX5_sign 8 = .ok (.getfield 19, 3) ∧ decode cX5_sign 11 = .ok (.aload_n 0, 1) ∧ decode cX5_sign 12 = .ok (.getfield 15, 3) := by decide +kernel
theorem dX5_sign_1 : decode cX5_sign 1 = .ok (.getfield 19, 3) := dGX5_15.1
theorem dX5_sign_4 : decode cX5_sign 4 = .ok (.ifCond .lt 27, 3) := dGX5_15.2.1
theorem dX5_sign_7 : decode cX5_sign 7 = .ok (.aload_n 0, 1) := dGX5_15.2.2.1
theorem dX5_sign_8 : decode cX5_sign 8 = .ok (.getfield 19, 3) := dGX5_15.2.2.2.1
theorem dX5_sign_11 : decode cX5_sign 11 = .ok (.aload_n 0, 1) := dGX5_15.2.2.2.2.1
theorem dX5_sign_12 : decode cX5_sign 12 = .ok (.getfield 15, 3) := dGX5_15.2.2.2.2.2
theorem dGX5_16 : decode cX5_sign 15 = .ok (.if_icmp .ge 16, 3) ∧ decode cX5_sign 18 = .ok (.aload_n 0, 1) ∧ decode cX5_sign 19 = .ok (.getfield 9, 3) ∧ decode cX5_sign 22 = .ok (.aload_n 0, 1) ∧ decode cX5_sign 23 = .ok (.getfield 19, 3) ∧ decode cX5_sign 26 = .ok (.iaload, 1) := by decide +kernel
theorem dX5_sign_15 : decode cX5_sign 15 = .ok (.if_icmp .ge 16, 3) := dGX5_16.1
theorem dX5_sign_18 : decode cX5_sign 18 = .ok (.aload_n 0, 1) := dGX5_16.2.1
theorem dX5_sign_19 : decode cX5_sign 19 = .ok (.getfield 9, 3) := dGX5_16.2.2.1
theorem dX5_sign_22 : decode cX5_sign 22 = .ok (.aload_n 0, 1) := dGX5_16.2.2.2.1
theorem dX5_sign_23 : decode cX5_sign 23 = .ok (.getfield 19, 3) := dGX5_16.2.2.2.2.1
theorem dX5_sign_26 : decode cX5_sign 26 = .ok (.iaload, 1) := dGX5_16.2.2.2.2.2
theorem dGX5_17 : decode cX5_sign 27 = .ok (.i2c, 1) ∧ decode cX5_sign 28 = .ok (.goto 4, 3) ∧ decode cX5_sign 31 = .ok (.iconst 0, 1) ∧ decode cX5_sign 32 = .ok (.ireturn, 1) ∧ decode cX5_fail 0 = .ok (.aload_n 0, 1) ∧ decode cX5_fail 1 = .ok (.getfield 22, 3) := by decide +kernel
theorem dX5_sign_27 : decode cX5_sign 27 = .ok (.i2c, 1) := dGX5_17.1
theorem dX5_sign_28 : decode cX5_sign 28 = .ok (.goto 4, 3) := dGX5_17.2.1
theorem dX5_sign_31 : decode cX5_sign 31 = .ok (.iconst 0, 1) := dGX5_17.2.2.1
theorem dX5_sign_32 : decode cX5_sign 32 = .ok (.ireturn, 1) := dGX5_17.2.2.2.1
theorem dX5_fail_0 : decode cX5_fail 0 = .ok (.aload_n 0, 1) := dGX5_17.2.2.2.2.1
theorem dX5_fail_1 : decode cX5_fail 1 = .ok (.getfield 22, 3) := dGX5_17.2.2.2.2.2
theorem dGX5_18 : decode cX5_fail 4 = .ok (.ifCond .ne 16, 3) ∧ decode cX5_fail 7 = .ok (.aload_n 0, 1) ∧ decode cX5_fail 8 = .ok (.iload_n 1, 1) ∧ decode cX5_fail 9 = .ok (.putfield 22, 3) ∧ decode cX5_fail 12 = .ok (.aload_n 0, 1) ∧ decode cX5_fail 13 = .ok (.aload_n 0, 1) := by decide +kernel
theorem dX5_fail_4 : decode cX5_fail 4 = .ok (.ifCond .ne 16, 3) := dGX5_18.1
theorem dX5_fail_7 : decode cX5_fail 7 = .ok (.aload_n 0, 1) := dGX5_18.2.1
theorem dX5_fail_8 : decode cX5_fail 8 = .ok (.iload_n 1, 1) := dGX5_18.2.2.1
theorem dX5_fail_9 : decode cX5_fail 9 = .ok (.putfield 22, 3) := dGX5_18.2.2.2.1
theorem dX5_fail_12 : decode cX5_fail 12 = .ok (.aload_n 0, 1) := dGX5_18.2.2.2.2.1
theorem dX5_fail_13 : decode cX5_fail 13 = .ok (.aload_n 0, 1) := dGX5_18.2.2.2.2.2
theorem dGX5_19 : decode cX5_fail 14 = .ok (.getfield 19, 3) ∧ decode cX5_fail 17 = .ok (.putfield 25, 3) ∧ decode cX5_fail 20 = .ok (.return_, 1) ∧ decode cX5_expect 0 = .ok (.aload_n 0, 1) ∧ decode cX5_expect 1 = .ok (.getfield 22, 3) ∧ decode cX5_expect 4 = .ok (.ifCond .ne 24, 3) := by decide +kernel
theorem dX5_fail_14 : decode cX5_fail 14 = .ok (.getfield 19, 3) := dGX5_19.1
theorem dX5_fail_17 : decode cX5_fail 17 = .ok (.putfield 25, 3) := dGX5_19.2.1
theorem dX5_fail_20 : decode cX5_fail 20 = .ok (.return_, 1) := dGX5_19.2.2.1
theorem dX5_expect_0 : decode cX5_expect 0 = .ok (.aload_n 0, 1) := dGX5_19.2.2.2.1
theorem dX5_expect_1 : decode cX5_expect 1 = .ok (.getfield 22, 3) := dGX5_19.2.2.2.2.1
theorem dX5_expect_4 : decode cX5_expect 4 = .ok (.ifCond .ne 24, 3) := dGX5_19.2.2.2.2.2
theorem dGX5_20 : decode cX5_expect 7 = .ok (.aload_n 0, 1) ∧ decode cX5_expect 8 = .ok (.invokevirtual 56, 3) ∧ decode cX5_expect 11 = .ok (.iload_n 1, 1) ∧ decode cX5_expect 12 = .ok (.if_icmp .ne 16, 3) ∧ decode cX5_expect 15 = .ok (.aload_n 0, 1) ∧ decode cX5_expect 16 = .ok (.dup, 1) := by decide +kernel
theorem dX5_expect_7 : decode cX5_expect 7 = .ok (.aload_n 0, 1) := dGX5_20.1
theorem dX5_expect_8 : decode cX5_expect 8 = .ok (.invokevirtual 56, 3) := dGX5_20.2.1
theorem dX5_expect_11 : decode cX5_expect 11 = .ok (.iload_n 1, 1) := dGX5_20.2.2.1
theorem dX5_expect_12 : decode cX5_expect 12 = .ok (.if_icmp .ne 16, 3) := dGX5_20.2.2.2.1
theorem dX5_expect_15 : decode cX5_expect 15 = .ok (.aload_n 0, 1) := dGX5_20.2.2.2.2.1
theorem dX5_expect_16 : decode cX5_expect 16 = .ok (.dup, 1) := dGX5_20.2.2.2.2.2
theorem dGX5_21 : decode cX5_expect 17 = .ok (.getfield 19, 3) ∧ decode cX5_expect 20 = .ok (.iconst 1, 1) ∧ decode cX5_expect 21 = .ok (.iadd, 1) ∧ decode cX5_expect 22 = .ok (.putfield 19, 3) ∧ decode cX5_expect 25 = .ok (.goto 8, 3) ∧ decode cX5_expect 28 = .ok (.aload_n 0, 1) := by decide +kernel
theorem dX5_expect_17 : decode cX5_expect 17 = .ok (.getfield 19, 3) := dGX5_21.1
theorem dX5_expect_20 : decode cX5_expect 20 = .ok (.iconst 1, 1) := dGX5_21.2.1
theorem dX5_expect_21 : decode cX5_expect 21 = .ok (.iadd, 1) := dGX5_21.2.2.1
theorem dX5_expect_22 : decode cX5_expect 22 = .ok (.putfield 19, 3) := dGX5_21.2.2.2.1
theorem dX5_expect_25 : decode cX5_expect 25 = .ok (.goto 8, 3) := dGX5_21.2.2.2.2.1
theorem dX5_expect_28 : decode cX5_expect 28 = .ok (.aload_n 0, 1) := dGX5_21.2.2.2.2.2
theorem dGX5_22 : decode cX5_expect 29 = .ok (.iconst 1, 1) ∧ decode cX5_expect 30 = .ok (.invokevirtual 60, 3) ∧ decode cX5_expect 33 = .ok (.return_, 1) ∧ decode cX5_readClause 0 = .ok (.aload_n 0, 1) ∧ decode cX5_readClause 1 = .ok (.invokevirtual 56, 3) ∧ decode cX5_readClause 4 = .ok (.istore_n 2, 1) := by decide +kernel
theorem dX5_expect_29 : decode cX5_expect 29 = .ok (.iconst 1, 1) := dGX5_22.1
theorem dX5_expect_30 : decode cX5_expect 30 = .ok (.invokevirtual 60, 3) := dGX5_22.2.1
theorem dX5_expect_33 : decode cX5_expect 33 = .ok (.return_, 1) := dGX5_22.2.2.1
theorem dX5_readClause_0 : decode cX5_readClause 0 = .ok (.aload_n 0, 1) := dGX5_22.2.2.2.1
theorem dX5_readClause_1 : decode cX5_readClause 1 = .ok (.invokevirtual 56, 3) := dGX5_22.2.2.2.2.1
theorem dX5_readClause_4 : decode cX5_readClause 4 = .ok (.istore_n 2, 1) := dGX5_22.2.2.2.2.2
theorem dGX5_23 : decode cX5_readClause 5 = .ok (.aload_n 0, 1) ∧ decode cX5_readClause 6 = .ok (.getfield 22, 3) ∧ decode cX5_readClause 9 = .ok (.ifCond .ne 26, 3) ∧ decode cX5_readClause 12 = .ok (.ldc 64, 2) ∧ decode cX5_readClause 14 = .ok (.iload_n 2, 1) ∧ decode cX5_readClause 15 = .ok (.invokevirtual 66, 3) := by decide +kernel
theorem dX5_readClause_5 : decode cX5_readClause 5 = .ok (.aload_n 0, 1) := dGX5_23.1
theorem dX5_readClause_6 : decode cX5_readClause 6 = .ok (.getfield 22, 3) := dGX5_23.2.1
theorem dX5_readClause_9 : decode cX5_readClause 9 = .ok (.ifCond .ne 26, 3) := dGX5_23.2.2.1
theorem dX5_readClause_12 : decode cX5_readClause 12 = .ok (.ldc 64, 2) := dGX5_23.2.2.2.1
theorem dX5_readClause_14 : decode cX5_readClause 14 = .ok (.iload_n 2, 1) := dGX5_23.2.2.2.2.1
theorem dX5_readClause_15 : decode cX5_readClause 15 = .ok (.invokevirtual 66, 3) := dGX5_23.2.2.2.2.2
theorem dGX5_24 : decode cX5_readClause 18 = .ok (.ifCond .lt 17, 3) ∧ decode cX5_readClause 21 = .ok (.aload_n 1, 1) ∧ decode cX5_readClause 22 = .ok (.getfield 40, 3) ∧ decode cX5_readClause 25 = .ok (.bipush 14, 2) ∧ decode cX5_readClause 27 = .ok (.if_icmp .lt 8, 3) ∧ decode cX5_readClause 30 = .ok (.aload_n 0, 1) := by decide +kernel
theorem dX5_readClause_18 : decode cX5_readClause 18 = .ok (.ifCond .lt 17, 3) := dGX5_24.1
theorem dX5_readClause_21 : decode cX5_readClause 21 = .ok (.aload_n 1, 1) := dGX5_24.2.1
theorem dX5_readClause_22 : decode cX5_readClause 22 = .ok (.getfield 40, 3) := dGX5_24.2.2.1
theorem dX5_readClause_25 : decode cX5_readClause 25 = .ok (.bipush 14, 2) := dGX5_24.2.2.2.1
theorem dX5_readClause_27 : decode cX5_readClause 27 = .ok (.if_icmp .lt 8, 3) := dGX5_24.2.2.2.2.1
theorem dX5_readClause_30 : decode cX5_readClause 30 = .ok (.aload_n 0, 1) := dGX5_24.2.2.2.2.2
theorem dGX5_25 : decode cX5_readClause 31 = .ok (.iconst 4, 1) ∧ decode cX5_readClause 32 = .ok (.invokevirtual 60, 3) ∧ decode cX5_readClause 35 = .ok (.ldc 64, 2) ∧ decode cX5_readClause 37 = .ok (.iload_n 2, 1) ∧ decode cX5_readClause 38 = .ok (.invokevirtual 66, 3) ∧ decode cX5_readClause 41 = .ok (.ifCond .ge 8, 3) := by decide +kernel
theorem dX5_readClause_31 : decode cX5_readClause 31 = .ok (.iconst 4, 1) := dGX5_25.1
theorem dX5_readClause_32 : decode cX5_readClause 32 = .ok (.invokevirtual 60, 3) := dGX5_25.2.1
theorem dX5_readClause_35 : decode cX5_readClause 35 = .ok (.ldc 64, 2) := dGX5_25.2.2.1
theorem dX5_readClause_37 : decode cX5_readClause 37 = .ok (.iload_n 2, 1) := dGX5_25.2.2.2.1
theorem dX5_readClause_38 : decode cX5_readClause 38 = .ok (.invokevirtual 66, 3) := dGX5_25.2.2.2.2.1
theorem dX5_readClause_41 : decode cX5_readClause 41 = .ok (.ifCond .ge 8, 3) := dGX5_25.2.2.2.2.2
theorem dGX5_26 : decode cX5_readClause 44 = .ok (.aload_n 0, 1) ∧ decode cX5_readClause 45 = .ok (.iconst 1, 1) ∧ decode cX5_readClause 46 = .ok (.invokevirtual 60, 3) ∧ decode cX5_readClause 49 = .ok (.aload_n 0, 1) ∧ decode cX5_readClause 50 = .ok (.getfield 22, 3) ∧ decode cX5_readClause 53 = .ok (.ifCond .eq 4, 3) := by decide +kernel
theorem dX5_readClause_44 : decode cX5_readClause 44 = .ok (.aload_n 0, 1) := dGX5_26.1
theorem dX5_readClause_45 : decode cX5_readClause 45 = .ok (.iconst 1, 1) := dGX5_26.2.1
theorem dX5_readClause_46 : decode cX5_readClause 46 = .ok (.invokevirtual 60, 3) := dGX5_26.2.2.1
theorem dX5_readClause_49 : decode cX5_readClause 49 = .ok (.aload_n 0, 1) := dGX5_26.2.2.2.1
theorem dX5_readClause_50 : decode cX5_readClause 50 = .ok (.getfield 22, 3) := dGX5_26.2.2.2.2.1
theorem dX5_readClause_53 : decode cX5_readClause 53 = .ok (.ifCond .eq 4, 3) := dGX5_26.2.2.2.2.2
theorem dGX5_27 : decode cX5_readClause 56 = .ok (.return_, 1) ∧ decode cX5_readClause 57 = .ok (.aload_n 0, 1) ∧ decode cX5_readClause 58 = .ok (.dup, 1) ∧ decode cX5_readClause 59 = .ok (.getfield 19, 3) ∧ decode cX5_readClause 62 = .ok (.iconst 1, 1) ∧ decode cX5_readClause 63 = .ok (.iadd, 1) := by decide +kernel
theorem dX5_readClause_56 : decode cX5_readClause 56 = .ok (.return_, 1) := dGX5_27.1
theorem dX5_readClause_57 : decode cX5_readClause 57 = .ok (.aload_n 0, 1) := dGX5_27.2.1
theorem dX5_readClause_58 : decode cX5_readClause 58 = .ok (.dup, 1) := dGX5_27.2.2.1
theorem dX5_readClause_59 : decode cX5_readClause 59 = .ok (.getfield 19, 3) := dGX5_27.2.2.2.1
theorem dX5_readClause_62 : decode cX5_readClause 62 = .ok (.iconst 1, 1) := dGX5_27.2.2.2.2.1
theorem dX5_readClause_63 : decode cX5_readClause 63 = .ok (.iadd, 1) := dGX5_27.2.2.2.2.2
theorem dGX5_28 : decode cX5_readClause 64 = .ok (.putfield 19, 3) ∧ decode cX5_readClause 67 = .ok (.aload_n 1, 1) ∧ decode cX5_readClause 68 = .ok (.iload_n 2, 1) ∧ decode cX5_readClause 69 = .ok (.invokevirtual 71, 3) ∧ decode cX5_readClause 72 = .ok (.aload_n 0, 1) ∧ decode cX5_readClause 73 = .ok (.aload_n 1, 1) := by decide +kernel
theorem dX5_readClause_64 : decode cX5_readClause 64 = .ok (.putfield 19, 3) := dGX5_28.1
theorem dX5_readClause_67 : decode cX5_readClause 67 = .ok (.aload_n 1, 1) := dGX5_28.2.1
theorem dX5_readClause_68 : decode cX5_readClause 68 = .ok (.iload_n 2, 1) := dGX5_28.2.2.1
theorem dX5_readClause_69 : decode cX5_readClause 69 = .ok (.invokevirtual 71, 3) := dGX5_28.2.2.2.1
theorem dX5_readClause_72 : decode cX5_readClause 72 = .ok (.aload_n 0, 1) := dGX5_28.2.2.2.2.1
theorem dX5_readClause_73 : decode cX5_readClause 73 = .ok (.aload_n 1, 1) := dGX5_28.2.2.2.2.2
theorem dGX5_29 : decode cX5_readClause 74 = .ok (.iconst 0, 1) ∧ decode cX5_readClause 75 = .ok (.invokevirtual 74, 3) ∧ decode cX5_readClause 78 = .ok (.aload_n 1, 1) ∧ decode cX5_readClause 79 = .ok (.invokevirtual 78, 3) ∧ decode cX5_readClause 82 = .ok (.aload_n 0, 1) ∧ decode cX5_readClause 83 = .ok (.bipush 40, 2) := by decide +kernel
theorem dX5_readClause_74 : decode cX5_readClause 74 = .ok (.iconst 0, 1) := dGX5_29.1
theorem dX5_readClause_75 : decode cX5_readClause 75 = .ok (.invokevirtual 74, 3) := dGX5_29.2.1
theorem dX5_readClause_78 : decode cX5_readClause 78 = .ok (.aload_n 1, 1) := dGX5_29.2.2.1
theorem dX5_readClause_79 : decode cX5_readClause 79 = .ok (.invokevirtual 78, 3) := dGX5_29.2.2.2.1
theorem dX5_readClause_82 : decode cX5_readClause 82 = .ok (.aload_n 0, 1) := dGX5_29.2.2.2.2.1
theorem dX5_readClause_83 : decode cX5_readClause 83 = .ok (.bipush 40, 2) := dGX5_29.2.2.2.2.2
theorem dGX5_30 : decode cX5_readClause 85 = .ok (.invokevirtual 52, 3) ∧ decode cX5_readClause 88 = .ok (.aload_n 0, 1) ∧ decode cX5_readClause 89 = .ok (.aload_n 1, 1) ∧ decode cX5_readClause 90 = .ok (.iconst 1, 1) ∧ decode cX5_readClause 91 = .ok (.invokevirtual 81, 3) ∧ decode cX5_readClause 94 = .ok (.aload_n 0, 1) := by decide +kernel
theorem dX5_readClause_85 : decode cX5_readClause 85 = .ok (.invokevirtual 52, 3) := dGX5_30.1
theorem dX5_readClause_88 : decode cX5_readClause 88 = .ok (.aload_n 0, 1) := dGX5_30.2.1
theorem dX5_readClause_89 : decode cX5_readClause 89 = .ok (.aload_n 1, 1) := dGX5_30.2.2.1
theorem dX5_readClause_90 : decode cX5_readClause 90 = .ok (.iconst 1, 1) := dGX5_30.2.2.2.1
theorem dX5_readClause_91 : decode cX5_readClause 91 = .ok (.invokevirtual 81, 3) := dGX5_30.2.2.2.2.1
theorem dX5_readClause_94 : decode cX5_readClause 94 = .ok (.aload_n 0, 1) := dGX5_30.2.2.2.2.2
theorem dGX5_31 : decode cX5_readClause 95 = .ok (.bipush 41, 2) ∧ decode cX5_readClause 97 = .ok (.invokevirtual 52, 3) ∧ decode cX5_readClause 100 = .ok (.aload_n 1, 1) ∧ decode cX5_readClause 101 = .ok (.invokevirtual 84, 3) ∧ decode cX5_readClause 104 = .ok (.return_, 1) ∧ decode cX5_readCondition 0 = .ok (.aload_n 0, 1) := by decide +kernel
theorem dX5_readClause_95 : decode cX5_readClause 95 = .ok (.bipush 41, 2) := dGX5_31.1
theorem dX5_readClause_97 : decode cX5_readClause 97 = .ok (.invokevirtual 52, 3) := dGX5_31.2.1
theorem dX5_readClause_100 : decode cX5_readClause 100 = .ok (.aload_n 1, 1) := dGX5_31.2.2.1
theorem dX5_readClause_101 : decode cX5_readClause 101 = .ok (.invokevirtual 84, 3) := dGX5_31.2.2.2.1
theorem dX5_readClause_104 : decode cX5_readClause 104 = .ok (.return_, 1) := dGX5_31.2.2.2.2.1
theorem dX5_readCondition_0 : decode cX5_readCondition 0 = .ok (.aload_n 0, 1) := dGX5_31.2.2.2.2.2
theorem dGX5_32 : decode cX5_readCondition 1 = .ok (.aload_n 1, 1) ∧ decode cX5_readCondition 2 = .ok (.iload_n 2, 1) ∧ decode cX5_readCondition 3 = .ok (.invokevirtual 87, 3) ∧ decode cX5_readCondition 6 = .ok (.iconst (-1), 1) ∧ decode cX5_readCondition 7 = .ok (.istore_n 3, 1) ∧ decode cX5_readCondition 8 = .ok (.iconst 0, 1) := by decide +kernel
theorem dX5_readCondition_1 : decode cX5_readCondition 1 = .ok (.aload_n 1, 1) := dGX5_32.1
theorem dX5_readCondition_2 : decode cX5_readCondition 2 = .ok (.iload_n 2, 1) := dGX5_32.2.1
theorem dX5_readCondition_3 : decode cX5_readCondition 3 = .ok (.invokevirtual 87, 3) := dGX5_32.2.2.1
theorem dX5_readCondition_6 : decode cX5_readCondition 6 = .ok (.iconst (-1), 1) := dGX5_32.2.2.2.1
theorem dX5_readCondition_7 : decode cX5_readCondition 7 = .ok (.istore_n 3, 1) := dGX5_32.2.2.2.2.1
theorem dX5_readCondition_8 : decode cX5_readCondition 8 = .ok (.iconst 0, 1) := dGX5_32.2.2.2.2.2
theorem dGX5_33 : decode cX5_readCondition 9 = .ok (.istore 4, 2) ∧ decode cX5_readCondition 11 = .ok (.iload 4, 2) ∧ decode cX5_readCondition 13 = .ok (.sipush 200, 3) ∧ decode cX5_readCondition 16 = .ok (.if_icmp .ge 59, 3) ∧ decode cX5_readCondition 19 = .ok (.aload_n 0, 1) ∧ decode cX5_readCondition 20 = .ok (.getfield 22, 3) := by decide +kernel
theorem dX5_readCondition_9 : decode cX5_readCondition 9 = .ok (.istore 4, 2) := dGX5_33.1
theorem dX5_readCondition_11 : decode cX5_readCondition 11 = .ok (.iload 4, 2) := dGX5_33.2.1
theorem dX5_readCondition_13 : decode cX5_readCondition 13 = .ok (.sipush 200, 3) := dGX5_33.2.2.1
theorem dX5_readCondition_16 : decode cX5_readCondition 16 = .ok (.if_icmp .ge 59, 3) := dGX5_33.2.2.2.1
theorem dX5_readCondition_19 : decode cX5_readCondition 19 = .ok (.aload_n 0, 1) := dGX5_33.2.2.2.2.1
theorem dX5_readCondition_20 : decode cX5_readCondition 20 = .ok (.getfield 22, 3) := dGX5_33.2.2.2.2.2
theorem dGX5_34 : decode cX5_readCondition 23 = .ok (.ifCond .ne 52, 3) ∧ decode cX5_readCondition 26 = .ok (.aload_n 0, 1) ∧ decode cX5_readCondition 27 = .ok (.invokevirtual 56, 3) ∧ decode cX5_readCondition 30 = .ok (.bipush 124, 2) ∧ decode cX5_readCondition 32 = .ok (.if_icmp .ne 43, 3) ∧ decode cX5_readCondition 35 = .ok (.aload_n 0, 1) := by decide +kernel
theorem dX5_readCondition_23 : decode cX5_readCondition 23 = .ok (.ifCond .ne 52, 3) := dGX5_34.1
theorem dX5_readCondition_26 : decode cX5_readCondition 26 = .ok (.aload_n 0, 1) := dGX5_34.2.1
theorem dX5_readCondition_27 : decode cX5_readCondition 27 = .ok (.invokevirtual 56, 3) := dGX5_34.2.2.1
theorem dX5_readCondition_30 : decode cX5_readCondition 30 = .ok (.bipush 124, 2) := dGX5_34.2.2.2.1
theorem dX5_readCondition_32 : decode cX5_readCondition 32 = .ok (.if_icmp .ne 43, 3) := dGX5_34.2.2.2.2.1
theorem dX5_readCondition_35 : decode cX5_readCondition 35 = .ok (.aload_n 0, 1) := dGX5_34.2.2.2.2.2
theorem dGX5_35 : decode cX5_readCondition 36 = .ok (.dup, 1) ∧ decode cX5_readCondition 37 = .ok (.getfield 19, 3) ∧ decode cX5_readCondition 40 = .ok (.iconst 1, 1) ∧ decode cX5_readCondition 41 = .ok (.iadd, 1) ∧ decode cX5_readCondition 42 = .ok (.putfield 19, 3) ∧ decode cX5_readCondition 45 = .ok (.aload_n 1, 1) := by decide +kernel
theorem dX5_readCondition_36 : decode cX5_readCondition 36 = .ok (.dup, 1) := dGX5_35.1
theorem dX5_readCondition_37 : decode cX5_readCondition 37 = .ok (.getfield 19, 3) := dGX5_35.2.1
theorem dX5_readCondition_40 : decode cX5_readCondition 40 = .ok (.iconst 1, 1) := dGX5_35.2.2.1
theorem dX5_readCondition_41 : decode cX5_readCondition 41 = .ok (.iadd, 1) := dGX5_35.2.2.2.1
theorem dX5_readCondition_42 : decode cX5_readCondition 42 = .ok (.putfield 19, 3) := dGX5_35.2.2.2.2.1
theorem dX5_readCondition_45 : decode cX5_readCondition 45 = .ok (.aload_n 1, 1) := dGX5_35.2.2.2.2.2
theorem dGX5_36 : decode cX5_readCondition 46 = .ok (.iconst 3, 1) ∧ decode cX5_readCondition 47 = .ok (.iconst 0, 1) ∧ decode cX5_readCondition 48 = .ok (.invokevirtual 90, 3) ∧ decode cX5_readCondition 51 = .ok (.istore 5, 2) ∧ decode cX5_readCondition 53 = .ok (.aload_n 1, 1) ∧ decode cX5_readCondition 54 = .ok (.iload_n 3, 1) := by decide +kernel
theorem dX5_readCondition_46 : decode cX5_readCondition 46 = .ok (.iconst 3, 1) := dGX5_36.1
theorem dX5_readCondition_47 : decode cX5_readCondition 47 = .ok (.iconst 0, 1) := dGX5_36.2.1
theorem dX5_readCondition_48 : decode cX5_readCondition 48 = .ok (.invokevirtual 90, 3) := dGX5_36.2.2.1
theorem dX5_readCondition_51 : decode cX5_readCondition 51 = .ok (.istore 5, 2) := dGX5_36.2.2.2.1
theorem dX5_readCondition_53 : decode cX5_readCondition 53 = .ok (.aload_n 1, 1) := dGX5_36.2.2.2.2.1
theorem dX5_readCondition_54 : decode cX5_readCondition 54 = .ok (.iload_n 3, 1) := dGX5_36.2.2.2.2.2
theorem dGX5_37 : decode cX5_readCondition 55 = .ok (.iload 5, 2) ∧ decode cX5_readCondition 57 = .ok (.invokevirtual 93, 3) ∧ decode cX5_readCondition 60 = .ok (.iload 5, 2) ∧ decode cX5_readCondition 62 = .ok (.istore_n 3, 1) ∧ decode cX5_readCondition 63 = .ok (.aload_n 0, 1) ∧ decode cX5_readCondition 64 = .ok (.aload_n 1, 1) := by decide +kernel
theorem dX5_readCondition_55 : decode cX5_readCondition 55 = .ok (.iload 5, 2) := dGX5_37.1
theorem dX5_readCondition_57 : decode cX5_readCondition 57 = .ok (.invokevirtual 93, 3) := dGX5_37.2.1
theorem dX5_readCondition_60 : decode cX5_readCondition 60 = .ok (.iload 5, 2) := dGX5_37.2.2.1
theorem dX5_readCondition_62 : decode cX5_readCondition 62 = .ok (.istore_n 3, 1) := dGX5_37.2.2.2.1
theorem dX5_readCondition_63 : decode cX5_readCondition 63 = .ok (.aload_n 0, 1) := dGX5_37.2.2.2.2.1
theorem dX5_readCondition_64 : decode cX5_readCondition 64 = .ok (.aload_n 1, 1) := dGX5_37.2.2.2.2.2
theorem dGX5_38 : decode cX5_readCondition 65 = .ok (.iload_n 2, 1) ∧ decode cX5_readCondition 66 = .ok (.invokevirtual 87, 3) ∧ decode cX5_readCondition 69 = .ok (.iinc 4 1, 3) ∧ decode cX5_readCondition 72 = .ok (.goto (-61), 3) ∧ decode cX5_readCondition 75 = .ok (.aload_n 1, 1) ∧ decode cX5_readCondition 76 = .ok (.iload_n 3, 1) := by decide +kernel
theorem dX5_readCondition_65 : decode cX5_readCondition 65 = .ok (.iload_n 2, 1) := dGX5_38.1
theorem dX5_readCondition_66 : decode cX5_readCondition 66 = .ok (.invokevirtual 87, 3) := dGX5_38.2.1
theorem dX5_readCondition_69 : decode cX5_readCondition 69 = .ok (.iinc 4 1, 3) := dGX5_38.2.2.1
theorem dX5_readCondition_72 : decode cX5_readCondition 72 = .ok (.goto (-61), 3) := dGX5_38.2.2.2.1
theorem dX5_readCondition_75 : decode cX5_readCondition 75 = .ok (.aload_n 1, 1) := dGX5_38.2.2.2.2.1
theorem dX5_readCondition_76 : decode cX5_readCondition 76 = .ok (.iload_n 3, 1) := dGX5_38.2.2.2.2.2
theorem dGX5_39 : decode cX5_readCondition 77 = .ok (.aload_n 1, 1) ∧ decode cX5_readCondition 78 = .ok (.getfield 45, 3) ∧ decode cX5_readCondition 81 = .ok (.invokevirtual 93, 3) ∧ decode cX5_readCondition 84 = .ok (.return_, 1) ∧ decode cX5_readPart 0 = .ok (.aload_n 0, 1) ∧ decode cX5_readPart 1 = .ok (.aload_n 1, 1) := by decide +kernel
theorem dX5_readCondition_77 : decode cX5_readCondition 77 = .ok (.aload_n 1, 1) := dGX5_39.1
theorem dX5_readCondition_78 : decode cX5_readCondition 78 = .ok (.getfield 45, 3) := dGX5_39.2.1
theorem dX5_readCondition_81 : decode cX5_readCondition 81 = .ok (.invokevirtual 93, 3) := dGX5_39.2.2.1
theorem dX5_readCondition_84 : decode cX5_readCondition 84 = .ok (.return_, 1) := dGX5_39.2.2.2.1
theorem dX5_readPart_0 : decode cX5_readPart 0 = .ok (.aload_n 0, 1) := dGX5_39.2.2.2.2.1
theorem dX5_readPart_1 : decode cX5_readPart 1 = .ok (.aload_n 1, 1) := dGX5_39.2.2.2.2.2
theorem dGX5_40 : decode cX5_readPart 2 = .ok (.iload_n 2, 1) ∧ decode cX5_readPart 3 = .ok (.invokevirtual 97, 3) ∧ decode cX5_readPart 6 = .ok (.iconst (-1), 1) ∧ decode cX5_readPart 7 = .ok (.istore_n 3, 1) ∧ decode cX5_readPart 8 = .ok (.iconst 0, 1) ∧ decode cX5_readPart 9 = .ok (.istore 4, 2) := by decide +kernel
theorem dX5_readPart_2 : decode cX5_readPart 2 = .ok (.iload_n 2, 1) := dGX5_40.1
theorem dX5_readPart_3 : decode cX5_readPart 3 = .ok (.invokevirtual 97, 3) := dGX5_40.2.1
theorem dX5_readPart_6 : decode cX5_readPart 6 = .ok (.iconst (-1), 1) := dGX5_40.2.2.1
theorem dX5_readPart_7 : decode cX5_readPart 7 = .ok (.istore_n 3, 1) := dGX5_40.2.2.2.1
theorem dX5_readPart_8 : decode cX5_readPart 8 = .ok (.iconst 0, 1) := dGX5_40.2.2.2.2.1
theorem dX5_readPart_9 : decode cX5_readPart 9 = .ok (.istore 4, 2) := dGX5_40.2.2.2.2.2
theorem dGX5_41 : decode cX5_readPart 11 = .ok (.iload 4, 2) ∧ decode cX5_readPart 13 = .ok (.sipush 200, 3) ∧ decode cX5_readPart 16 = .ok (.if_icmp .ge 59, 3) ∧ decode cX5_readPart 19 = .ok (.aload_n 0, 1) ∧ decode cX5_readPart 20 = .ok (.getfield 22, 3) ∧ decode cX5_readPart 23 = .ok (.ifCond .ne 52, 3) := by decide +kernel
theorem dX5_readPart_11 : decode cX5_readPart 11 = .ok (.iload 4, 2) := dGX5_41.1
theorem dX5_readPart_13 : decode cX5_readPart 13 = .ok (.sipush 200, 3) := dGX5_41.2.1
theorem dX5_readPart_16 : decode cX5_readPart 16 = .ok (.if_icmp .ge 59, 3) := dGX5_41.2.2.1
theorem dX5_readPart_19 : decode cX5_readPart 19 = .ok (.aload_n 0, 1) := dGX5_41.2.2.2.1
theorem dX5_readPart_20 : decode cX5_readPart 20 = .ok (.getfield 22, 3) := dGX5_41.2.2.2.2.1
theorem dX5_readPart_23 : decode cX5_readPart 23 = .ok (.ifCond .ne 52, 3) := dGX5_41.2.2.2.2.2
theorem dGX5_42 : decode cX5_readPart 26 = .ok (.aload_n 0, 1) ∧ decode cX5_readPart 27 = .ok (.invokevirtual 56, 3) ∧ decode cX5_readPart 30 = .ok (.bipush 38, 2) ∧ decode cX5_readPart 32 = .ok (.if_icmp .ne 43, 3) ∧ decode cX5_readPart 35 = .ok (.aload_n 0, 1) ∧ decode cX5_readPart 36 = .ok (.dup, 1) := by decide +kernel
theorem dX5_readPart_26 : decode cX5_readPart 26 = .ok (.aload_n 0, 1) := dGX5_42.1
theorem dX5_readPart_27 : decode cX5_readPart 27 = .ok (.invokevirtual 56, 3) := dGX5_42.2.1
theorem dX5_readPart_30 : decode cX5_readPart 30 = .ok (.bipush 38, 2) := dGX5_42.2.2.1
theorem dX5_readPart_32 : decode cX5_readPart 32 = .ok (.if_icmp .ne 43, 3) := dGX5_42.2.2.2.1
theorem dX5_readPart_35 : decode cX5_readPart 35 = .ok (.aload_n 0, 1) := dGX5_42.2.2.2.2.1
theorem dX5_readPart_36 : decode cX5_readPart 36 = .ok (.dup, 1) := dGX5_42.2.2.2.2.2
theorem dGX5_43 : decode cX5_readPart 37 = .ok (.getfield 19, 3) ∧ decode cX5_readPart 40 = .ok (.iconst 1, 1) ∧ decode cX5_readPart 41 = .ok (.iadd, 1) ∧ decode cX5_readPart 42 = .ok (.putfield 19, 3) ∧ decode cX5_readPart 45 = .ok (.aload_n 1, 1) ∧ decode cX5_readPart 46 = .ok (.iconst 4, 1) := by decide +kernel
theorem dX5_readPart_37 : decode cX5_readPart 37 = .ok (.getfield 19, 3) := dGX5_43.1
theorem dX5_readPart_40 : decode cX5_readPart 40 = .ok (.iconst 1, 1) := dGX5_43.2.1
theorem dX5_readPart_41 : decode cX5_readPart 41 = .ok (.iadd, 1) := dGX5_43.2.2.1
theorem dX5_readPart_42 : decode cX5_readPart 42 = .ok (.putfield 19, 3) := dGX5_43.2.2.2.1
theorem dX5_readPart_45 : decode cX5_readPart 45 = .ok (.aload_n 1, 1) := dGX5_43.2.2.2.2.1
theorem dX5_readPart_46 : decode cX5_readPart 46 = .ok (.iconst 4, 1) := dGX5_43.2.2.2.2.2
theorem dGX5_44 : decode cX5_readPart 47 = .ok (.iconst 0, 1) ∧ decode cX5_readPart 48 = .ok (.invokevirtual 90, 3) ∧ decode cX5_readPart 51 = .ok (.istore 5, 2) ∧ decode cX5_readPart 53 = .ok (.aload_n 1, 1) ∧ decode cX5_readPart 54 = .ok (.iload_n 3, 1) ∧ decode cX5_readPart 55 = .ok (.iload 5, 2) := by decide +kernel
theorem dX5_readPart_47 : decode cX5_readPart 47 = .ok (.iconst 0, 1) := dGX5_44.1
theorem dX5_readPart_48 : decode cX5_readPart 48 = .ok (.invokevirtual 90, 3) := dGX5_44.2.1
theorem dX5_readPart_51 : decode cX5_readPart 51 = .ok (.istore 5, 2) := dGX5_44.2.2.1
theorem dX5_readPart_53 : decode cX5_readPart 53 = .ok (.aload_n 1, 1) := dGX5_44.2.2.2.1
theorem dX5_readPart_54 : decode cX5_readPart 54 = .ok (.iload_n 3, 1) := dGX5_44.2.2.2.2.1
theorem dX5_readPart_55 : decode cX5_readPart 55 = .ok (.iload 5, 2) := dGX5_44.2.2.2.2.2
theorem dGX5_45 : decode cX5_readPart 57 = .ok (.invokevirtual 93, 3) ∧ decode cX5_readPart 60 = .ok (.iload 5, 2) ∧ decode cX5_readPart 62 = .ok (.istore_n 3, 1) ∧ decode cX5_readPart 63 = .ok (.aload_n 0, 1) ∧ decode cX5_readPart 64 = .ok (.aload_n 1, 1) ∧ decode cX5_readPart 65 = .ok (.iload_n 2, 1) := by decide +kernel
theorem dX5_readPart_57 : decode cX5_readPart 57 = .ok (.invokevirtual 93, 3) := dGX5_45.1
theorem dX5_readPart_60 : decode cX5_readPart 60 = .ok (.iload 5, 2) := dGX5_45.2.1
theorem dX5_readPart_62 : decode cX5_readPart 62 = .ok (.istore_n 3, 1) := dGX5_45.2.2.1
theorem dX5_readPart_63 : decode cX5_readPart 63 = .ok (.aload_n 0, 1) := dGX5_45.2.2.2.1
theorem dX5_readPart_64 : decode cX5_readPart 64 = .ok (.aload_n 1, 1) := dGX5_45.2.2.2.2.1
theorem dX5_readPart_65 : decode cX5_readPart 65 = .ok (.iload_n 2, 1) := dGX5_45.2.2.2.2.2
theorem dGX5_46 : decode cX5_readPart 66 = .ok (.invokevirtual 97, 3) ∧ decode cX5_readPart 69 = .ok (.iinc 4 1, 3) ∧ decode cX5_readPart 72 = .ok (.goto (-61), 3) ∧ decode cX5_readPart 75 = .ok (.aload_n 1, 1) ∧ decode cX5_readPart 76 = .ok (.iload_n 3, 1) ∧ decode cX5_readPart 77 = .ok (.aload_n 1, 1) := by decide +kernel
theorem dX5_readPart_66 : decode cX5_readPart 66 = .ok (.invokevirtual 97, 3) := dGX5_46.1
theorem dX5_readPart_69 : decode cX5_readPart 69 = .ok (.iinc 4 1, 3) := dGX5_46.2.1
theorem dX5_readPart_72 : decode cX5_readPart 72 = .ok (.goto (-61), 3) := dGX5_46.2.2.1
theorem dX5_readPart_75 : decode cX5_readPart 75 = .ok (.aload_n 1, 1) := dGX5_46.2.2.2.1
theorem dX5_readPart_76 : decode cX5_readPart 76 = .ok (.iload_n 3, 1) := dGX5_46.2.2.2.2.1
theorem dX5_readPart_77 : decode cX5_readPart 77 = .ok (.aload_n 1, 1) := dGX5_46.2.2.2.2.2
theorem dGX5_47 : decode cX5_readPart 78 = .ok (.getfield 45, 3) ∧ decode cX5_readPart 81 = .ok (.invokevirtual 93, 3) ∧ decode cX5_readPart 84 = .ok (.return_, 1) ∧ decode cX5_readPiece 0 = .ok (.aload_n 0, 1) ∧ decode cX5_readPiece 1 = .ok (.getfield 22, 3) ∧ decode cX5_readPiece 4 = .ok (.ifCond .eq 4, 3) := by decide +kernel
theorem dX5_readPart_78 : decode cX5_readPart 78 = .ok (.getfield 45, 3) := dGX5_47.1
theorem dX5_readPart_81 : decode cX5_readPart 81 = .ok (.invokevirtual 93, 3) := dGX5_47.2.1
theorem dX5_readPart_84 : decode cX5_readPart 84 = .ok (.return_, 1) := dGX5_47.2.2.1
theorem dX5_readPiece_0 : decode cX5_readPiece 0 = .ok (.aload_n 0, 1) := dGX5_47.2.2.2.1
theorem dX5_readPiece_1 : decode cX5_readPiece 1 = .ok (.getfield 22, 3) := dGX5_47.2.2.2.2.1
theorem dX5_readPiece_4 : decode cX5_readPiece 4 = .ok (.ifCond .eq 4, 3) := dGX5_47.2.2.2.2.2
theorem dGX5_48 : decode cX5_readPiece 7 = .ok (.return_, 1) ∧ decode cX5_readPiece 8 = .ok (.iload_n 2, 1) ∧ decode cX5_readPiece 9 = .ok (.istore_n 3, 1) ∧ decode cX5_readPiece 10 = .ok (.iconst 0, 1) ∧ decode cX5_readPiece 11 = .ok (.istore 4, 2) ∧ decode cX5_readPiece 13 = .ok (.iload 4, 2) := by decide +kernel
theorem dX5_readPiece_7 : decode cX5_readPiece 7 = .ok (.return_, 1) := dGX5_48.1
theorem dX5_readPiece_8 : decode cX5_readPiece 8 = .ok (.iload_n 2, 1) := dGX5_48.2.1
theorem dX5_readPiece_9 : decode cX5_readPiece 9 = .ok (.istore_n 3, 1) := dGX5_48.2.2.1
theorem dX5_readPiece_10 : decode cX5_readPiece 10 = .ok (.iconst 0, 1) := dGX5_48.2.2.2.1
theorem dX5_readPiece_11 : decode cX5_readPiece 11 = .ok (.istore 4, 2) := dGX5_48.2.2.2.2.1
theorem dX5_readPiece_13 : decode cX5_readPiece 13 = .ok (.iload 4, 2) := dGX5_48.2.2.2.2.2
theorem dGX5_49 : decode cX5_readPiece 15 = .ok (.bipush 6, 2) ∧ decode cX5_readPiece 17 = .ok (.if_icmp .ge 37, 3) ∧ decode cX5_readPiece 20 = .ok (.iload_n 3, 1) ∧ decode cX5_readPiece 21 = .ok (.bipush 6, 2) ∧ decode cX5_readPiece 23 = .ok (.if_icmp .ge 31, 3) ∧ decode cX5_readPiece 26 = .ok (.aload_n 0, 1) := by decide +kernel
theorem dX5_readPiece_15 : decode cX5_readPiece 15 = .ok (.bipush 6, 2) := dGX5_49.1
theorem dX5_readPiece_17 : decode cX5_readPiece 17 = .ok (.if_icmp .ge 37, 3) := dGX5_49.2.1
theorem dX5_readPiece_20 : decode cX5_readPiece 20 = .ok (.iload_n 3, 1) := dGX5_49.2.2.1
theorem dX5_readPiece_21 : decode cX5_readPiece 21 = .ok (.bipush 6, 2) := dGX5_49.2.2.2.1
theorem dX5_readPiece_23 : decode cX5_readPiece 23 = .ok (.if_icmp .ge 31, 3) := dGX5_49.2.2.2.2.1
theorem dX5_readPiece_26 : decode cX5_readPiece 26 = .ok (.aload_n 0, 1) := dGX5_49.2.2.2.2.2
theorem dGX5_50 : decode cX5_readPiece 27 = .ok (.invokevirtual 56, 3) ∧ decode cX5_readPiece 30 = .ok (.bipush 33, 2) ∧ decode cX5_readPiece 32 = .ok (.if_icmp .ne 22, 3) ∧ decode cX5_readPiece 35 = .ok (.aload_n 0, 1) ∧ decode cX5_readPiece 36 = .ok (.dup, 1) ∧ decode cX5_readPiece 37 = .ok (.getfield 19, 3) := by decide +kernel
theorem dX5_readPiece_27 : decode cX5_readPiece 27 = .ok (.invokevirtual 56, 3) := dGX5_50.1
theorem dX5_readPiece_30 : decode cX5_readPiece 30 = .ok (.bipush 33, 2) := dGX5_50.2.1
theorem dX5_readPiece_32 : decode cX5_readPiece 32 = .ok (.if_icmp .ne 22, 3) := dGX5_50.2.2.1
theorem dX5_readPiece_35 : decode cX5_readPiece 35 = .ok (.aload_n 0, 1) := dGX5_50.2.2.2.1
theorem dX5_readPiece_36 : decode cX5_readPiece 36 = .ok (.dup, 1) := dGX5_50.2.2.2.2.1
theorem dX5_readPiece_37 : decode cX5_readPiece 37 = .ok (.getfield 19, 3) := dGX5_50.2.2.2.2.2
theorem dGX5_51 : decode cX5_readPiece 40 = .ok (.iconst 1, 1) ∧ decode cX5_readPiece 41 = .ok (.iadd, 1) ∧ decode cX5_readPiece 42 = .ok (.putfield 19, 3) ∧ decode cX5_readPiece 45 = .ok (.iinc 3 1, 3) ∧ decode cX5_readPiece 48 = .ok (.iinc 4 1, 3) ∧ decode cX5_readPiece 51 = .ok (.goto (-38), 3) := by decide +kernel
theorem dX5_readPiece_40 : decode cX5_readPiece 40 = .ok (.iconst 1, 1) := dGX5_51.1
theorem dX5_readPiece_41 : decode cX5_readPiece 41 = .ok (.iadd, 1) := dGX5_51.2.1
theorem dX5_readPiece_42 : decode cX5_readPiece 42 = .ok (.putfield 19, 3) := dGX5_51.2.2.1
theorem dX5_readPiece_45 : decode cX5_readPiece 45 = .ok (.iinc 3 1, 3) := dGX5_51.2.2.2.1
theorem dX5_readPiece_48 : decode cX5_readPiece 48 = .ok (.iinc 4 1, 3) := dGX5_51.2.2.2.2.1
theorem dX5_readPiece_51 : decode cX5_readPiece 51 = .ok (.goto (-38), 3) := dGX5_51.2.2.2.2.2
theorem dGX5_52 : decode cX5_readPiece 54 = .ok (.iload_n 3, 1) ∧ decode cX5_readPiece 55 = .ok (.bipush 6, 2) ∧ decode cX5_readPiece 57 = .ok (.if_icmp .lt 29, 3) ∧ decode cX5_readPiece 60 = .ok (.aload_n 0, 1) ∧ decode cX5_readPiece 61 = .ok (.invokevirtual 56, 3) ∧ decode cX5_readPiece 64 = .ok (.bipush 33, 2) := by decide +kernel
theorem dX5_readPiece_54 : decode cX5_readPiece 54 = .ok (.iload_n 3, 1) := dGX5_52.1
theorem dX5_readPiece_55 : decode cX5_readPiece 55 = .ok (.bipush 6, 2) := dGX5_52.2.1
theorem dX5_readPiece_57 : decode cX5_readPiece 57 = .ok (.if_icmp .lt 29, 3) := dGX5_52.2.2.1
theorem dX5_readPiece_60 : decode cX5_readPiece 60 = .ok (.aload_n 0, 1) := dGX5_52.2.2.2.1
theorem dX5_readPiece_61 : decode cX5_readPiece 61 = .ok (.invokevirtual 56, 3) := dGX5_52.2.2.2.2.1
theorem dX5_readPiece_64 : decode cX5_readPiece 64 = .ok (.bipush 33, 2) := dGX5_52.2.2.2.2.2
theorem dGX5_53 : decode cX5_readPiece 66 = .ok (.if_icmp .eq 12, 3) ∧ decode cX5_readPiece 69 = .ok (.aload_n 0, 1) ∧ decode cX5_readPiece 70 = .ok (.invokevirtual 56, 3) ∧ decode cX5_readPiece 73 = .ok (.bipush 40, 2) ∧ decode cX5_readPiece 75 = .ok (.if_icmp .ne 11, 3) ∧ decode cX5_readPiece 78 = .ok (.aload_n 0, 1) := by decide +kernel
theorem dX5_readPiece_66 : decode cX5_readPiece 66 = .ok (.if_icmp .eq 12, 3) := dGX5_53.1
theorem dX5_readPiece_69 : decode cX5_readPiece 69 = .ok (.aload_n 0, 1) := dGX5_53.2.1
theorem dX5_readPiece_70 : decode cX5_readPiece 70 = .ok (.invokevirtual 56, 3) := dGX5_53.2.2.1
theorem dX5_readPiece_73 : decode cX5_readPiece 73 = .ok (.bipush 40, 2) := dGX5_53.2.2.2.1
theorem dX5_readPiece_75 : decode cX5_readPiece 75 = .ok (.if_icmp .ne 11, 3) := dGX5_53.2.2.2.2.1
theorem dX5_readPiece_78 : decode cX5_readPiece 78 = .ok (.aload_n 0, 1) := dGX5_53.2.2.2.2.2
theorem dGX5_54 : decode cX5_readPiece 79 = .ok (.iconst 5, 1) ∧ decode cX5_readPiece 80 = .ok (.invokevirtual 60, 3) ∧ decode cX5_readPiece 83 = .ok (.goto 45, 3) ∧ decode cX5_readPiece 86 = .ok (.aload_n 0, 1) ∧ decode cX5_readPiece 87 = .ok (.invokevirtual 56, 3) ∧ decode cX5_readPiece 90 = .ok (.bipush 40, 2) := by decide +kernel
theorem dX5_readPiece_79 : decode cX5_readPiece 79 = .ok (.iconst 5, 1) := dGX5_54.1
theorem dX5_readPiece_80 : decode cX5_readPiece 80 = .ok (.invokevirtual 60, 3) := dGX5_54.2.1
theorem dX5_readPiece_83 : decode cX5_readPiece 83 = .ok (.goto 45, 3) := dGX5_54.2.2.1
theorem dX5_readPiece_86 : decode cX5_readPiece 86 = .ok (.aload_n 0, 1) := dGX5_54.2.2.2.1
theorem dX5_readPiece_87 : decode cX5_readPiece 87 = .ok (.invokevirtual 56, 3) := dGX5_54.2.2.2.2.1
theorem dX5_readPiece_90 : decode cX5_readPiece 90 = .ok (.bipush 40, 2) := dGX5_54.2.2.2.2.2
theorem dGX5_55 : decode cX5_readPiece 92 = .ok (.if_icmp .ne 30, 3) ∧ decode cX5_readPiece 95 = .ok (.aload_n 0, 1) ∧ decode cX5_readPiece 96 = .ok (.dup, 1) ∧ decode cX5_readPiece 97 = .ok (.getfield 19, 3) ∧ decode cX5_readPiece 100 = .ok (.iconst 1, 1) ∧ decode cX5_readPiece 101 = .ok (.iadd, 1) := by decide +kernel
theorem dX5_readPiece_92 : decode cX5_readPiece 92 = .ok (.if_icmp .ne 30, 3) := dGX5_55.1
theorem dX5_readPiece_95 : decode cX5_readPiece 95 = .ok (.aload_n 0, 1) := dGX5_55.2.1
theorem dX5_readPiece_96 : decode cX5_readPiece 96 = .ok (.dup, 1) := dGX5_55.2.2.1
theorem dX5_readPiece_97 : decode cX5_readPiece 97 = .ok (.getfield 19, 3) := dGX5_55.2.2.2.1
theorem dX5_readPiece_100 : decode cX5_readPiece 100 = .ok (.iconst 1, 1) := dGX5_55.2.2.2.2.1
theorem dX5_readPiece_101 : decode cX5_readPiece 101 = .ok (.iadd, 1) := dGX5_55.2.2.2.2.2
theorem dGX5_56 : decode cX5_readPiece 102 = .ok (.putfield 19, 3) ∧ decode cX5_readPiece 105 = .ok (.aload_n 0, 1) ∧ decode cX5_readPiece 106 = .ok (.aload_n 1, 1) ∧ decode cX5_readPiece 107 = .ok (.iload_n 3, 1) ∧ decode cX5_readPiece 108 = .ok (.iconst 1, 1) ∧ decode cX5_readPiece 109 = .ok (.iadd, 1) := by decide +kernel
theorem dX5_readPiece_102 : decode cX5_readPiece 102 = .ok (.putfield 19, 3) := dGX5_56.1
theorem dX5_readPiece_105 : decode cX5_readPiece 105 = .ok (.aload_n 0, 1) := dGX5_56.2.1
theorem dX5_readPiece_106 : decode cX5_readPiece 106 = .ok (.aload_n 1, 1) := dGX5_56.2.2.1
theorem dX5_readPiece_107 : decode cX5_readPiece 107 = .ok (.iload_n 3, 1) := dGX5_56.2.2.2.1
theorem dX5_readPiece_108 : decode cX5_readPiece 108 = .ok (.iconst 1, 1) := dGX5_56.2.2.2.2.1
theorem dX5_readPiece_109 : decode cX5_readPiece 109 = .ok (.iadd, 1) := dGX5_56.2.2.2.2.2
theorem dGX5_57 : decode cX5_readPiece 110 = .ok (.invokevirtual 81, 3) ∧ decode cX5_readPiece 113 = .ok (.aload_n 0, 1) ∧ decode cX5_readPiece 114 = .ok (.bipush 41, 2) ∧ decode cX5_readPiece 116 = .ok (.invokevirtual 52, 3) ∧ decode cX5_readPiece 119 = .ok (.goto 9, 3) ∧ decode cX5_readPiece 122 = .ok (.aload_n 0, 1) := by decide +kernel
theorem dX5_readPiece_110 : decode cX5_readPiece 110 = .ok (.invokevirtual 81, 3) := dGX5_57.1
theorem dX5_readPiece_113 : decode cX5_readPiece 113 = .ok (.aload_n 0, 1) := dGX5_57.2.1
theorem dX5_readPiece_114 : decode cX5_readPiece 114 = .ok (.bipush 41, 2) := dGX5_57.2.2.1
theorem dX5_readPiece_116 : decode cX5_readPiece 116 = .ok (.invokevirtual 52, 3) := dGX5_57.2.2.2.1
theorem dX5_readPiece_119 : decode cX5_readPiece 119 = .ok (.goto 9, 3) := dGX5_57.2.2.2.2.1
theorem dX5_readPiece_122 : decode cX5_readPiece 122 = .ok (.aload_n 0, 1) := dGX5_57.2.2.2.2.2
theorem dGX5_58 : decode cX5_readPiece 123 = .ok (.aload_n 1, 1) ∧ decode cX5_readPiece 124 = .ok (.iload_n 3, 1) ∧ decode cX5_readPiece 125 = .ok (.invokevirtual 100, 3) ∧ decode cX5_readPiece 128 = .ok (.iload_n 2, 1) ∧ decode cX5_readPiece 129 = .ok (.istore 4, 2) ∧ decode cX5_readPiece 131 = .ok (.iload 4, 2) := by decide +kernel
theorem dX5_readPiece_123 : decode cX5_readPiece 123 = .ok (.aload_n 1, 1) := dGX5_58.1
theorem dX5_readPiece_124 : decode cX5_readPiece 124 = .ok (.iload_n 3, 1) := dGX5_58.2.1
theorem dX5_readPiece_125 : decode cX5_readPiece 125 = .ok (.invokevirtual 100, 3) := dGX5_58.2.2.1
theorem dX5_readPiece_128 : decode cX5_readPiece 128 = .ok (.iload_n 2, 1) := dGX5_58.2.2.2.1
theorem dX5_readPiece_129 : decode cX5_readPiece 129 = .ok (.istore 4, 2) := dGX5_58.2.2.2.2.1
theorem dX5_readPiece_131 : decode cX5_readPiece 131 = .ok (.iload 4, 2) := dGX5_58.2.2.2.2.2
theorem dGX5_59 : decode cX5_readPiece 133 = .ok (.iload_n 3, 1) ∧ decode cX5_readPiece 134 = .ok (.if_icmp .ge 16, 3) ∧ decode cX5_readPiece 137 = .ok (.aload_n 1, 1) ∧ decode cX5_readPiece 138 = .ok (.iconst 2, 1) ∧ decode cX5_readPiece 139 = .ok (.iconst 0, 1) ∧ decode cX5_readPiece 140 = .ok (.invokevirtual 90, 3) := by decide +kernel
theorem dX5_readPiece_133 : decode cX5_readPiece 133 = .ok (.iload_n 3, 1) := dGX5_59.1
theorem dX5_readPiece_134 : decode cX5_readPiece 134 = .ok (.if_icmp .ge 16, 3) := dGX5_59.2.1
theorem dX5_readPiece_137 : decode cX5_readPiece 137 = .ok (.aload_n 1, 1) := dGX5_59.2.2.1
theorem dX5_readPiece_138 : decode cX5_readPiece 138 = .ok (.iconst 2, 1) := dGX5_59.2.2.2.1
theorem dX5_readPiece_139 : decode cX5_readPiece 139 = .ok (.iconst 0, 1) := dGX5_59.2.2.2.2.1
theorem dX5_readPiece_140 : decode cX5_readPiece 140 = .ok (.invokevirtual 90, 3) := dGX5_59.2.2.2.2.2
theorem dGX5_60 : decode cX5_readPiece 143 = .ok (.pop, 1) ∧ decode cX5_readPiece 144 = .ok (.iinc 4 1, 3) ∧ decode cX5_readPiece 147 = .ok (.goto (-16), 3) ∧ decode cX5_readPiece 150 = .ok (.return_, 1) ∧ decode cX5_readComparison 0 = .ok (.aload_n 0, 1) ∧ decode cX5_readComparison 1 = .ok (.aload_n 1, 1) := by decide +kernel
theorem dX5_readPiece_143 : decode cX5_readPiece 143 = .ok (.pop, 1) := dGX5_60.1
theorem dX5_readPiece_144 : decode cX5_readPiece 144 = .ok (.iinc 4 1, 3) := dGX5_60.2.1
theorem dX5_readPiece_147 : decode cX5_readPiece 147 = .ok (.goto (-16), 3) := dGX5_60.2.2.1
theorem dX5_readPiece_150 : decode cX5_readPiece 150 = .ok (.return_, 1) := dGX5_60.2.2.2.1
theorem dX5_readComparison_0 : decode cX5_readComparison 0 = .ok (.aload_n 0, 1) := dGX5_60.2.2.2.2.1
theorem dX5_readComparison_1 : decode cX5_readComparison 1 = .ok (.aload_n 1, 1) := dGX5_60.2.2.2.2.2
theorem dGX5_61 : decode cX5_readComparison 2 = .ok (.iload_n 2, 1) ∧ decode cX5_readComparison 3 = .ok (.invokevirtual 74, 3) ∧ decode cX5_readComparison 6 = .ok (.aload_n 0, 1) ∧ decode cX5_readComparison 7 = .ok (.invokevirtual 56, 3) ∧ decode cX5_readComparison 10 = .ok (.istore_n 3, 1) ∧ decode cX5_readComparison 11 = .ok (.aload_n 0, 1) := by decide +kernel
theorem dX5_readComparison_2 : decode cX5_readComparison 2 = .ok (.iload_n 2, 1) := dGX5_61.1
theorem dX5_readComparison_3 : decode cX5_readComparison 3 = .ok (.invokevirtual 74, 3) := dGX5_61.2.1
theorem dX5_readComparison_6 : decode cX5_readComparison 6 = .ok (.aload_n 0, 1) := dGX5_61.2.2.1
theorem dX5_readComparison_7 : decode cX5_readComparison 7 = .ok (.invokevirtual 56, 3) := dGX5_61.2.2.2.1
theorem dX5_readComparison_10 : decode cX5_readComparison 10 = .ok (.istore_n 3, 1) := dGX5_61.2.2.2.2.1
theorem dX5_readComparison_11 : decode cX5_readComparison 11 = .ok (.aload_n 0, 1) := dGX5_61.2.2.2.2.2
theorem dGX5_62 : decode cX5_readComparison 12 = .ok (.getfield 22, 3) ∧ decode cX5_readComparison 15 = .ok (.ifCond .ne 12, 3) ∧ decode cX5_readComparison 18 = .ok (.ldc 103, 2) ∧ decode cX5_readComparison 20 = .ok (.iload_n 3, 1) ∧ decode cX5_readComparison 21 = .ok (.invokevirtual 66, 3) ∧ decode cX5_readComparison 24 = .ok (.ifCond .ge 9, 3) := by decide +kernel
theorem dX5_readComparison_12 : decode cX5_readComparison 12 = .ok (.getfield 22, 3) := dGX5_62.1
theorem dX5_readComparison_15 : decode cX5_readComparison 15 = .ok (.ifCond .ne 12, 3) := dGX5_62.2.1
theorem dX5_readComparison_18 : decode cX5_readComparison 18 = .ok (.ldc 103, 2) := dGX5_62.2.2.1
theorem dX5_readComparison_20 : decode cX5_readComparison 20 = .ok (.iload_n 3, 1) := dGX5_62.2.2.2.1
theorem dX5_readComparison_21 : decode cX5_readComparison 21 = .ok (.invokevirtual 66, 3) := dGX5_62.2.2.2.2.1
theorem dX5_readComparison_24 : decode cX5_readComparison 24 = .ok (.ifCond .ge 9, 3) := dGX5_62.2.2.2.2.2
theorem dGX5_63 : decode cX5_readComparison 27 = .ok (.aload_n 0, 1) ∧ decode cX5_readComparison 28 = .ok (.iconst 1, 1) ∧ decode cX5_readComparison 29 = .ok (.invokevirtual 60, 3) ∧ decode cX5_readComparison 32 = .ok (.return_, 1) ∧ decode cX5_readComparison 33 = .ok (.aload_n 0, 1) ∧ decode cX5_readComparison 34 = .ok (.dup, 1) := by decide +kernel
theorem dX5_readComparison_27 : decode cX5_readComparison 27 = .ok (.aload_n 0, 1) := dGX5_63.1
theorem dX5_readComparison_28 : decode cX5_readComparison 28 = .ok (.iconst 1, 1) := dGX5_63.2.1
theorem dX5_readComparison_29 : decode cX5_readComparison 29 = .ok (.invokevirtual 60, 3) := dGX5_63.2.2.1
theorem dX5_readComparison_32 : decode cX5_readComparison 32 = .ok (.return_, 1) := dGX5_63.2.2.2.1
theorem dX5_readComparison_33 : decode cX5_readComparison 33 = .ok (.aload_n 0, 1) := dGX5_63.2.2.2.2.1
theorem dX5_readComparison_34 : decode cX5_readComparison 34 = .ok (.dup, 1) := dGX5_63.2.2.2.2.2
theorem dGX5_64 : decode cX5_readComparison 35 = .ok (.getfield 19, 3) ∧ decode cX5_readComparison 38 = .ok (.iconst 1, 1) ∧ decode cX5_readComparison 39 = .ok (.iadd, 1) ∧ decode cX5_readComparison 40 = .ok (.putfield 19, 3) ∧ decode cX5_readComparison 43 = .ok (.aload_n 0, 1) ∧ decode cX5_readComparison 44 = .ok (.aload_n 1, 1) := by decide +kernel
theorem dX5_readComparison_35 : decode cX5_readComparison 35 = .ok (.getfield 19, 3) := dGX5_64.1
theorem dX5_readComparison_38 : decode cX5_readComparison 38 = .ok (.iconst 1, 1) := dGX5_64.2.1
theorem dX5_readComparison_39 : decode cX5_readComparison 39 = .ok (.iadd, 1) := dGX5_64.2.2.1
theorem dX5_readComparison_40 : decode cX5_readComparison 40 = .ok (.putfield 19, 3) := dGX5_64.2.2.2.1
theorem dX5_readComparison_43 : decode cX5_readComparison 43 = .ok (.aload_n 0, 1) := dGX5_64.2.2.2.2.1
theorem dX5_readComparison_44 : decode cX5_readComparison 44 = .ok (.aload_n 1, 1) := dGX5_64.2.2.2.2.2
theorem dGX5_65 : decode cX5_readComparison 45 = .ok (.iload_n 2, 1) ∧ decode cX5_readComparison 46 = .ok (.invokevirtual 74, 3) ∧ decode cX5_readComparison 49 = .ok (.aload_n 1, 1) ∧ decode cX5_readComparison 50 = .ok (.iload_n 3, 1) ∧ decode cX5_readComparison 51 = .ok (.iconst 0, 1) ∧ decode cX5_readComparison 52 = .ok (.invokevirtual 90, 3) := by decide +kernel
theorem dX5_readComparison_45 : decode cX5_readComparison 45 = .ok (.iload_n 2, 1) := dGX5_65.1
theorem dX5_readComparison_46 : decode cX5_readComparison 46 = .ok (.invokevirtual 74, 3) := dGX5_65.2.1
theorem dX5_readComparison_49 : decode cX5_readComparison 49 = .ok (.aload_n 1, 1) := dGX5_65.2.2.1
theorem dX5_readComparison_50 : decode cX5_readComparison 50 = .ok (.iload_n 3, 1) := dGX5_65.2.2.2.1
theorem dX5_readComparison_51 : decode cX5_readComparison 51 = .ok (.iconst 0, 1) := dGX5_65.2.2.2.2.1
theorem dX5_readComparison_52 : decode cX5_readComparison 52 = .ok (.invokevirtual 90, 3) := dGX5_65.2.2.2.2.2
theorem dGX5_66 : decode cX5_readComparison 55 = .ok (.pop, 1) ∧ decode cX5_readComparison 56 = .ok (.return_, 1) ∧ decode cX5_readSum 0 = .ok (.aload_n 0, 1) ∧ decode cX5_readSum 1 = .ok (.aload_n 1, 1) ∧ decode cX5_readSum 2 = .ok (.iload_n 2, 1) ∧ decode cX5_readSum 3 = .ok (.invokevirtual 105, 3) := by decide +kernel
theorem dX5_readComparison_55 : decode cX5_readComparison 55 = .ok (.pop, 1) := dGX5_66.1
theorem dX5_readComparison_56 : decode cX5_readComparison 56 = .ok (.return_, 1) := dGX5_66.2.1
theorem dX5_readSum_0 : decode cX5_readSum 0 = .ok (.aload_n 0, 1) := dGX5_66.2.2.1
theorem dX5_readSum_1 : decode cX5_readSum 1 = .ok (.aload_n 1, 1) := dGX5_66.2.2.2.1
theorem dX5_readSum_2 : decode cX5_readSum 2 = .ok (.iload_n 2, 1) := dGX5_66.2.2.2.2.1
theorem dX5_readSum_3 : decode cX5_readSum 3 = .ok (.invokevirtual 105, 3) := dGX5_66.2.2.2.2.2
theorem dGX5_67 : decode cX5_readSum 6 = .ok (.iconst 0, 1) ∧ decode cX5_readSum 7 = .ok (.istore_n 3, 1) ∧ decode cX5_readSum 8 = .ok (.iload_n 3, 1) ∧ decode cX5_readSum 9 = .ok (.sipush 200, 3) ∧ decode cX5_readSum 12 = .ok (.if_icmp .ge 64, 3) ∧ decode cX5_readSum 15 = .ok (.aload_n 0, 1) := by decide +kernel
theorem dX5_readSum_6 : decode cX5_readSum 6 = .ok (.iconst 0, 1) := dGX5_67.1
theorem dX5_readSum_7 : decode cX5_readSum 7 = .ok (.istore_n 3, 1) := dGX5_67.2.1
theorem dX5_readSum_8 : decode cX5_readSum 8 = .ok (.iload_n 3, 1) := dGX5_67.2.2.1
theorem dX5_readSum_9 : decode cX5_readSum 9 = .ok (.sipush 200, 3) := dGX5_67.2.2.2.1
theorem dX5_readSum_12 : decode cX5_readSum 12 = .ok (.if_icmp .ge 64, 3) := dGX5_67.2.2.2.2.1
theorem dX5_readSum_15 : decode cX5_readSum 15 = .ok (.aload_n 0, 1) := dGX5_67.2.2.2.2.2
theorem dGX5_68 : decode cX5_readSum 16 = .ok (.getfield 22, 3) ∧ decode cX5_readSum 19 = .ok (.ifCond .ne 57, 3) ∧ decode cX5_readSum 22 = .ok (.aload_n 0, 1) ∧ decode cX5_readSum 23 = .ok (.invokevirtual 56, 3) ∧ decode cX5_readSum 26 = .ok (.bipush 43, 2) ∧ decode cX5_readSum 28 = .ok (.if_icmp .eq 12, 3) := by decide +kernel
theorem dX5_readSum_16 : decode cX5_readSum 16 = .ok (.getfield 22, 3) := dGX5_68.1
theorem dX5_readSum_19 : decode cX5_readSum 19 = .ok (.ifCond .ne 57, 3) := dGX5_68.2.1
theorem dX5_readSum_22 : decode cX5_readSum 22 = .ok (.aload_n 0, 1) := dGX5_68.2.2.1
theorem dX5_readSum_23 : decode cX5_readSum 23 = .ok (.invokevirtual 56, 3) := dGX5_68.2.2.2.1
theorem dX5_readSum_26 : decode cX5_readSum 26 = .ok (.bipush 43, 2) := dGX5_68.2.2.2.2.1
theorem dX5_readSum_28 : decode cX5_readSum 28 = .ok (.if_icmp .eq 12, 3) := dGX5_68.2.2.2.2.2
theorem dGX5_69 : decode cX5_readSum 31 = .ok (.aload_n 0, 1) ∧ decode cX5_readSum 32 = .ok (.invokevirtual 56, 3) ∧ decode cX5_readSum 35 = .ok (.bipush 45, 2) ∧ decode cX5_readSum 37 = .ok (.if_icmp .ne 39, 3) ∧ decode cX5_readSum 40 = .ok (.aload_n 0, 1) ∧ decode cX5_readSum 41 = .ok (.invokevirtual 56, 3) := by decide +kernel
theorem dX5_readSum_31 : decode cX5_readSum 31 = .ok (.aload_n 0, 1) := dGX5_69.1
theorem dX5_readSum_32 : decode cX5_readSum 32 = .ok (.invokevirtual 56, 3) := dGX5_69.2.1
theorem dX5_readSum_35 : decode cX5_readSum 35 = .ok (.bipush 45, 2) := dGX5_69.2.2.1
theorem dX5_readSum_37 : decode cX5_readSum 37 = .ok (.if_icmp .ne 39, 3) := dGX5_69.2.2.2.1
theorem dX5_readSum_40 : decode cX5_readSum 40 = .ok (.aload_n 0, 1) := dGX5_69.2.2.2.2.1
theorem dX5_readSum_41 : decode cX5_readSum 41 = .ok (.invokevirtual 56, 3) := dGX5_69.2.2.2.2.2
theorem dGX5_70 : decode cX5_readSum 44 = .ok (.istore 4, 2) ∧ decode cX5_readSum 46 = .ok (.aload_n 0, 1) ∧ decode cX5_readSum 47 = .ok (.dup, 1) ∧ decode cX5_readSum 48 = .ok (.getfield 19, 3) ∧ decode cX5_readSum 51 = .ok (.iconst 1, 1) ∧ decode cX5_readSum 52 = .ok (.iadd, 1) := by decide +kernel
theorem dX5_readSum_44 : decode cX5_readSum 44 = .ok (.istore 4, 2) := dGX5_70.1
theorem dX5_readSum_46 : decode cX5_readSum 46 = .ok (.aload_n 0, 1) := dGX5_70.2.1
theorem dX5_readSum_47 : decode cX5_readSum 47 = .ok (.dup, 1) := dGX5_70.2.2.1
theorem dX5_readSum_48 : decode cX5_readSum 48 = .ok (.getfield 19, 3) := dGX5_70.2.2.2.1
theorem dX5_readSum_51 : decode cX5_readSum 51 = .ok (.iconst 1, 1) := dGX5_70.2.2.2.2.1
theorem dX5_readSum_52 : decode cX5_readSum 52 = .ok (.iadd, 1) := dGX5_70.2.2.2.2.2
theorem dGX5_71 : decode cX5_readSum 53 = .ok (.putfield 19, 3) ∧ decode cX5_readSum 56 = .ok (.aload_n 0, 1) ∧ decode cX5_readSum 57 = .ok (.aload_n 1, 1) ∧ decode cX5_readSum 58 = .ok (.iload_n 2, 1) ∧ decode cX5_readSum 59 = .ok (.invokevirtual 105, 3) ∧ decode cX5_readSum 62 = .ok (.aload_n 1, 1) := by decide +kernel
theorem dX5_readSum_53 : decode cX5_readSum 53 = .ok (.putfield 19, 3) := dGX5_71.1
theorem dX5_readSum_56 : decode cX5_readSum 56 = .ok (.aload_n 0, 1) := dGX5_71.2.1
theorem dX5_readSum_57 : decode cX5_readSum 57 = .ok (.aload_n 1, 1) := dGX5_71.2.2.1
theorem dX5_readSum_58 : decode cX5_readSum 58 = .ok (.iload_n 2, 1) := dGX5_71.2.2.2.1
theorem dX5_readSum_59 : decode cX5_readSum 59 = .ok (.invokevirtual 105, 3) := dGX5_71.2.2.2.2.1
theorem dX5_readSum_62 : decode cX5_readSum 62 = .ok (.aload_n 1, 1) := dGX5_71.2.2.2.2.2
theorem dGX5_72 : decode cX5_readSum 63 = .ok (.iload 4, 2) ∧ decode cX5_readSum 65 = .ok (.iconst 0, 1) ∧ decode cX5_readSum 66 = .ok (.invokevirtual 90, 3) ∧ decode cX5_readSum 69 = .ok (.pop, 1) ∧ decode cX5_readSum 70 = .ok (.iinc 3 1, 3) ∧ decode cX5_readSum 73 = .ok (.goto (-65), 3) := by decide +kernel
theorem dX5_readSum_63 : decode cX5_readSum 63 = .ok (.iload 4, 2) := dGX5_72.1
theorem dX5_readSum_65 : decode cX5_readSum 65 = .ok (.iconst 0, 1) := dGX5_72.2.1
theorem dX5_readSum_66 : decode cX5_readSum 66 = .ok (.invokevirtual 90, 3) := dGX5_72.2.2.1
theorem dX5_readSum_69 : decode cX5_readSum 69 = .ok (.pop, 1) := dGX5_72.2.2.2.1
theorem dX5_readSum_70 : decode cX5_readSum 70 = .ok (.iinc 3 1, 3) := dGX5_72.2.2.2.2.1
theorem dX5_readSum_73 : decode cX5_readSum 73 = .ok (.goto (-65), 3) := dGX5_72.2.2.2.2.2
theorem dGX5_73 : decode cX5_readSum 76 = .ok (.return_, 1) ∧ decode cX5_readTerm 0 = .ok (.aload_n 0, 1) ∧ decode cX5_readTerm 1 = .ok (.aload_n 1, 1) ∧ decode cX5_readTerm 2 = .ok (.iload_n 2, 1) ∧ decode cX5_readTerm 3 = .ok (.invokevirtual 108, 3) ∧ decode cX5_readTerm 6 = .ok (.iconst 0, 1) := by decide +kernel
theorem dX5_readSum_76 : decode cX5_readSum 76 = .ok (.return_, 1) := dGX5_73.1
theorem dX5_readTerm_0 : decode cX5_readTerm 0 = .ok (.aload_n 0, 1) := dGX5_73.2.1
theorem dX5_readTerm_1 : decode cX5_readTerm 1 = .ok (.aload_n 1, 1) := dGX5_73.2.2.1
theorem dX5_readTerm_2 : decode cX5_readTerm 2 = .ok (.iload_n 2, 1) := dGX5_73.2.2.2.1
theorem dX5_readTerm_3 : decode cX5_readTerm 3 = .ok (.invokevirtual 108, 3) := dGX5_73.2.2.2.2.1
theorem dX5_readTerm_6 : decode cX5_readTerm 6 = .ok (.iconst 0, 1) := dGX5_73.2.2.2.2.2
theorem dGX5_74 : decode cX5_readTerm 7 = .ok (.istore_n 3, 1) ∧ decode cX5_readTerm 8 = .ok (.iload_n 3, 1) ∧ decode cX5_readTerm 9 = .ok (.sipush 200, 3) ∧ decode cX5_readTerm 12 = .ok (.if_icmp .ge 56, 3) ∧ decode cX5_readTerm 15 = .ok (.aload_n 0, 1) ∧ decode cX5_readTerm 16 = .ok (.getfield 22, 3) := by decide +kernel
theorem dX5_readTerm_7 : decode cX5_readTerm 7 = .ok (.istore_n 3, 1) := dGX5_74.1
theorem dX5_readTerm_8 : decode cX5_readTerm 8 = .ok (.iload_n 3, 1) := dGX5_74.2.1
theorem dX5_readTerm_9 : decode cX5_readTerm 9 = .ok (.sipush 200, 3) := dGX5_74.2.2.1
theorem dX5_readTerm_12 : decode cX5_readTerm 12 = .ok (.if_icmp .ge 56, 3) := dGX5_74.2.2.2.1
theorem dX5_readTerm_15 : decode cX5_readTerm 15 = .ok (.aload_n 0, 1) := dGX5_74.2.2.2.2.1
theorem dX5_readTerm_16 : decode cX5_readTerm 16 = .ok (.getfield 22, 3) := dGX5_74.2.2.2.2.2
theorem dGX5_75 : decode cX5_readTerm 19 = .ok (.ifCond .ne 49, 3) ∧ decode cX5_readTerm 22 = .ok (.aload_n 0, 1) ∧ decode cX5_readTerm 23 = .ok (.invokevirtual 56, 3) ∧ decode cX5_readTerm 26 = .ok (.invokestatic 111, 3) ∧ decode cX5_readTerm 29 = .ok (.ifCond .eq 39, 3) ∧ decode cX5_readTerm 32 = .ok (.aload_n 0, 1) := by decide +kernel
theorem dX5_readTerm_19 : decode cX5_readTerm 19 = .ok (.ifCond .ne 49, 3) := dGX5_75.1
theorem dX5_readTerm_22 : decode cX5_readTerm 22 = .ok (.aload_n 0, 1) := dGX5_75.2.1
theorem dX5_readTerm_23 : decode cX5_readTerm 23 = .ok (.invokevirtual 56, 3) := dGX5_75.2.2.1
theorem dX5_readTerm_26 : decode cX5_readTerm 26 = .ok (.invokestatic 111, 3) := dGX5_75.2.2.2.1
theorem dX5_readTerm_29 : decode cX5_readTerm 29 = .ok (.ifCond .eq 39, 3) := dGX5_75.2.2.2.2.1
theorem dX5_readTerm_32 : decode cX5_readTerm 32 = .ok (.aload_n 0, 1) := dGX5_75.2.2.2.2.2
theorem dGX5_76 : decode cX5_readTerm 33 = .ok (.invokevirtual 56, 3) ∧ decode cX5_readTerm 36 = .ok (.istore 4, 2) ∧ decode cX5_readTerm 38 = .ok (.aload_n 0, 1) ∧ decode cX5_readTerm 39 = .ok (.dup, 1) ∧ decode cX5_readTerm 40 = .ok (.getfield 19, 3) ∧ decode cX5_readTerm 43 = .ok (.iconst 1, 1) := by decide +kernel
theorem dX5_readTerm_33 : decode cX5_readTerm 33 = .ok (.invokevirtual 56, 3) := dGX5_76.1
theorem dX5_readTerm_36 : decode cX5_readTerm 36 = .ok (.istore 4, 2) := dGX5_76.2.1
theorem dX5_readTerm_38 : decode cX5_readTerm 38 = .ok (.aload_n 0, 1) := dGX5_76.2.2.1
theorem dX5_readTerm_39 : decode cX5_readTerm 39 = .ok (.dup, 1) := dGX5_76.2.2.2.1
theorem dX5_readTerm_40 : decode cX5_readTerm 40 = .ok (.getfield 19, 3) := dGX5_76.2.2.2.2.1
theorem dX5_readTerm_43 : decode cX5_readTerm 43 = .ok (.iconst 1, 1) := dGX5_76.2.2.2.2.2
theorem dGX5_77 : decode cX5_readTerm 44 = .ok (.iadd, 1) ∧ decode cX5_readTerm 45 = .ok (.putfield 19, 3) ∧ decode cX5_readTerm 48 = .ok (.aload_n 0, 1) ∧ decode cX5_readTerm 49 = .ok (.aload_n 1, 1) ∧ decode cX5_readTerm 50 = .ok (.iload_n 2, 1) ∧ decode cX5_readTerm 51 = .ok (.invokevirtual 108, 3) := by decide +kernel
theorem dX5_readTerm_44 : decode cX5_readTerm 44 = .ok (.iadd, 1) := dGX5_77.1
theorem dX5_readTerm_45 : decode cX5_readTerm 45 = .ok (.putfield 19, 3) := dGX5_77.2.1
theorem dX5_readTerm_48 : decode cX5_readTerm 48 = .ok (.aload_n 0, 1) := dGX5_77.2.2.1
theorem dX5_readTerm_49 : decode cX5_readTerm 49 = .ok (.aload_n 1, 1) := dGX5_77.2.2.2.1
theorem dX5_readTerm_50 : decode cX5_readTerm 50 = .ok (.iload_n 2, 1) := dGX5_77.2.2.2.2.1
theorem dX5_readTerm_51 : decode cX5_readTerm 51 = .ok (.invokevirtual 108, 3) := dGX5_77.2.2.2.2.2
theorem dGX5_78 : decode cX5_readTerm 54 = .ok (.aload_n 1, 1) ∧ decode cX5_readTerm 55 = .ok (.iload 4, 2) ∧ decode cX5_readTerm 57 = .ok (.iconst 0, 1) ∧ decode cX5_readTerm 58 = .ok (.invokevirtual 90, 3) ∧ decode cX5_readTerm 61 = .ok (.pop, 1) ∧ decode cX5_readTerm 62 = .ok (.iinc 3 1, 3) := by decide +kernel
theorem dX5_readTerm_54 : decode cX5_readTerm 54 = .ok (.aload_n 1, 1) := dGX5_78.1
theorem dX5_readTerm_55 : decode cX5_readTerm 55 = .ok (.iload 4, 2) := dGX5_78.2.1
theorem dX5_readTerm_57 : decode cX5_readTerm 57 = .ok (.iconst 0, 1) := dGX5_78.2.2.1
theorem dX5_readTerm_58 : decode cX5_readTerm 58 = .ok (.invokevirtual 90, 3) := dGX5_78.2.2.2.1
theorem dX5_readTerm_61 : decode cX5_readTerm 61 = .ok (.pop, 1) := dGX5_78.2.2.2.2.1
theorem dX5_readTerm_62 : decode cX5_readTerm 62 = .ok (.iinc 3 1, 3) := dGX5_78.2.2.2.2.2
theorem dGX5_79 : decode cX5_readTerm 65 = .ok (.goto (-57), 3) ∧ decode cX5_readTerm 68 = .ok (.return_, 1) ∧ decode cX5_isTermSign 0 = .ok (.iload_n 0, 1) ∧ decode cX5_isTermSign 1 = .ok (.bipush 42, 2) ∧ decode cX5_isTermSign 3 = .ok (.if_icmp .eq 15, 3) ∧ decode cX5_isTermSign 6 = .ok (.iload_n 0, 1) := by decide +kernel
theorem dX5_readTerm_65 : decode cX5_readTerm 65 = .ok (.goto (-57), 3) := dGX5_79.1
theorem dX5_readTerm_68 : decode cX5_readTerm 68 = .ok (.return_, 1) := dGX5_79.2.1
theorem dX5_isTermSign_0 : decode cX5_isTermSign 0 = .ok (.iload_n 0, 1) := dGX5_79.2.2.1
theorem dX5_isTermSign_1 : decode cX5_isTermSign 1 = .ok (.bipush 42, 2) := dGX5_79.2.2.2.1
theorem dX5_isTermSign_3 : decode cX5_isTermSign 3 = .ok (.if_icmp .eq 15, 3) := dGX5_79.2.2.2.2.1
theorem dX5_isTermSign_6 : decode cX5_isTermSign 6 = .ok (.iload_n 0, 1) := dGX5_79.2.2.2.2.2
theorem dGX5_80 : decode cX5_isTermSign 7 = .ok (.bipush 47, 2) ∧ decode cX5_isTermSign 9 = .ok (.if_icmp .eq 9, 3) ∧ decode cX5_isTermSign 12 = .ok (.iload_n 0, 1) ∧ decode cX5_isTermSign 13 = .ok (.bipush 37, 2) ∧ decode cX5_isTermSign 15 = .ok (.if_icmp .ne 7, 3) ∧ decode cX5_isTermSign 18 = .ok (.iconst 1, 1) := by decide +kernel
theorem dX5_isTermSign_7 : decode cX5_isTermSign 7 = .ok (.bipush 47, 2) := dGX5_80.1
theorem dX5_isTermSign_9 : decode cX5_isTermSign 9 = .ok (.if_icmp .eq 9, 3) := dGX5_80.2.1
theorem dX5_isTermSign_12 : decode cX5_isTermSign 12 = .ok (.iload_n 0, 1) := dGX5_80.2.2.1
theorem dX5_isTermSign_13 : decode cX5_isTermSign 13 = .ok (.bipush 37, 2) := dGX5_80.2.2.2.1
theorem dX5_isTermSign_15 : decode cX5_isTermSign 15 = .ok (.if_icmp .ne 7, 3) := dGX5_80.2.2.2.2.1
theorem dX5_isTermSign_18 : decode cX5_isTermSign 18 = .ok (.iconst 1, 1) := dGX5_80.2.2.2.2.2
theorem dGX5_81 : decode cX5_isTermSign 19 = .ok (.goto 4, 3) ∧ decode cX5_isTermSign 22 = .ok (.iconst 0, 1) ∧ decode cX5_isTermSign 23 = .ok (.ireturn, 1) ∧ decode cX5_readFactor 0 = .ok (.aload_n 0, 1) ∧ decode cX5_readFactor 1 = .ok (.invokevirtual 56, 3) ∧ decode cX5_readFactor 4 = .ok (.istore_n 3, 1) := by decide +kernel
theorem dX5_isTermSign_19 : decode cX5_isTermSign 19 = .ok (.goto 4, 3) := dGX5_81.1
theorem dX5_isTermSign_22 : decode cX5_isTermSign 22 = .ok (.iconst 0, 1) := dGX5_81.2.1
theorem dX5_isTermSign_23 : decode cX5_isTermSign 23 = .ok (.ireturn, 1) := dGX5_81.2.2.1
theorem dX5_readFactor_0 : decode cX5_readFactor 0 = .ok (.aload_n 0, 1) := dGX5_81.2.2.2.1
theorem dX5_readFactor_1 : decode cX5_readFactor 1 = .ok (.invokevirtual 56, 3) := dGX5_81.2.2.2.2.1
theorem dX5_readFactor_4 : decode cX5_readFactor 4 = .ok (.istore_n 3, 1) := dGX5_81.2.2.2.2.2
theorem dGX5_82 : decode cX5_readFactor 5 = .ok (.ldc 115, 2) ∧ decode cX5_readFactor 7 = .ok (.iload_n 3, 1) ∧ decode cX5_readFactor 8 = .ok (.invokevirtual 66, 3) ∧ decode cX5_readFactor 11 = .ok (.istore 4, 2) ∧ decode cX5_readFactor 13 = .ok (.iload_n 3, 1) ∧ decode cX5_readFactor 14 = .ok (.bipush 91, 2) := by decide +kernel
theorem dX5_readFactor_5 : decode cX5_readFactor 5 = .ok (.ldc 115, 2) := dGX5_82.1
theorem dX5_readFactor_7 : decode cX5_readFactor 7 = .ok (.iload_n 3, 1) := dGX5_82.2.1
theorem dX5_readFactor_8 : decode cX5_readFactor 8 = .ok (.invokevirtual 66, 3) := dGX5_82.2.2.1
theorem dX5_readFactor_11 : decode cX5_readFactor 11 = .ok (.istore 4, 2) := dGX5_82.2.2.2.1
theorem dX5_readFactor_13 : decode cX5_readFactor 13 = .ok (.iload_n 3, 1) := dGX5_82.2.2.2.2.1
theorem dX5_readFactor_14 : decode cX5_readFactor 14 = .ok (.bipush 91, 2) := dGX5_82.2.2.2.2.2
theorem dGX5_83 : decode cX5_readFactor 16 = .ok (.if_icmp .ne 14, 3) ∧ decode cX5_readFactor 19 = .ok (.iload_n 2, 1) ∧ decode cX5_readFactor 20 = .ok (.bipush 6, 2) ∧ decode cX5_readFactor 22 = .ok (.if_icmp .lt 8, 3) ∧ decode cX5_readFactor 25 = .ok (.aload_n 0, 1) ∧ decode cX5_readFactor 26 = .ok (.iconst 5, 1) := by decide +kernel
theorem dX5_readFactor_16 : decode cX5_readFactor 16 = .ok (.if_icmp .ne 14, 3) := dGX5_83.1
theorem dX5_readFactor_19 : decode cX5_readFactor 19 = .ok (.iload_n 2, 1) := dGX5_83.2.1
theorem dX5_readFactor_20 : decode cX5_readFactor 20 = .ok (.bipush 6, 2) := dGX5_83.2.2.1
theorem dX5_readFactor_22 : decode cX5_readFactor 22 = .ok (.if_icmp .lt 8, 3) := dGX5_83.2.2.2.1
theorem dX5_readFactor_25 : decode cX5_readFactor 25 = .ok (.aload_n 0, 1) := dGX5_83.2.2.2.2.1
theorem dX5_readFactor_26 : decode cX5_readFactor 26 = .ok (.iconst 5, 1) := dGX5_83.2.2.2.2.2
theorem dGX5_84 : decode cX5_readFactor 27 = .ok (.invokevirtual 60, 3) ∧ decode cX5_readFactor 30 = .ok (.aload_n 0, 1) ∧ decode cX5_readFactor 31 = .ok (.getfield 22, 3) ∧ decode cX5_readFactor 34 = .ok (.ifCond .eq 4, 3) ∧ decode cX5_readFactor 37 = .ok (.return_, 1) ∧ decode cX5_readFactor 38 = .ok (.iload_n 3, 1) := by decide +kernel
theorem dX5_readFactor_27 : decode cX5_readFactor 27 = .ok (.invokevirtual 60, 3) := dGX5_84.1
theorem dX5_readFactor_30 : decode cX5_readFactor 30 = .ok (.aload_n 0, 1) := dGX5_84.2.1
theorem dX5_readFactor_31 : decode cX5_readFactor 31 = .ok (.getfield 22, 3) := dGX5_84.2.2.1
theorem dX5_readFactor_34 : decode cX5_readFactor 34 = .ok (.ifCond .eq 4, 3) := dGX5_84.2.2.2.1
theorem dX5_readFactor_37 : decode cX5_readFactor 37 = .ok (.return_, 1) := dGX5_84.2.2.2.2.1
theorem dX5_readFactor_38 : decode cX5_readFactor 38 = .ok (.iload_n 3, 1) := dGX5_84.2.2.2.2.2
theorem dGX5_85 : decode cX5_readFactor 39 = .ok (.bipush 91, 2) ∧ decode cX5_readFactor 41 = .ok (.if_icmp .ne 30, 3) ∧ decode cX5_readFactor 44 = .ok (.aload_n 0, 1) ∧ decode cX5_readFactor 45 = .ok (.dup, 1) ∧ decode cX5_readFactor 46 = .ok (.getfield 19, 3) ∧ decode cX5_readFactor 49 = .ok (.iconst 1, 1) := by decide +kernel
theorem dX5_readFactor_39 : decode cX5_readFactor 39 = .ok (.bipush 91, 2) := dGX5_85.1
theorem dX5_readFactor_41 : decode cX5_readFactor 41 = .ok (.if_icmp .ne 30, 3) := dGX5_85.2.1
theorem dX5_readFactor_44 : decode cX5_readFactor 44 = .ok (.aload_n 0, 1) := dGX5_85.2.2.1
theorem dX5_readFactor_45 : decode cX5_readFactor 45 = .ok (.dup, 1) := dGX5_85.2.2.2.1
theorem dX5_readFactor_46 : decode cX5_readFactor 46 = .ok (.getfield 19, 3) := dGX5_85.2.2.2.2.1
theorem dX5_readFactor_49 : decode cX5_readFactor 49 = .ok (.iconst 1, 1) := dGX5_85.2.2.2.2.2
theorem dGX5_86 : decode cX5_readFactor 50 = .ok (.iadd, 1) ∧ decode cX5_readFactor 51 = .ok (.putfield 19, 3) ∧ decode cX5_readFactor 54 = .ok (.aload_n 0, 1) ∧ decode cX5_readFactor 55 = .ok (.aload_n 1, 1) ∧ decode cX5_readFactor 56 = .ok (.iload_n 2, 1) ∧ decode cX5_readFactor 57 = .ok (.iconst 1, 1) := by decide +kernel
theorem dX5_readFactor_50 : decode cX5_readFactor 50 = .ok (.iadd, 1) := dGX5_86.1
theorem dX5_readFactor_51 : decode cX5_readFactor 51 = .ok (.putfield 19, 3) := dGX5_86.2.1
theorem dX5_readFactor_54 : decode cX5_readFactor 54 = .ok (.aload_n 0, 1) := dGX5_86.2.2.1
theorem dX5_readFactor_55 : decode cX5_readFactor 55 = .ok (.aload_n 1, 1) := dGX5_86.2.2.2.1
theorem dX5_readFactor_56 : decode cX5_readFactor 56 = .ok (.iload_n 2, 1) := dGX5_86.2.2.2.2.1
theorem dX5_readFactor_57 : decode cX5_readFactor 57 = .ok (.iconst 1, 1) := dGX5_86.2.2.2.2.2
theorem dGX5_87 : decode cX5_readFactor 58 = .ok (.iadd, 1) ∧ decode cX5_readFactor 59 = .ok (.invokevirtual 74, 3) ∧ decode cX5_readFactor 62 = .ok (.aload_n 0, 1) ∧ decode cX5_readFactor 63 = .ok (.bipush 93, 2) ∧ decode cX5_readFactor 65 = .ok (.invokevirtual 52, 3) ∧ decode cX5_readFactor 68 = .ok (.goto 49, 3) := by decide +kernel
theorem dX5_readFactor_58 : decode cX5_readFactor 58 = .ok (.iadd, 1) := dGX5_87.1
theorem dX5_readFactor_59 : decode cX5_readFactor 59 = .ok (.invokevirtual 74, 3) := dGX5_87.2.1
theorem dX5_readFactor_62 : decode cX5_readFactor 62 = .ok (.aload_n 0, 1) := dGX5_87.2.2.1
theorem dX5_readFactor_63 : decode cX5_readFactor 63 = .ok (.bipush 93, 2) := dGX5_87.2.2.2.1
theorem dX5_readFactor_65 : decode cX5_readFactor 65 = .ok (.invokevirtual 52, 3) := dGX5_87.2.2.2.2.1
theorem dX5_readFactor_68 : decode cX5_readFactor 68 = .ok (.goto 49, 3) := dGX5_87.2.2.2.2.2
theorem dGX5_88 : decode cX5_readFactor 71 = .ok (.iload_n 3, 1) ∧ decode cX5_readFactor 72 = .ok (.invokestatic 117, 3) ∧ decode cX5_readFactor 75 = .ok (.ifCond .eq 11, 3) ∧ decode cX5_readFactor 78 = .ok (.aload_n 0, 1) ∧ decode cX5_readFactor 79 = .ok (.aload_n 1, 1) ∧ decode cX5_readFactor 80 = .ok (.invokevirtual 120, 3) := by decide +kernel
theorem dX5_readFactor_71 : decode cX5_readFactor 71 = .ok (.iload_n 3, 1) := dGX5_88.1
theorem dX5_readFactor_72 : decode cX5_readFactor 72 = .ok (.invokestatic 117, 3) := dGX5_88.2.1
theorem dX5_readFactor_75 : decode cX5_readFactor 75 = .ok (.ifCond .eq 11, 3) := dGX5_88.2.2.1
theorem dX5_readFactor_78 : decode cX5_readFactor 78 = .ok (.aload_n 0, 1) := dGX5_88.2.2.2.1
theorem dX5_readFactor_79 : decode cX5_readFactor 79 = .ok (.aload_n 1, 1) := dGX5_88.2.2.2.2.1
theorem dX5_readFactor_80 : decode cX5_readFactor 80 = .ok (.invokevirtual 120, 3) := dGX5_88.2.2.2.2.2
theorem dGX5_89 : decode cX5_readFactor 83 = .ok (.goto 34, 3) ∧ decode cX5_readFactor 86 = .ok (.iload 4, 2) ∧ decode cX5_readFactor 88 = .ok (.ifCond .lt 24, 3) ∧ decode cX5_readFactor 91 = .ok (.aload_n 0, 1) ∧ decode cX5_readFactor 92 = .ok (.dup, 1) ∧ decode cX5_readFactor 93 = .ok (.getfield 19, 3) := by decide +kernel
theorem dX5_readFactor_83 : decode cX5_readFactor 83 = .ok (.goto 34, 3) := dGX5_89.1
theorem dX5_readFactor_86 : decode cX5_readFactor 86 = .ok (.iload 4, 2) := dGX5_89.2.1
theorem dX5_readFactor_88 : decode cX5_readFactor 88 = .ok (.ifCond .lt 24, 3) := dGX5_89.2.2.1
theorem dX5_readFactor_91 : decode cX5_readFactor 91 = .ok (.aload_n 0, 1) := dGX5_89.2.2.2.1
theorem dX5_readFactor_92 : decode cX5_readFactor 92 = .ok (.dup, 1) := dGX5_89.2.2.2.2.1
theorem dX5_readFactor_93 : decode cX5_readFactor 93 = .ok (.getfield 19, 3) := dGX5_89.2.2.2.2.2
theorem dGX5_90 : decode cX5_readFactor 96 = .ok (.iconst 1, 1) ∧ decode cX5_readFactor 97 = .ok (.iadd, 1) ∧ decode cX5_readFactor 98 = .ok (.putfield 19, 3) ∧ decode cX5_readFactor 101 = .ok (.aload_n 1, 1) ∧ decode cX5_readFactor 102 = .ok (.iconst 1, 1) ∧ decode cX5_readFactor 103 = .ok (.iload 4, 2) := by decide +kernel
theorem dX5_readFactor_96 : decode cX5_readFactor 96 = .ok (.iconst 1, 1) := dGX5_90.1
theorem dX5_readFactor_97 : decode cX5_readFactor 97 = .ok (.iadd, 1) := dGX5_90.2.1
theorem dX5_readFactor_98 : decode cX5_readFactor 98 = .ok (.putfield 19, 3) := dGX5_90.2.2.1
theorem dX5_readFactor_101 : decode cX5_readFactor 101 = .ok (.aload_n 1, 1) := dGX5_90.2.2.2.1
theorem dX5_readFactor_102 : decode cX5_readFactor 102 = .ok (.iconst 1, 1) := dGX5_90.2.2.2.2.1
theorem dX5_readFactor_103 : decode cX5_readFactor 103 = .ok (.iload 4, 2) := dGX5_90.2.2.2.2.2
theorem dGX5_91 : decode cX5_readFactor 105 = .ok (.invokevirtual 90, 3) ∧ decode cX5_readFactor 108 = .ok (.pop, 1) ∧ decode cX5_readFactor 109 = .ok (.goto 8, 3) ∧ decode cX5_readFactor 112 = .ok (.aload_n 0, 1) ∧ decode cX5_readFactor 113 = .ok (.iconst 1, 1) ∧ decode cX5_readFactor 114 = .ok (.invokevirtual 60, 3) := by decide +kernel
theorem dX5_readFactor_105 : decode cX5_readFactor 105 = .ok (.invokevirtual 90, 3) := dGX5_91.1
theorem dX5_readFactor_108 : decode cX5_readFactor 108 = .ok (.pop, 1) := dGX5_91.2.1
theorem dX5_readFactor_109 : decode cX5_readFactor 109 = .ok (.goto 8, 3) := dGX5_91.2.2.1
theorem dX5_readFactor_112 : decode cX5_readFactor 112 = .ok (.aload_n 0, 1) := dGX5_91.2.2.2.1
theorem dX5_readFactor_113 : decode cX5_readFactor 113 = .ok (.iconst 1, 1) := dGX5_91.2.2.2.2.1
theorem dX5_readFactor_114 : decode cX5_readFactor 114 = .ok (.invokevirtual 60, 3) := dGX5_91.2.2.2.2.2
theorem dGX5_92 : decode cX5_readFactor 117 = .ok (.return_, 1) ∧ decode cX5_readNumber 0 = .ok (.iconst 0, 1) ∧ decode cX5_readNumber 1 = .ok (.istore_n 2, 1) ∧ decode cX5_readNumber 2 = .ok (.iconst 0, 1) ∧ decode cX5_readNumber 3 = .ok (.istore_n 3, 1) ∧ decode cX5_readNumber 4 = .ok (.iload_n 3, 1) := by decide +kernel
theorem dX5_readFactor_117 : decode cX5_readFactor 117 = .ok (.return_, 1) := dGX5_92.1
theorem dX5_readNumber_0 : decode cX5_readNumber 0 = .ok (.iconst 0, 1) := dGX5_92.2.1
theorem dX5_readNumber_1 : decode cX5_readNumber 1 = .ok (.istore_n 2, 1) := dGX5_92.2.2.1
theorem dX5_readNumber_2 : decode cX5_readNumber 2 = .ok (.iconst 0, 1) := dGX5_92.2.2.2.1
theorem dX5_readNumber_3 : decode cX5_readNumber 3 = .ok (.istore_n 3, 1) := dGX5_92.2.2.2.2.1
theorem dX5_readNumber_4 : decode cX5_readNumber 4 = .ok (.iload_n 3, 1) := dGX5_92.2.2.2.2.2
theorem dGX5_93 : decode cX5_readNumber 5 = .ok (.iconst 5, 1) ∧ decode cX5_readNumber 6 = .ok (.if_icmp .ge 42, 3) ∧ decode cX5_readNumber 9 = .ok (.aload_n 0, 1) ∧ decode cX5_readNumber 10 = .ok (.invokevirtual 56, 3) ∧ decode cX5_readNumber 13 = .ok (.invokestatic 117, 3) ∧ decode cX5_readNumber 16 = .ok (.ifCond .eq 32, 3) := by decide +kernel
theorem dX5_readNumber_5 : decode cX5_readNumber 5 = .ok (.iconst 5, 1) := dGX5_93.1
theorem dX5_readNumber_6 : decode cX5_readNumber 6 = .ok (.if_icmp .ge 42, 3) := dGX5_93.2.1
theorem dX5_readNumber_9 : decode cX5_readNumber 9 = .ok (.aload_n 0, 1) := dGX5_93.2.2.1
theorem dX5_readNumber_10 : decode cX5_readNumber 10 = .ok (.invokevirtual 56, 3) := dGX5_93.2.2.2.1
theorem dX5_readNumber_13 : decode cX5_readNumber 13 = .ok (.invokestatic 117, 3) := dGX5_93.2.2.2.2.1
theorem dX5_readNumber_16 : decode cX5_readNumber 16 = .ok (.ifCond .eq 32, 3) := dGX5_93.2.2.2.2.2
theorem dGX5_94 : decode cX5_readNumber 19 = .ok (.iload_n 2, 1) ∧ decode cX5_readNumber 20 = .ok (.bipush 10, 2) ∧ decode cX5_readNumber 22 = .ok (.imul, 1) ∧ decode cX5_readNumber 23 = .ok (.aload_n 0, 1) ∧ decode cX5_readNumber 24 = .ok (.invokevirtual 56, 3) ∧ decode cX5_readNumber 27 = .ok (.iadd, 1) := by decide +kernel
theorem dX5_readNumber_19 : decode cX5_readNumber 19 = .ok (.iload_n 2, 1) := dGX5_94.1
theorem dX5_readNumber_20 : decode cX5_readNumber 20 = .ok (.bipush 10, 2) := dGX5_94.2.1
theorem dX5_readNumber_22 : decode cX5_readNumber 22 = .ok (.imul, 1) := dGX5_94.2.2.1
theorem dX5_readNumber_23 : decode cX5_readNumber 23 = .ok (.aload_n 0, 1) := dGX5_94.2.2.2.1
theorem dX5_readNumber_24 : decode cX5_readNumber 24 = .ok (.invokevirtual 56, 3) := dGX5_94.2.2.2.2.1
theorem dX5_readNumber_27 : decode cX5_readNumber 27 = .ok (.iadd, 1) := dGX5_94.2.2.2.2.2
theorem dGX5_95 : decode cX5_readNumber 28 = .ok (.bipush 48, 2) ∧ decode cX5_readNumber 30 = .ok (.isub, 1) ∧ decode cX5_readNumber 31 = .ok (.istore_n 2, 1) ∧ decode cX5_readNumber 32 = .ok (.aload_n 0, 1) ∧ decode cX5_readNumber 33 = .ok (.dup, 1) ∧ decode cX5_readNumber 34 = .ok (.getfield 19, 3) := by decide +kernel
theorem dX5_readNumber_28 : decode cX5_readNumber 28 = .ok (.bipush 48, 2) := dGX5_95.1
theorem dX5_readNumber_30 : decode cX5_readNumber 30 = .ok (.isub, 1) := dGX5_95.2.1
theorem dX5_readNumber_31 : decode cX5_readNumber 31 = .ok (.istore_n 2, 1) := dGX5_95.2.2.1
theorem dX5_readNumber_32 : decode cX5_readNumber 32 = .ok (.aload_n 0, 1) := dGX5_95.2.2.2.1
theorem dX5_readNumber_33 : decode cX5_readNumber 33 = .ok (.dup, 1) := dGX5_95.2.2.2.2.1
theorem dX5_readNumber_34 : decode cX5_readNumber 34 = .ok (.getfield 19, 3) := dGX5_95.2.2.2.2.2
theorem dGX5_96 : decode cX5_readNumber 37 = .ok (.iconst 1, 1) ∧ decode cX5_readNumber 38 = .ok (.iadd, 1) ∧ decode cX5_readNumber 39 = .ok (.putfield 19, 3) ∧ decode cX5_readNumber 42 = .ok (.iinc 3 1, 3) ∧ decode cX5_readNumber 45 = .ok (.goto (-41), 3) ∧ decode cX5_readNumber 48 = .ok (.aload_n 0, 1) := by decide +kernel
theorem dX5_readNumber_37 : decode cX5_readNumber 37 = .ok (.iconst 1, 1) := dGX5_96.1
theorem dX5_readNumber_38 : decode cX5_readNumber 38 = .ok (.iadd, 1) := dGX5_96.2.1
theorem dX5_readNumber_39 : decode cX5_readNumber 39 = .ok (.putfield 19, 3) := dGX5_96.2.2.1
theorem dX5_readNumber_42 : decode cX5_readNumber 42 = .ok (.iinc 3 1, 3) := dGX5_96.2.2.2.1
theorem dX5_readNumber_45 : decode cX5_readNumber 45 = .ok (.goto (-41), 3) := dGX5_96.2.2.2.2.1
theorem dX5_readNumber_48 : decode cX5_readNumber 48 = .ok (.aload_n 0, 1) := dGX5_96.2.2.2.2.2
theorem dGX5_97 : decode cX5_readNumber 49 = .ok (.invokevirtual 56, 3) ∧ decode cX5_readNumber 52 = .ok (.invokestatic 117, 3) ∧ decode cX5_readNumber 55 = .ok (.ifCond .eq 8, 3) ∧ decode cX5_readNumber 58 = .ok (.aload_n 0, 1) ∧ decode cX5_readNumber 59 = .ok (.iconst 2, 1) ∧ decode cX5_readNumber 60 = .ok (.invokevirtual 60, 3) := by decide +kernel
theorem dX5_readNumber_49 : decode cX5_readNumber 49 = .ok (.invokevirtual 56, 3) := dGX5_97.1
theorem dX5_readNumber_52 : decode cX5_readNumber 52 = .ok (.invokestatic 117, 3) := dGX5_97.2.1
theorem dX5_readNumber_55 : decode cX5_readNumber 55 = .ok (.ifCond .eq 8, 3) := dGX5_97.2.2.1
theorem dX5_readNumber_58 : decode cX5_readNumber 58 = .ok (.aload_n 0, 1) := dGX5_97.2.2.2.1
theorem dX5_readNumber_59 : decode cX5_readNumber 59 = .ok (.iconst 2, 1) := dGX5_97.2.2.2.2.1
theorem dX5_readNumber_60 : decode cX5_readNumber 60 = .ok (.invokevirtual 60, 3) := dGX5_97.2.2.2.2.2
theorem dGX5_98 : decode cX5_readNumber 63 = .ok (.aload_n 1, 1) ∧ decode cX5_readNumber 64 = .ok (.iconst 0, 1) ∧ decode cX5_readNumber 65 = .ok (.iload_n 2, 1) ∧ decode cX5_readNumber 66 = .ok (.invokevirtual 90, 3) ∧ decode cX5_readNumber 69 = .ok (.pop, 1) ∧ decode cX5_readNumber 70 = .ok (.return_, 1) := by decide +kernel
theorem dX5_readNumber_63 : decode cX5_readNumber 63 = .ok (.aload_n 1, 1) := dGX5_98.1
theorem dX5_readNumber_64 : decode cX5_readNumber 64 = .ok (.iconst 0, 1) := dGX5_98.2.1
theorem dX5_readNumber_65 : decode cX5_readNumber 65 = .ok (.iload_n 2, 1) := dGX5_98.2.2.1
theorem dX5_readNumber_66 : decode cX5_readNumber 66 = .ok (.invokevirtual 90, 3) := dGX5_98.2.2.2.1
theorem dX5_readNumber_69 : decode cX5_readNumber 69 = .ok (.pop, 1) := dGX5_98.2.2.2.2.1
theorem dX5_readNumber_70 : decode cX5_readNumber 70 = .ok (.return_, 1) := dGX5_98.2.2.2.2.2
theorem dGX5_99 : decode cX5_isDigit 0 = .ok (.iload_n 0, 1) ∧ decode cX5_isDigit 1 = .ok (.bipush 48, 2) ∧ decode cX5_isDigit 3 = .ok (.if_icmp .lt 13, 3) ∧ decode cX5_isDigit 6 = .ok (.iload_n 0, 1) ∧ decode cX5_isDigit 7 = .ok (.bipush 57, 2) ∧ decode cX5_isDigit 9 = .ok (.if_icmp .gt 7, 3) := by decide +kernel
theorem dX5_isDigit_0 : decode cX5_isDigit 0 = .ok (.iload_n 0, 1) := dGX5_99.1
theorem dX5_isDigit_1 : decode cX5_isDigit 1 = .ok (.bipush 48, 2) := dGX5_99.2.1
theorem dX5_isDigit_3 : decode cX5_isDigit 3 = .ok (.if_icmp .lt 13, 3) := dGX5_99.2.2.1
theorem dX5_isDigit_6 : decode cX5_isDigit 6 = .ok (.iload_n 0, 1) := dGX5_99.2.2.2.1
theorem dX5_isDigit_7 : decode cX5_isDigit 7 = .ok (.bipush 57, 2) := dGX5_99.2.2.2.2.1
theorem dX5_isDigit_9 : decode cX5_isDigit 9 = .ok (.if_icmp .gt 7, 3) := dGX5_99.2.2.2.2.2
theorem dGX5_100 : decode cX5_isDigit 12 = .ok (.iconst 1, 1) ∧ decode cX5_isDigit 13 = .ok (.goto 4, 3) ∧ decode cX5_isDigit 16 = .ok (.iconst 0, 1) ∧ decode cX5_isDigit 17 = .ok (.ireturn, 1) := by decide +kernel
theorem dX5_isDigit_12 : decode cX5_isDigit 12 = .ok (.iconst 1, 1) := dGX5_100.1
theorem dX5_isDigit_13 : decode cX5_isDigit 13 = .ok (.goto 4, 3) := dGX5_100.2.1
theorem dX5_isDigit_16 : decode cX5_isDigit 16 = .ok (.iconst 0, 1) := dGX5_100.2.2.1
theorem dX5_isDigit_17 : decode cX5_isDigit 17 = .ok (.ireturn, 1) := dGX5_100.2.2.2
theorem dGX6_0 : decode cX6_init 0 = .ok (.aload_n 0, 1) ∧ decode cX6_init 1 = .ok (.invokespecial 3, 3) ∧ decode cX6_init 4 = .ok (.aload_n 0, 1) ∧ decode cX6_init 5 = .ok (.iconst 0, 1) ∧ decode cX6_init 6 = .ok (.putfield 9, 3) ∧ decode cX6_init 9 = .ok (.aload_n 0, 1) := by decide +kernel
theorem dX6_init_0 : decode cX6_init 0 = .ok (.aload_n 0, 1) := dGX6_0.1
theorem dX6_init_1 : decode cX6_init 1 = .ok (.invokespecial 3, 3) := dGX6_0.2.1
theorem dX6_init_4 : decode cX6_init 4 = .ok (.aload_n 0, 1) := dGX6_0.2.2.1
theorem dX6_init_5 : decode cX6_init 5 = .ok (.iconst 0, 1) := dGX6_0.2.2.2.1
theorem dX6_init_6 : decode cX6_init 6 = .ok (.putfield 9, 3) := dGX6_0.2.2.2.2.1
theorem dX6_init_9 : decode cX6_init 9 = .ok (.aload_n 0, 1) := dGX6_0.2.2.2.2.2
theorem dGX6_1 : decode cX6_init 10 = .ok (.bipush 10, 2) ∧ decode cX6_init 12 = .ok (.newarray .int, 2) ∧ decode cX6_init 14 = .ok (.putfield 15, 3) ∧ decode cX6_init 17 = .ok (.aload_n 0, 1) ∧ decode cX6_init 18 = .ok (.bipush 10, 2) ∧ decode cX6_init 20 = .ok (.newarray .int, 2) := by decide +kernel
theorem dX6_init_10 : decode cX6_init 10 = .ok (.bipush 10, 2) := dGX6_1.1
theorem dX6_init_12 : decode cX6_init 12 = .ok (.newarray .int, 2) := dGX6_1.2.1
theorem dX6_init_14 : decode cX6_init 14 = .ok (.putfield 15, 3) := dGX6_1.2.2.1
theorem dX6_init_17 : decode cX6_init 17 = .ok (.aload_n 0, 1) := dGX6_1.2.2.2.1
theorem dX6_init_18 : decode cX6_init 18 = .ok (.bipush 10, 2) := dGX6_1.2.2.2.2.1
theorem dX6_init_20 : decode cX6_init 20 = .ok (.newarray .int, 2) := dGX6_1.2.2.2.2.2
theorem dGX6_2 : decode cX6_init 22 = .ok (.putfield 19, 3) ∧ decode cX6_init 25 = .ok (.aload_n 0, 1) ∧ decode cX6_init 26 = .ok (.bipush 10, 2) ∧ decode cX6_init 28 = .ok (.newarray .int, 2) ∧ decode cX6_init 30 = .ok (.putfield 22, 3) ∧ decode cX6_init 33 = .ok (.return_, 1) := by decide +kernel
theorem dX6_init_22 : decode cX6_init 22 = .ok (.putfield 19, 3) := dGX6_2.1
theorem dX6_init_25 : decode cX6_init 25 = .ok (.aload_n 0, 1) := dGX6_2.2.1
theorem dX6_init_26 : decode cX6_init 26 = .ok (.bipush 10, 2) := dGX6_2.2.2.1
theorem dX6_init_28 : decode cX6_init 28 = .ok (.newarray .int, 2) := dGX6_2.2.2.2.1
theorem dX6_init_30 : decode cX6_init 30 = .ok (.putfield 22, 3) := dGX6_2.2.2.2.2.1
theorem dX6_init_33 : decode cX6_init 33 = .ok (.return_, 1) := dGX6_2.2.2.2.2.2
theorem dGX6_3 : decode cX6_has 0 = .ok (.iload_n 1, 1) ∧ decode cX6_has 1 = .ok (.ifCond .lt 15, 3) ∧ decode cX6_has 4 = .ok (.iload_n 1, 1) ∧ decode cX6_has 5 = .ok (.aload_n 0, 1) ∧ decode cX6_has 6 = .ok (.getfield 9, 3) ∧ decode cX6_has 9 = .ok (.if_icmp .ge 7, 3) := by decide +kernel
theorem dX6_has_0 : decode cX6_has 0 = .ok (.iload_n 1, 1) := dGX6_3.1
theorem dX6_has_1 : decode cX6_has 1 = .ok (.ifCond .lt 15, 3) := dGX6_3.2.1
theorem dX6_has_4 : decode cX6_has 4 = .ok (.iload_n 1, 1) := dGX6_3.2.2.1
theorem dX6_has_5 : decode cX6_has 5 = .ok (.aload_n 0, 1) := dGX6_3.2.2.2.1
theorem dX6_has_6 : decode cX6_has 6 = .ok (.getfield 9, 3) := dGX6_3.2.2.2.2.1
theorem dX6_has_9 : decode cX6_has 9 = .ok (.if_icmp .ge 7, 3) := dGX6_3.2.2.2.2.2
theorem dGX6_4 : decode cX6_has 12 = .ok (.iconst 1, 1) ∧ decode cX6_has 13 = .ok (.goto 4, 3) ∧ decode cX6_has 16 = .ok (.iconst 0, 1) ∧ decode cX6_has 17 = .ok (.ireturn, 1) ∧ decode cX6_add 0 = .ok (.aload_n 0, 1) ∧ decode cX6_add 1 = .ok (.getfield 9, 3) := by decide +kernel
theorem dX6_has_12 : decode cX6_has 12 = .ok (.iconst 1, 1) := dGX6_4.1
theorem dX6_has_13 : decode cX6_has 13 = .ok (.goto 4, 3) := dGX6_4.2.1
theorem dX6_has_16 : decode cX6_has 16 = .ok (.iconst 0, 1) := dGX6_4.2.2.1
theorem dX6_has_17 : decode cX6_has 17 = .ok (.ireturn, 1) := dGX6_4.2.2.2.1
theorem dX6_add_0 : decode cX6_add 0 = .ok (.aload_n 0, 1) := dGX6_4.2.2.2.2.1
theorem dX6_add_1 : decode cX6_add 1 = .ok (.getfield 9, 3) := dGX6_4.2.2.2.2.2
theorem dGX6_5 : decode cX6_add 4 = .ok (.bipush 10, 2) ∧ decode cX6_add 6 = .ok (.if_icmp .lt 5, 3) ∧ decode cX6_add 9 = .ok (.iconst (-1), 1) ∧ decode cX6_add 10 = .ok (.ireturn, 1) ∧ decode cX6_add 11 = .ok (.aload_n 0, 1) ∧ decode cX6_add 12 = .ok (.getfield 15, 3) := by decide +kernel
theorem dX6_add_4 : decode cX6_add 4 = .ok (.bipush 10, 2) := dGX6_5.1
theorem dX6_add_6 : decode cX6_add 6 = .ok (.if_icmp .lt 5, 3) := dGX6_5.2.1
theorem dX6_add_9 : decode cX6_add 9 = .ok (.iconst (-1), 1) := dGX6_5.2.2.1
theorem dX6_add_10 : decode cX6_add 10 = .ok (.ireturn, 1) := dGX6_5.2.2.2.1
theorem dX6_add_11 : decode cX6_add 11 = .ok (.aload_n 0, 1) := dGX6_5.2.2.2.2.1
theorem dX6_add_12 : decode cX6_add 12 = .ok (.getfield 15, 3) := dGX6_5.2.2.2.2.2
theorem dGX6_6 : decode cX6_add 15 = .ok (.aload_n 0, 1) ∧ decode cX6_add 16 = .ok (.getfield 9, 3) ∧ decode cX6_add 19 = .ok (.iload_n 1, 1) ∧ decode cX6_add 20 = .ok (.iastore, 1) ∧ decode cX6_add 21 = .ok (.aload_n 0, 1) ∧ decode cX6_add 22 = .ok (.getfield 19, 3) := by decide +kernel
theorem dX6_add_15 : decode cX6_add 15 = .ok (.aload_n 0, 1) := dGX6_6.1
theorem dX6_add_16 : decode cX6_add 16 = .ok (.getfield 9, 3) := dGX6_6.2.1
theorem dX6_add_19 : decode cX6_add 19 = .ok (.iload_n 1, 1) := dGX6_6.2.2.1
theorem dX6_add_20 : decode cX6_add 20 = .ok (.iastore, 1) := dGX6_6.2.2.2.1
theorem dX6_add_21 : decode cX6_add 21 = .ok (.aload_n 0, 1) := dGX6_6.2.2.2.2.1
theorem dX6_add_22 : decode cX6_add 22 = .ok (.getfield 19, 3) := dGX6_6.2.2.2.2.2
theorem dGX6_7 : decode cX6_add 25 = .ok (.aload_n 0, 1) ∧ decode cX6_add 26 = .ok (.getfield 9, 3) ∧ decode cX6_add 29 = .ok (.iload_n 2, 1) ∧ decode cX6_add 30 = .ok (.iastore, 1) ∧ decode cX6_add 31 = .ok (.aload_n 0, 1) ∧ decode cX6_add 32 = .ok (.getfield 22, 3) := by decide +kernel
theorem dX6_add_25 : decode cX6_add 25 = .ok (.aload_n 0, 1) := dGX6_7.1
theorem dX6_add_26 : decode cX6_add 26 = .ok (.getfield 9, 3) := dGX6_7.2.1
theorem dX6_add_29 : decode cX6_add 29 = .ok (.iload_n 2, 1) := dGX6_7.2.2.1
theorem dX6_add_30 : decode cX6_add 30 = .ok (.iastore, 1) := dGX6_7.2.2.2.1
theorem dX6_add_31 : decode cX6_add 31 = .ok (.aload_n 0, 1) := dGX6_7.2.2.2.2.1
theorem dX6_add_32 : decode cX6_add 32 = .ok (.getfield 22, 3) := dGX6_7.2.2.2.2.2
theorem dGX6_8 : decode cX6_add 35 = .ok (.aload_n 0, 1) ∧ decode cX6_add 36 = .ok (.getfield 9, 3) ∧ decode cX6_add 39 = .ok (.iload_n 3, 1) ∧ decode cX6_add 40 = .ok (.iastore, 1) ∧ decode cX6_add 41 = .ok (.aload_n 0, 1) ∧ decode cX6_add 42 = .ok (.dup, 1) := by decide +kernel
theorem dX6_add_35 : decode cX6_add 35 = .ok (.aload_n 0, 1) := dGX6_8.1
theorem dX6_add_36 : decode cX6_add 36 = .ok (.getfield 9, 3) := dGX6_8.2.1
theorem dX6_add_39 : decode cX6_add 39 = .ok (.iload_n 3, 1) := dGX6_8.2.2.1
theorem dX6_add_40 : decode cX6_add 40 = .ok (.iastore, 1) := dGX6_8.2.2.2.1
theorem dX6_add_41 : decode cX6_add 41 = .ok (.aload_n 0, 1) := dGX6_8.2.2.2.2.1
theorem dX6_add_42 : decode cX6_add 42 = .ok (.dup, 1) := dGX6_8.2.2.2.2.2
theorem dGX6_9 : decode cX6_add 43 = .ok (.getfield 9, 3) ∧ decode cX6_add 46 = .ok (.iconst 1, 1) ∧ decode cX6_add 47 = .ok (.iadd, 1) ∧ decode cX6_add 48 = .ok (.putfield 9, 3) ∧ decode cX6_add 51 = .ok (.aload_n 0, 1) ∧ decode cX6_add 52 = .ok (.getfield 9, 3) := by decide +kernel
theorem dX6_add_43 : decode cX6_add 43 = .ok (.getfield 9, 3) := dGX6_9.1
theorem dX6_add_46 : decode cX6_add 46 = .ok (.iconst 1, 1) := dGX6_9.2.1
theorem dX6_add_47 : decode cX6_add 47 = .ok (.iadd, 1) := dGX6_9.2.2.1
theorem dX6_add_48 : decode cX6_add 48 = .ok (.putfield 9, 3) := dGX6_9.2.2.2.1
theorem dX6_add_51 : decode cX6_add 51 = .ok (.aload_n 0, 1) := dGX6_9.2.2.2.2.1
theorem dX6_add_52 : decode cX6_add 52 = .ok (.getfield 9, 3) := dGX6_9.2.2.2.2.2
theorem dGX6_10 : decode cX6_add 55 = .ok (.iconst 1, 1) ∧ decode cX6_add 56 = .ok (.isub, 1) ∧ decode cX6_add 57 = .ok (.ireturn, 1) ∧ decode cX6_allSlates 0 = .ok (.iconst 0, 1) ∧ decode cX6_allSlates 1 = .ok (.istore_n 1, 1) ∧ decode cX6_allSlates 2 = .ok (.iconst 0, 1) := by decide +kernel
theorem dX6_add_55 : decode cX6_add 55 = .ok (.iconst 1, 1) := dGX6_10.1
theorem dX6_add_56 : decode cX6_add 56 = .ok (.isub, 1) := dGX6_10.2.1
theorem dX6_add_57 : decode cX6_add 57 = .ok (.ireturn, 1) := dGX6_10.2.2.1
theorem dX6_allSlates_0 : decode cX6_allSlates 0 = .ok (.iconst 0, 1) := dGX6_10.2.2.2.1
theorem dX6_allSlates_1 : decode cX6_allSlates 1 = .ok (.istore_n 1, 1) := dGX6_10.2.2.2.2.1
theorem dX6_allSlates_2 : decode cX6_allSlates 2 = .ok (.iconst 0, 1) := dGX6_10.2.2.2.2.2
theorem dGX6_11 : decode cX6_allSlates 3 = .ok (.istore_n 2, 1) ∧ decode cX6_allSlates 4 = .ok (.iload_n 2, 1) ∧ decode cX6_allSlates 5 = .ok (.aload_n 0, 1) ∧ decode cX6_allSlates 6 = .ok (.getfield 9, 3) ∧ decode cX6_allSlates 9 = .ok (.if_icmp .ge 18, 3) ∧ decode cX6_allSlates 12 = .ok (.iload_n 1, 1) := by decide +kernel
theorem dX6_allSlates_3 : decode cX6_allSlates 3 = .ok (.istore_n 2, 1) := dGX6_11.1
theorem dX6_allSlates_4 : decode cX6_allSlates 4 = .ok (.iload_n 2, 1) := dGX6_11.2.1
theorem dX6_allSlates_5 : decode cX6_allSlates 5 = .ok (.aload_n 0, 1) := dGX6_11.2.2.1
theorem dX6_allSlates_6 : decode cX6_allSlates 6 = .ok (.getfield 9, 3) := dGX6_11.2.2.2.1
theorem dX6_allSlates_9 : decode cX6_allSlates 9 = .ok (.if_icmp .ge 18, 3) := dGX6_11.2.2.2.2.1
theorem dX6_allSlates_12 : decode cX6_allSlates 12 = .ok (.iload_n 1, 1) := dGX6_11.2.2.2.2.2
theorem dGX6_12 : decode cX6_allSlates 13 = .ok (.aload_n 0, 1) ∧ decode cX6_allSlates 14 = .ok (.getfield 19, 3) ∧ decode cX6_allSlates 17 = .ok (.iload_n 2, 1) ∧ decode cX6_allSlates 18 = .ok (.iaload, 1) ∧ decode cX6_allSlates 19 = .ok (.iadd, 1) ∧ decode cX6_allSlates 20 = .ok (.istore_n 1, 1) := by decide +kernel
theorem dX6_allSlates_13 : decode cX6_allSlates 13 = .ok (.aload_n 0, 1) := dGX6_12.1
theorem dX6_allSlates_14 : decode cX6_allSlates 14 = .ok (.getfield 19, 3) := dGX6_12.2.1
theorem dX6_allSlates_17 : decode cX6_allSlates 17 = .ok (.iload_n 2, 1) := dGX6_12.2.2.1
theorem dX6_allSlates_18 : decode cX6_allSlates 18 = .ok (.iaload, 1) := dGX6_12.2.2.2.1
theorem dX6_allSlates_19 : decode cX6_allSlates 19 = .ok (.iadd, 1) := dGX6_12.2.2.2.2.1
theorem dX6_allSlates_20 : decode cX6_allSlates 20 = .ok (.istore_n 1, 1) := dGX6_12.2.2.2.2.2
theorem dGX6_13 : decode cX6_allSlates 21 = .ok (.iinc 2 1, 3) ∧ decode cX6_allSlates 24 = .ok (.goto (-20), 3) ∧ decode cX6_allSlates 27 = .ok (.iload_n 1, 1) ∧ decode cX6_allSlates 28 = .ok (.ireturn, 1) ∧ decode cX6_copyFrom 0 = .ok (.aload_n 0, 1) ∧ decode cX6_copyFrom 1 = .ok (.aload_n 1, 1) := by decide +kernel
theorem dX6_allSlates_21 : decode cX6_allSlates 21 = .ok (.iinc 2 1, 3) := dGX6_13.1
theorem dX6_allSlates_24 : decode cX6_allSlates 24 = .ok (.goto (-20), 3) := dGX6_13.2.1
theorem dX6_allSlates_27 : decode cX6_allSlates 27 = .ok (.iload_n 1, 1) := dGX6_13.2.2.1
theorem dX6_allSlates_28 : decode cX6_allSlates 28 = .ok (.ireturn, 1) := dGX6_13.2.2.2.1
theorem dX6_copyFrom_0 : decode cX6_copyFrom 0 = .ok (.aload_n 0, 1) := dGX6_13.2.2.2.2.1
theorem dX6_copyFrom_1 : decode cX6_copyFrom 1 = .ok (.aload_n 1, 1) := dGX6_13.2.2.2.2.2
theorem dGX6_14 : decode cX6_copyFrom 2 = .ok (.getfield 9, 3) ∧ decode cX6_copyFrom 5 = .ok (.putfield 9, 3) ∧ decode cX6_copyFrom 8 = .ok (.aload_n 1, 1) ∧ decode cX6_copyFrom 9 = .ok (.getfield 15, 3) ∧ decode cX6_copyFrom 12 = .ok (.iconst 0, 1) ∧ decode cX6_copyFrom 13 = .ok (.aload_n 0, 1) := by decide +kernel
theorem dX6_copyFrom_2 : decode cX6_copyFrom 2 = .ok (.getfield 9, 3) := dGX6_14.1
theorem dX6_copyFrom_5 : decode cX6_copyFrom 5 = .ok (.putfield 9, 3) := dGX6_14.2.1
theorem dX6_copyFrom_8 : decode cX6_copyFrom 8 = .ok (.aload_n 1, 1) := dGX6_14.2.2.1
theorem dX6_copyFrom_9 : decode cX6_copyFrom 9 = .ok (.getfield 15, 3) := dGX6_14.2.2.2.1
theorem dX6_copyFrom_12 : decode cX6_copyFrom 12 = .ok (.iconst 0, 1) := dGX6_14.2.2.2.2.1
theorem dX6_copyFrom_13 : decode cX6_copyFrom 13 = .ok (.aload_n 0, 1) := dGX6_14.2.2.2.2.2
theorem dGX6_15 : decode cX6_copyFrom 14 = .ok (.getfield 15, 3) ∧ decode cX6_copyFrom 17 = .ok (.iconst 0, 1) ∧ decode cX6_copyFrom 18 = .ok (.bipush 10, 2) ∧ decode cX6_copyFrom 20 = .ok (.invokestatic 25, 3) ∧ decode cX6_copyFrom 23 = .ok (.aload_n 1, 1) ∧ decode cX6_copyFrom 24 = .ok (.getfield 19, 3) := by decide +kernel
theorem dX6_copyFrom_14 : decode cX6_copyFrom 14 = .ok (.getfield 15, 3) := dGX6_15.1
theorem dX6_copyFrom_17 : decode cX6_copyFrom 17 = .ok (.iconst 0, 1) := dGX6_15.2.1
theorem dX6_copyFrom_18 : decode cX6_copyFrom 18 = .ok (.bipush 10, 2) := dGX6_15.2.2.1
theorem dX6_copyFrom_20 : decode cX6_copyFrom 20 = .ok (.invokestatic 25, 3) := dGX6_15.2.2.2.1
theorem dX6_copyFrom_23 : decode cX6_copyFrom 23 = .ok (.aload_n 1, 1) := dGX6_15.2.2.2.2.1
theorem dX6_copyFrom_24 : decode cX6_copyFrom 24 = .ok (.getfield 19, 3) := dGX6_15.2.2.2.2.2
theorem dGX6_16 : decode cX6_copyFrom 27 = .ok (.iconst 0, 1) ∧ decode cX6_copyFrom 28 = .ok (.aload_n 0, 1) ∧ decode cX6_copyFrom 29 = .ok (.getfield 19, 3) ∧ decode cX6_copyFrom 32 = .ok (.iconst 0, 1) ∧ decode cX6_copyFrom 33 = .ok (.bipush 10, 2) ∧ decode cX6_copyFrom 35 = .ok (.invokestatic 25, 3) := by decide +kernel
theorem dX6_copyFrom_27 : decode cX6_copyFrom 27 = .ok (.iconst 0, 1) := dGX6_16.1
theorem dX6_copyFrom_28 : decode cX6_copyFrom 28 = .ok (.aload_n 0, 1) := dGX6_16.2.1
theorem dX6_copyFrom_29 : decode cX6_copyFrom 29 = .ok (.getfield 19, 3) := dGX6_16.2.2.1
theorem dX6_copyFrom_32 : decode cX6_copyFrom 32 = .ok (.iconst 0, 1) := dGX6_16.2.2.2.1
theorem dX6_copyFrom_33 : decode cX6_copyFrom 33 = .ok (.bipush 10, 2) := dGX6_16.2.2.2.2.1
theorem dX6_copyFrom_35 : decode cX6_copyFrom 35 = .ok (.invokestatic 25, 3) := dGX6_16.2.2.2.2.2
theorem dGX6_17 : decode cX6_copyFrom 38 = .ok (.aload_n 1, 1) ∧ decode cX6_copyFrom 39 = .ok (.getfield 22, 3) ∧ decode cX6_copyFrom 42 = .ok (.iconst 0, 1) ∧ decode cX6_copyFrom 43 = .ok (.aload_n 0, 1) ∧ decode cX6_copyFrom 44 = .ok (.getfield 22, 3) ∧ decode cX6_copyFrom 47 = .ok (.iconst 0, 1) := by decide +kernel
theorem dX6_copyFrom_38 : decode cX6_copyFrom 38 = .ok (.aload_n 1, 1) := dGX6_17.1
theorem dX6_copyFrom_39 : decode cX6_copyFrom 39 = .ok (.getfield 22, 3) := dGX6_17.2.1
theorem dX6_copyFrom_42 : decode cX6_copyFrom 42 = .ok (.iconst 0, 1) := dGX6_17.2.2.1
theorem dX6_copyFrom_43 : decode cX6_copyFrom 43 = .ok (.aload_n 0, 1) := dGX6_17.2.2.2.1
theorem dX6_copyFrom_44 : decode cX6_copyFrom 44 = .ok (.getfield 22, 3) := dGX6_17.2.2.2.2.1
theorem dX6_copyFrom_47 : decode cX6_copyFrom 47 = .ok (.iconst 0, 1) := dGX6_17.2.2.2.2.2
theorem dGX6_18 : decode cX6_copyFrom 48 = .ok (.bipush 10, 2) ∧ decode cX6_copyFrom 50 = .ok (.invokestatic 25, 3) ∧ decode cX6_copyFrom 53 = .ok (.return_, 1) := by decide +kernel
theorem dX6_copyFrom_48 : decode cX6_copyFrom 48 = .ok (.bipush 10, 2) := dGX6_18.1
theorem dX6_copyFrom_50 : decode cX6_copyFrom 50 = .ok (.invokestatic 25, 3) := dGX6_18.2.1
theorem dX6_copyFrom_53 : decode cX6_copyFrom 53 = .ok (.return_, 1) := dGX6_18.2.2
theorem dGX7_0 : decode cX7_init 0 = .ok (.aload_n 0, 1) ∧ decode cX7_init 1 = .ok (.invokespecial 3, 3) ∧ decode cX7_init 4 = .ok (.aload_n 0, 1) ∧ decode cX7_init 5 = .ok (.iconst (-1), 1) ∧ decode cX7_init 6 = .ok (.putfield 9, 3) ∧ decode cX7_init 9 = .ok (.aload_n 0, 1) := by decide +kernel
theorem dX7_init_0 : decode cX7_init 0 = .ok (.aload_n 0, 1) := dGX7_0.1
theorem dX7_init_1 : decode cX7_init 1 = .ok (.invokespecial 3, 3) := dGX7_0.2.1
theorem dX7_init_4 : decode cX7_init 4 = .ok (.aload_n 0, 1) := dGX7_0.2.2.1
theorem dX7_init_5 : decode cX7_init 5 = .ok (.iconst (-1), 1) := dGX7_0.2.2.2.1
theorem dX7_init_6 : decode cX7_init 6 = .ok (.putfield 9, 3) := dGX7_0.2.2.2.2.1
theorem dX7_init_9 : decode cX7_init 9 = .ok (.aload_n 0, 1) := dGX7_0.2.2.2.2.2
theorem dGX7_1 : decode cX7_init 10 = .ok (.iconst 0, 1) ∧ decode cX7_init 11 = .ok (.putfield 15, 3) ∧ decode cX7_init 14 = .ok (.aload_n 0, 1) ∧ decode cX7_init 15 = .ok (.iconst 3, 1) ∧ decode cX7_init 16 = .ok (.newarray .int, 2) ∧ decode cX7_init 18 = .ok (.putfield 18, 3) := by decide +kernel
theorem dX7_init_10 : decode cX7_init 10 = .ok (.iconst 0, 1) := dGX7_1.1
theorem dX7_init_11 : decode cX7_init 11 = .ok (.putfield 15, 3) := dGX7_1.2.1
theorem dX7_init_14 : decode cX7_init 14 = .ok (.aload_n 0, 1) := dGX7_1.2.2.1
theorem dX7_init_15 : decode cX7_init 15 = .ok (.iconst 3, 1) := dGX7_1.2.2.2.1
theorem dX7_init_16 : decode cX7_init 16 = .ok (.newarray .int, 2) := dGX7_1.2.2.2.2.1
theorem dX7_init_18 : decode cX7_init 18 = .ok (.putfield 18, 3) := dGX7_1.2.2.2.2.2
theorem dGX7_2 : decode cX7_init 21 = .ok (.aload_n 0, 1) ∧ decode cX7_init 22 = .ok (.iconst 0, 1) ∧ decode cX7_init 23 = .ok (.putfield 22, 3) ∧ decode cX7_init 26 = .ok (.aload_n 0, 1) ∧ decode cX7_init 27 = .ok (.iconst 3, 1) ∧ decode cX7_init 28 = .ok (.newarray .int, 2) := by decide +kernel
theorem dX7_init_21 : decode cX7_init 21 = .ok (.aload_n 0, 1) := dGX7_2.1
theorem dX7_init_22 : decode cX7_init 22 = .ok (.iconst 0, 1) := dGX7_2.2.1
theorem dX7_init_23 : decode cX7_init 23 = .ok (.putfield 22, 3) := dGX7_2.2.2.1
theorem dX7_init_26 : decode cX7_init 26 = .ok (.aload_n 0, 1) := dGX7_2.2.2.2.1
theorem dX7_init_27 : decode cX7_init 27 = .ok (.iconst 3, 1) := dGX7_2.2.2.2.2.1
theorem dX7_init_28 : decode cX7_init 28 = .ok (.newarray .int, 2) := dGX7_2.2.2.2.2.2
theorem dGX7_3 : decode cX7_init 30 = .ok (.putfield 25, 3) ∧ decode cX7_init 33 = .ok (.aload_n 0, 1) ∧ decode cX7_init 34 = .ok (.iconst 3, 1) ∧ decode cX7_init 35 = .ok (.newarray .int, 2) ∧ decode cX7_init 37 = .ok (.putfield 28, 3) ∧ decode cX7_init 40 = .ok (.return_, 1) := by decide +kernel
theorem dX7_init_30 : decode cX7_init 30 = .ok (.putfield 25, 3) := dGX7_3.1
theorem dX7_init_33 : decode cX7_init 33 = .ok (.aload_n 0, 1) := dGX7_3.2.1
theorem dX7_init_34 : decode cX7_init 34 = .ok (.iconst 3, 1) := dGX7_3.2.2.1
theorem dX7_init_35 : decode cX7_init 35 = .ok (.newarray .int, 2) := dGX7_3.2.2.2.1
theorem dX7_init_37 : decode cX7_init 37 = .ok (.putfield 28, 3) := dGX7_3.2.2.2.2.1
theorem dX7_init_40 : decode cX7_init 40 = .ok (.return_, 1) := dGX7_3.2.2.2.2.2
theorem dGX7_4 : decode cX7_search 0 = .ok (.aload_n 0, 1) ∧ decode cX7_search 1 = .ok (.iconst (-1), 1) ∧ decode cX7_search 2 = .ok (.putfield 9, 3) ∧ decode cX7_search 5 = .ok (.aload_n 0, 1) ∧ decode cX7_search 6 = .ok (.aload_n 1, 1) ∧ decode cX7_search 7 = .ok (.iload 4, 2) := by decide +kernel
theorem dX7_search_0 : decode cX7_search 0 = .ok (.aload_n 0, 1) := dGX7_4.1
theorem dX7_search_1 : decode cX7_search 1 = .ok (.iconst (-1), 1) := dGX7_4.2.1
theorem dX7_search_2 : decode cX7_search 2 = .ok (.putfield 9, 3) := dGX7_4.2.2.1
theorem dX7_search_5 : decode cX7_search 5 = .ok (.aload_n 0, 1) := dGX7_4.2.2.2.1
theorem dX7_search_6 : decode cX7_search 6 = .ok (.aload_n 1, 1) := dGX7_4.2.2.2.2.1
theorem dX7_search_7 : decode cX7_search 7 = .ok (.iload 4, 2) := dGX7_4.2.2.2.2.2
theorem dGX7_5 : decode cX7_search 9 = .ok (.invokevirtual 31, 3) ∧ decode cX7_search 12 = .ok (.iconst 1, 1) ∧ decode cX7_search 13 = .ok (.istore 7, 2) ∧ decode cX7_search 15 = .ok (.iconst 0, 1) ∧ decode cX7_search 16 = .ok (.istore 8, 2) ∧ decode cX7_search 18 = .ok (.iload 8, 2) := by decide +kernel
theorem dX7_search_9 : decode cX7_search 9 = .ok (.invokevirtual 31, 3) := dGX7_5.1
theorem dX7_search_12 : decode cX7_search 12 = .ok (.iconst 1, 1) := dGX7_5.2.1
theorem dX7_search_13 : decode cX7_search 13 = .ok (.istore 7, 2) := dGX7_5.2.2.1
theorem dX7_search_15 : decode cX7_search 15 = .ok (.iconst 0, 1) := dGX7_5.2.2.2.1
theorem dX7_search_16 : decode cX7_search 16 = .ok (.istore 8, 2) := dGX7_5.2.2.2.2.1
theorem dX7_search_18 : decode cX7_search 18 = .ok (.iload 8, 2) := dGX7_5.2.2.2.2.2
theorem dGX7_6 : decode cX7_search 20 = .ok (.aload_n 0, 1) ∧ decode cX7_search 21 = .ok (.getfield 22, 3) ∧ decode cX7_search 24 = .ok (.if_icmp .ge 29, 3) ∧ decode cX7_search 27 = .ok (.iload 7, 2) ∧ decode cX7_search 29 = .ok (.aload_n 1, 1) ∧ decode cX7_search 30 = .ok (.getfield 35, 3) := by decide +kernel
theorem dX7_search_20 : decode cX7_search 20 = .ok (.aload_n 0, 1) := dGX7_6.1
theorem dX7_search_21 : decode cX7_search 21 = .ok (.getfield 22, 3) := dGX7_6.2.1
theorem dX7_search_24 : decode cX7_search 24 = .ok (.if_icmp .ge 29, 3) := dGX7_6.2.2.1
theorem dX7_search_27 : decode cX7_search 27 = .ok (.iload 7, 2) := dGX7_6.2.2.2.1
theorem dX7_search_29 : decode cX7_search 29 = .ok (.aload_n 1, 1) := dGX7_6.2.2.2.2.1
theorem dX7_search_30 : decode cX7_search 30 = .ok (.getfield 35, 3) := dGX7_6.2.2.2.2.2
theorem dGX7_7 : decode cX7_search 33 = .ok (.getfield 41, 3) ∧ decode cX7_search 36 = .ok (.imul, 1) ∧ decode cX7_search 37 = .ok (.istore 7, 2) ∧ decode cX7_search 39 = .ok (.aload_n 0, 1) ∧ decode cX7_search 40 = .ok (.getfield 28, 3) ∧ decode cX7_search 43 = .ok (.iload 8, 2) := by decide +kernel
theorem dX7_search_33 : decode cX7_search 33 = .ok (.getfield 41, 3) := dGX7_7.1
theorem dX7_search_36 : decode cX7_search 36 = .ok (.imul, 1) := dGX7_7.2.1
theorem dX7_search_37 : decode cX7_search 37 = .ok (.istore 7, 2) := dGX7_7.2.2.1
theorem dX7_search_39 : decode cX7_search 39 = .ok (.aload_n 0, 1) := dGX7_7.2.2.2.1
theorem dX7_search_40 : decode cX7_search 40 = .ok (.getfield 28, 3) := dGX7_7.2.2.2.2.1
theorem dX7_search_43 : decode cX7_search 43 = .ok (.iload 8, 2) := dGX7_7.2.2.2.2.2
theorem dGX7_8 : decode cX7_search 45 = .ok (.iconst 0, 1) ∧ decode cX7_search 46 = .ok (.iastore, 1) ∧ decode cX7_search 47 = .ok (.iinc 8 1, 3) ∧ decode cX7_search 50 = .ok (.goto (-32), 3) ∧ decode cX7_search 53 = .ok (.iconst 0, 1) ∧ decode cX7_search 54 = .ok (.istore 8, 2) := by decide +kernel
theorem dX7_search_45 : decode cX7_search 45 = .ok (.iconst 0, 1) := dGX7_8.1
theorem dX7_search_46 : decode cX7_search 46 = .ok (.iastore, 1) := dGX7_8.2.1
theorem dX7_search_47 : decode cX7_search 47 = .ok (.iinc 8 1, 3) := dGX7_8.2.2.1
theorem dX7_search_50 : decode cX7_search 50 = .ok (.goto (-32), 3) := dGX7_8.2.2.2.1
theorem dX7_search_53 : decode cX7_search 53 = .ok (.iconst 0, 1) := dGX7_8.2.2.2.2.1
theorem dX7_search_54 : decode cX7_search 54 = .ok (.istore 8, 2) := dGX7_8.2.2.2.2.2
theorem dGX7_9 : decode cX7_search 56 = .ok (.iload 8, 2) ∧ decode cX7_search 58 = .ok (.iload 7, 2) ∧ decode cX7_search 60 = .ok (.if_icmp .ge 59, 3) ∧ decode cX7_search 63 = .ok (.aload_n 2, 1) ∧ decode cX7_search 64 = .ok (.aload_n 1, 1) ∧ decode cX7_search 65 = .ok (.invokevirtual 44, 3) := by decide +kernel
theorem dX7_search_56 : decode cX7_search 56 = .ok (.iload 8, 2) := dGX7_9.1
theorem dX7_search_58 : decode cX7_search 58 = .ok (.iload 7, 2) := dGX7_9.2.1
theorem dX7_search_60 : decode cX7_search 60 = .ok (.if_icmp .ge 59, 3) := dGX7_9.2.2.1
theorem dX7_search_63 : decode cX7_search 63 = .ok (.aload_n 2, 1) := dGX7_9.2.2.2.1
theorem dX7_search_64 : decode cX7_search 64 = .ok (.aload_n 1, 1) := dGX7_9.2.2.2.2.1
theorem dX7_search_65 : decode cX7_search 65 = .ok (.invokevirtual 44, 3) := dGX7_9.2.2.2.2.2
theorem dGX7_10 : decode cX7_search 68 = .ok (.aload_n 0, 1) ∧ decode cX7_search 69 = .ok (.aload_n 2, 1) ∧ decode cX7_search 70 = .ok (.aload_n 0, 1) ∧ decode cX7_search 71 = .ok (.getfield 28, 3) ∧ decode cX7_search 74 = .ok (.invokevirtual 48, 3) ∧ decode cX7_search 77 = .ok (.aload_n 0, 1) := by decide +kernel
theorem dX7_search_68 : decode cX7_search 68 = .ok (.aload_n 0, 1) := dGX7_10.1
theorem dX7_search_69 : decode cX7_search 69 = .ok (.aload_n 2, 1) := dGX7_10.2.1
theorem dX7_search_70 : decode cX7_search 70 = .ok (.aload_n 0, 1) := dGX7_10.2.2.1
theorem dX7_search_71 : decode cX7_search 71 = .ok (.getfield 28, 3) := dGX7_10.2.2.2.1
theorem dX7_search_74 : decode cX7_search 74 = .ok (.invokevirtual 48, 3) := dGX7_10.2.2.2.2.1
theorem dX7_search_77 : decode cX7_search 77 = .ok (.aload_n 0, 1) := dGX7_10.2.2.2.2.2
theorem dGX7_11 : decode cX7_search 78 = .ok (.aload_n 2, 1) ∧ decode cX7_search 79 = .ok (.aload_n 3, 1) ∧ decode cX7_search 80 = .ok (.iload 5, 2) ∧ decode cX7_search 82 = .ok (.aload_n 0, 1) ∧ decode cX7_search 83 = .ok (.getfield 9, 3) ∧ decode cX7_search 86 = .ok (.iconst (-1), 1) := by decide +kernel
theorem dX7_search_78 : decode cX7_search 78 = .ok (.aload_n 2, 1) := dGX7_11.1
theorem dX7_search_79 : decode cX7_search 79 = .ok (.aload_n 3, 1) := dGX7_11.2.1
theorem dX7_search_80 : decode cX7_search 80 = .ok (.iload 5, 2) := dGX7_11.2.2.1
theorem dX7_search_82 : decode cX7_search 82 = .ok (.aload_n 0, 1) := dGX7_11.2.2.2.1
theorem dX7_search_83 : decode cX7_search 83 = .ok (.getfield 9, 3) := dGX7_11.2.2.2.2.1
theorem dX7_search_86 : decode cX7_search 86 = .ok (.iconst (-1), 1) := dGX7_11.2.2.2.2.2
theorem dGX7_12 : decode cX7_search 87 = .ok (.if_icmp .ne 8, 3) ∧ decode cX7_search 90 = .ok (.iload 6, 2) ∧ decode cX7_search 92 = .ok (.goto 7, 3) ∧ decode cX7_search 95 = .ok (.aload_n 0, 1) ∧ decode cX7_search 96 = .ok (.getfield 9, 3) ∧ decode cX7_search 99 = .ok (.invokevirtual 52, 3) := by decide +kernel
theorem dX7_search_87 : decode cX7_search 87 = .ok (.if_icmp .ne 8, 3) := dGX7_12.1
theorem dX7_search_90 : decode cX7_search 90 = .ok (.iload 6, 2) := dGX7_12.2.1
theorem dX7_search_92 : decode cX7_search 92 = .ok (.goto 7, 3) := dGX7_12.2.2.1
theorem dX7_search_95 : decode cX7_search 95 = .ok (.aload_n 0, 1) := dGX7_12.2.2.2.1
theorem dX7_search_96 : decode cX7_search 96 = .ok (.getfield 9, 3) := dGX7_12.2.2.2.2.1
theorem dX7_search_99 : decode cX7_search 99 = .ok (.invokevirtual 52, 3) := dGX7_12.2.2.2.2.2
theorem dGX7_13 : decode cX7_search 102 = .ok (.aload_n 0, 1) ∧ decode cX7_search 103 = .ok (.aload_n 1, 1) ∧ decode cX7_search 104 = .ok (.getfield 35, 3) ∧ decode cX7_search 107 = .ok (.getfield 41, 3) ∧ decode cX7_search 110 = .ok (.invokevirtual 56, 3) ∧ decode cX7_search 113 = .ok (.iinc 8 1, 3) := by decide +kernel
theorem dX7_search_102 : decode cX7_search 102 = .ok (.aload_n 0, 1) := dGX7_13.1
theorem dX7_search_103 : decode cX7_search 103 = .ok (.aload_n 1, 1) := dGX7_13.2.1
theorem dX7_search_104 : decode cX7_search 104 = .ok (.getfield 35, 3) := dGX7_13.2.2.1
theorem dX7_search_107 : decode cX7_search 107 = .ok (.getfield 41, 3) := dGX7_13.2.2.2.1
theorem dX7_search_110 : decode cX7_search 110 = .ok (.invokevirtual 56, 3) := dGX7_13.2.2.2.2.1
theorem dX7_search_113 : decode cX7_search 113 = .ok (.iinc 8 1, 3) := dGX7_13.2.2.2.2.2
theorem dGX7_14 : decode cX7_search 116 = .ok (.goto (-60), 3) ∧ decode cX7_search 119 = .ok (.return_, 1) ∧ decode cX7_tellWho 0 = .ok (.aload_n 0, 1) ∧ decode cX7_tellWho 1 = .ok (.iconst 0, 1) ∧ decode cX7_tellWho 2 = .ok (.putfield 22, 3) ∧ decode cX7_tellWho 5 = .ok (.iconst 0, 1) := by decide +kernel
theorem dX7_search_116 : decode cX7_search 116 = .ok (.goto (-60), 3) := dGX7_14.1
theorem dX7_search_119 : decode cX7_search 119 = .ok (.return_, 1) := dGX7_14.2.1
theorem dX7_tellWho_0 : decode cX7_tellWho 0 = .ok (.aload_n 0, 1) := dGX7_14.2.2.1
theorem dX7_tellWho_1 : decode cX7_tellWho 1 = .ok (.iconst 0, 1) := dGX7_14.2.2.2.1
theorem dX7_tellWho_2 : decode cX7_tellWho 2 = .ok (.putfield 22, 3) := dGX7_14.2.2.2.2.1
theorem dX7_tellWho_5 : decode cX7_tellWho 5 = .ok (.iconst 0, 1) := dGX7_14.2.2.2.2.2
theorem dGX7_15 : decode cX7_tellWho 6 = .ok (.istore_n 3, 1) ∧ decode cX7_tellWho 7 = .ok (.iload_n 3, 1) ∧ decode cX7_tellWho 8 = .ok (.aload_n 1, 1) ∧ decode cX7_tellWho 9 = .ok (.getfield 60, 3) ∧ decode cX7_tellWho 12 = .ok (.getfield 64, 3) ∧ decode cX7_tellWho 15 = .ok (.if_icmp .ge 46, 3) := by decide +kernel
theorem dX7_tellWho_6 : decode cX7_tellWho 6 = .ok (.istore_n 3, 1) := dGX7_15.1
theorem dX7_tellWho_7 : decode cX7_tellWho 7 = .ok (.iload_n 3, 1) := dGX7_15.2.1
theorem dX7_tellWho_8 : decode cX7_tellWho 8 = .ok (.aload_n 1, 1) := dGX7_15.2.2.1
theorem dX7_tellWho_9 : decode cX7_tellWho 9 = .ok (.getfield 60, 3) := dGX7_15.2.2.2.1
theorem dX7_tellWho_12 : decode cX7_tellWho 12 = .ok (.getfield 64, 3) := dGX7_15.2.2.2.2.1
theorem dX7_tellWho_15 : decode cX7_tellWho 15 = .ok (.if_icmp .ge 46, 3) := dGX7_15.2.2.2.2.2
theorem dGX7_16 : decode cX7_tellWho 18 = .ok (.iload_n 2, 1) ∧ decode cX7_tellWho 19 = .ok (.iload_n 3, 1) ∧ decode cX7_tellWho 20 = .ok (.ishr, 1) ∧ decode cX7_tellWho 21 = .ok (.iconst 1, 1) ∧ decode cX7_tellWho 22 = .ok (.iand, 1) ∧ decode cX7_tellWho 23 = .ok (.iconst 1, 1) := by decide +kernel
theorem dX7_tellWho_18 : decode cX7_tellWho 18 = .ok (.iload_n 2, 1) := dGX7_16.1
theorem dX7_tellWho_19 : decode cX7_tellWho 19 = .ok (.iload_n 3, 1) := dGX7_16.2.1
theorem dX7_tellWho_20 : decode cX7_tellWho 20 = .ok (.ishr, 1) := dGX7_16.2.2.1
theorem dX7_tellWho_21 : decode cX7_tellWho 21 = .ok (.iconst 1, 1) := dGX7_16.2.2.2.1
theorem dX7_tellWho_22 : decode cX7_tellWho 22 = .ok (.iand, 1) := dGX7_16.2.2.2.2.1
theorem dX7_tellWho_23 : decode cX7_tellWho 23 = .ok (.iconst 1, 1) := dGX7_16.2.2.2.2.2
theorem dGX7_17 : decode cX7_tellWho 24 = .ok (.if_icmp .ne 31, 3) ∧ decode cX7_tellWho 27 = .ok (.aload_n 0, 1) ∧ decode cX7_tellWho 28 = .ok (.getfield 22, 3) ∧ decode cX7_tellWho 31 = .ok (.iconst 3, 1) ∧ decode cX7_tellWho 32 = .ok (.if_icmp .ge 23, 3) ∧ decode cX7_tellWho 35 = .ok (.aload_n 0, 1) := by decide +kernel
theorem dX7_tellWho_24 : decode cX7_tellWho 24 = .ok (.if_icmp .ne 31, 3) := dGX7_17.1
theorem dX7_tellWho_27 : decode cX7_tellWho 27 = .ok (.aload_n 0, 1) := dGX7_17.2.1
theorem dX7_tellWho_28 : decode cX7_tellWho 28 = .ok (.getfield 22, 3) := dGX7_17.2.2.1
theorem dX7_tellWho_31 : decode cX7_tellWho 31 = .ok (.iconst 3, 1) := dGX7_17.2.2.2.1
theorem dX7_tellWho_32 : decode cX7_tellWho 32 = .ok (.if_icmp .ge 23, 3) := dGX7_17.2.2.2.2.1
theorem dX7_tellWho_35 : decode cX7_tellWho 35 = .ok (.aload_n 0, 1) := dGX7_17.2.2.2.2.2
theorem dGX7_18 : decode cX7_tellWho 36 = .ok (.getfield 25, 3) ∧ decode cX7_tellWho 39 = .ok (.aload_n 0, 1) ∧ decode cX7_tellWho 40 = .ok (.getfield 22, 3) ∧ decode cX7_tellWho 43 = .ok (.iload_n 3, 1) ∧ decode cX7_tellWho 44 = .ok (.iastore, 1) ∧ decode cX7_tellWho 45 = .ok (.aload_n 0, 1) := by decide +kernel
theorem dX7_tellWho_36 : decode cX7_tellWho 36 = .ok (.getfield 25, 3) := dGX7_18.1
theorem dX7_tellWho_39 : decode cX7_tellWho 39 = .ok (.aload_n 0, 1) := dGX7_18.2.1
theorem dX7_tellWho_40 : decode cX7_tellWho 40 = .ok (.getfield 22, 3) := dGX7_18.2.2.1
theorem dX7_tellWho_43 : decode cX7_tellWho 43 = .ok (.iload_n 3, 1) := dGX7_18.2.2.2.1
theorem dX7_tellWho_44 : decode cX7_tellWho 44 = .ok (.iastore, 1) := dGX7_18.2.2.2.2.1
theorem dX7_tellWho_45 : decode cX7_tellWho 45 = .ok (.aload_n 0, 1) := dGX7_18.2.2.2.2.2
theorem dGX7_19 : decode cX7_tellWho 46 = .ok (.dup, 1) ∧ decode cX7_tellWho 47 = .ok (.getfield 22, 3) ∧ decode cX7_tellWho 50 = .ok (.iconst 1, 1) ∧ decode cX7_tellWho 51 = .ok (.iadd, 1) ∧ decode cX7_tellWho 52 = .ok (.putfield 22, 3) ∧ decode cX7_tellWho 55 = .ok (.iinc 3 1, 3) := by decide +kernel
theorem dX7_tellWho_46 : decode cX7_tellWho 46 = .ok (.dup, 1) := dGX7_19.1
theorem dX7_tellWho_47 : decode cX7_tellWho 47 = .ok (.getfield 22, 3) := dGX7_19.2.1
theorem dX7_tellWho_50 : decode cX7_tellWho 50 = .ok (.iconst 1, 1) := dGX7_19.2.2.1
theorem dX7_tellWho_51 : decode cX7_tellWho 51 = .ok (.iadd, 1) := dGX7_19.2.2.2.1
theorem dX7_tellWho_52 : decode cX7_tellWho 52 = .ok (.putfield 22, 3) := dGX7_19.2.2.2.2.1
theorem dX7_tellWho_55 : decode cX7_tellWho 55 = .ok (.iinc 3 1, 3) := dGX7_19.2.2.2.2.2
theorem dGX7_20 : decode cX7_tellWho 58 = .ok (.goto (-51), 3) ∧ decode cX7_tellWho 61 = .ok (.return_, 1) ∧ decode cX7_tryRow 0 = .ok (.aload_n 1, 1) ∧ decode cX7_tryRow 1 = .ok (.getfield 35, 3) ∧ decode cX7_tryRow 4 = .ok (.iload_n 3, 1) ∧ decode cX7_tryRow 5 = .ok (.invokevirtual 67, 3) := by decide +kernel
theorem dX7_tellWho_58 : decode cX7_tellWho 58 = .ok (.goto (-51), 3) := dGX7_20.1
theorem dX7_tellWho_61 : decode cX7_tellWho 61 = .ok (.return_, 1) := dGX7_20.2.1
theorem dX7_tryRow_0 : decode cX7_tryRow 0 = .ok (.aload_n 1, 1) := dGX7_20.2.2.1
theorem dX7_tryRow_1 : decode cX7_tryRow 1 = .ok (.getfield 35, 3) := dGX7_20.2.2.2.1
theorem dX7_tryRow_4 : decode cX7_tryRow 4 = .ok (.iload_n 3, 1) := dGX7_20.2.2.2.2.1
theorem dX7_tryRow_5 : decode cX7_tryRow 5 = .ok (.invokevirtual 67, 3) := dGX7_20.2.2.2.2.2
theorem dGX7_21 : decode cX7_tryRow 8 = .ok (.ifCond .ne 4, 3) ∧ decode cX7_tryRow 11 = .ok (.return_, 1) ∧ decode cX7_tryRow 12 = .ok (.iconst 0, 1) ∧ decode cX7_tryRow 13 = .ok (.istore 5, 2) ∧ decode cX7_tryRow 15 = .ok (.iload 5, 2) ∧ decode cX7_tryRow 17 = .ok (.iload 4, 2) := by decide +kernel
theorem dX7_tryRow_8 : decode cX7_tryRow 8 = .ok (.ifCond .ne 4, 3) := dGX7_21.1
theorem dX7_tryRow_11 : decode cX7_tryRow 11 = .ok (.return_, 1) := dGX7_21.2.1
theorem dX7_tryRow_12 : decode cX7_tryRow 12 = .ok (.iconst 0, 1) := dGX7_21.2.2.1
theorem dX7_tryRow_13 : decode cX7_tryRow 13 = .ok (.istore 5, 2) := dGX7_21.2.2.2.1
theorem dX7_tryRow_15 : decode cX7_tryRow 15 = .ok (.iload 5, 2) := dGX7_21.2.2.2.2.1
theorem dX7_tryRow_17 : decode cX7_tryRow 17 = .ok (.iload 4, 2) := dGX7_21.2.2.2.2.2
theorem dGX7_22 : decode cX7_tryRow 19 = .ok (.if_icmp .gt 61, 3) ∧ decode cX7_tryRow 22 = .ok (.aload_n 1, 1) ∧ decode cX7_tryRow 23 = .ok (.getfield 35, 3) ∧ decode cX7_tryRow 26 = .ok (.getfield 71, 3) ∧ decode cX7_tryRow 29 = .ok (.iload_n 3, 1) ∧ decode cX7_tryRow 30 = .ok (.iaload, 1) := by decide +kernel
theorem dX7_tryRow_19 : decode cX7_tryRow 19 = .ok (.if_icmp .gt 61, 3) := dGX7_22.1
theorem dX7_tryRow_22 : decode cX7_tryRow 22 = .ok (.aload_n 1, 1) := dGX7_22.2.1
theorem dX7_tryRow_23 : decode cX7_tryRow 23 = .ok (.getfield 35, 3) := dGX7_22.2.2.1
theorem dX7_tryRow_26 : decode cX7_tryRow 26 = .ok (.getfield 71, 3) := dGX7_22.2.2.2.1
theorem dX7_tryRow_29 : decode cX7_tryRow 29 = .ok (.iload_n 3, 1) := dGX7_22.2.2.2.2.1
theorem dX7_tryRow_30 : decode cX7_tryRow 30 = .ok (.iaload, 1) := dGX7_22.2.2.2.2.2
theorem dGX7_23 : decode cX7_tryRow 31 = .ok (.aload_n 1, 1) ∧ decode cX7_tryRow 32 = .ok (.getfield 35, 3) ∧ decode cX7_tryRow 35 = .ok (.getfield 74, 3) ∧ decode cX7_tryRow 38 = .ok (.iload_n 3, 1) ∧ decode cX7_tryRow 39 = .ok (.iaload, 1) ∧ decode cX7_tryRow 40 = .ok (.if_icmp .ne 17, 3) := by decide +kernel
theorem dX7_tryRow_31 : decode cX7_tryRow 31 = .ok (.aload_n 1, 1) := dGX7_23.1
theorem dX7_tryRow_32 : decode cX7_tryRow 32 = .ok (.getfield 35, 3) := dGX7_23.2.1
theorem dX7_tryRow_35 : decode cX7_tryRow 35 = .ok (.getfield 74, 3) := dGX7_23.2.2.1
theorem dX7_tryRow_38 : decode cX7_tryRow 38 = .ok (.iload_n 3, 1) := dGX7_23.2.2.2.1
theorem dX7_tryRow_39 : decode cX7_tryRow 39 = .ok (.iaload, 1) := dGX7_23.2.2.2.2.1
theorem dX7_tryRow_40 : decode cX7_tryRow 40 = .ok (.if_icmp .ne 17, 3) := dGX7_23.2.2.2.2.2
theorem dGX7_24 : decode cX7_tryRow 43 = .ok (.aload_n 0, 1) ∧ decode cX7_tryRow 44 = .ok (.iload 5, 2) ∧ decode cX7_tryRow 46 = .ok (.aload_n 1, 1) ∧ decode cX7_tryRow 47 = .ok (.getfield 77, 3) ∧ decode cX7_tryRow 50 = .ok (.invokevirtual 81, 3) ∧ decode cX7_tryRow 53 = .ok (.invokevirtual 87, 3) := by decide +kernel
theorem dX7_tryRow_43 : decode cX7_tryRow 43 = .ok (.aload_n 0, 1) := dGX7_24.1
theorem dX7_tryRow_44 : decode cX7_tryRow 44 = .ok (.iload 5, 2) := dGX7_24.2.1
theorem dX7_tryRow_46 : decode cX7_tryRow 46 = .ok (.aload_n 1, 1) := dGX7_24.2.2.1
theorem dX7_tryRow_47 : decode cX7_tryRow 47 = .ok (.getfield 77, 3) := dGX7_24.2.2.2.1
theorem dX7_tryRow_50 : decode cX7_tryRow 50 = .ok (.invokevirtual 81, 3) := dGX7_24.2.2.2.2.1
theorem dX7_tryRow_53 : decode cX7_tryRow 53 = .ok (.invokevirtual 87, 3) := dGX7_24.2.2.2.2.2
theorem dGX7_25 : decode cX7_tryRow 56 = .ok (.return_, 1) ∧ decode cX7_tryRow 57 = .ok (.iload 5, 2) ∧ decode cX7_tryRow 59 = .ok (.iload 4, 2) ∧ decode cX7_tryRow 61 = .ok (.if_icmp .ge 13, 3) ∧ decode cX7_tryRow 64 = .ok (.aload_n 1, 1) ∧ decode cX7_tryRow 65 = .ok (.aload_n 2, 1) := by decide +kernel
theorem dX7_tryRow_56 : decode cX7_tryRow 56 = .ok (.return_, 1) := dGX7_25.1
theorem dX7_tryRow_57 : decode cX7_tryRow 57 = .ok (.iload 5, 2) := dGX7_25.2.1
theorem dX7_tryRow_59 : decode cX7_tryRow 59 = .ok (.iload 4, 2) := dGX7_25.2.2.1
theorem dX7_tryRow_61 : decode cX7_tryRow 61 = .ok (.if_icmp .ge 13, 3) := dGX7_25.2.2.2.1
theorem dX7_tryRow_64 : decode cX7_tryRow 64 = .ok (.aload_n 1, 1) := dGX7_25.2.2.2.2.1
theorem dX7_tryRow_65 : decode cX7_tryRow 65 = .ok (.aload_n 2, 1) := dGX7_25.2.2.2.2.2
theorem dGX7_26 : decode cX7_tryRow 66 = .ok (.aload_n 1, 1) ∧ decode cX7_tryRow 67 = .ok (.invokevirtual 91, 3) ∧ decode cX7_tryRow 70 = .ok (.invokevirtual 94, 3) ∧ decode cX7_tryRow 73 = .ok (.pop, 1) ∧ decode cX7_tryRow 74 = .ok (.iinc 5 1, 3) ∧ decode cX7_tryRow 77 = .ok (.goto (-62), 3) := by decide +kernel
theorem dX7_tryRow_66 : decode cX7_tryRow 66 = .ok (.aload_n 1, 1) := dGX7_26.1
theorem dX7_tryRow_67 : decode cX7_tryRow 67 = .ok (.invokevirtual 91, 3) := dGX7_26.2.1
theorem dX7_tryRow_70 : decode cX7_tryRow 70 = .ok (.invokevirtual 94, 3) := dGX7_26.2.2.1
theorem dX7_tryRow_73 : decode cX7_tryRow 73 = .ok (.pop, 1) := dGX7_26.2.2.2.1
theorem dX7_tryRow_74 : decode cX7_tryRow 74 = .ok (.iinc 5 1, 3) := dGX7_26.2.2.2.2.1
theorem dX7_tryRow_77 : decode cX7_tryRow 77 = .ok (.goto (-62), 3) := dGX7_26.2.2.2.2.2
theorem dGX7_27 : decode cX7_tryRow 80 = .ok (.return_, 1) ∧ decode cX7_take 0 = .ok (.aload_n 0, 1) ∧ decode cX7_take 1 = .ok (.getfield 9, 3) ∧ decode cX7_take 4 = .ok (.iconst (-1), 1) ∧ decode cX7_take 5 = .ok (.if_icmp .eq 27, 3) ∧ decode cX7_take 8 = .ok (.iload_n 1, 1) := by decide +kernel
theorem dX7_tryRow_80 : decode cX7_tryRow 80 = .ok (.return_, 1) := dGX7_27.1
theorem dX7_take_0 : decode cX7_take 0 = .ok (.aload_n 0, 1) := dGX7_27.2.1
theorem dX7_take_1 : decode cX7_take 1 = .ok (.getfield 9, 3) := dGX7_27.2.2.1
theorem dX7_take_4 : decode cX7_take 4 = .ok (.iconst (-1), 1) := dGX7_27.2.2.2.1
theorem dX7_take_5 : decode cX7_take 5 = .ok (.if_icmp .eq 27, 3) := dGX7_27.2.2.2.2.1
theorem dX7_take_8 : decode cX7_take 8 = .ok (.iload_n 1, 1) := dGX7_27.2.2.2.2.2
theorem dGX7_28 : decode cX7_take 9 = .ok (.aload_n 0, 1) ∧ decode cX7_take 10 = .ok (.getfield 9, 3) ∧ decode cX7_take 13 = .ok (.if_icmp .lt 19, 3) ∧ decode cX7_take 16 = .ok (.iload_n 1, 1) ∧ decode cX7_take 17 = .ok (.aload_n 0, 1) ∧ decode cX7_take 18 = .ok (.getfield 9, 3) := by decide +kernel
theorem dX7_take_9 : decode cX7_take 9 = .ok (.aload_n 0, 1) := dGX7_28.1
theorem dX7_take_10 : decode cX7_take 10 = .ok (.getfield 9, 3) := dGX7_28.2.1
theorem dX7_take_13 : decode cX7_take 13 = .ok (.if_icmp .lt 19, 3) := dGX7_28.2.2.1
theorem dX7_take_16 : decode cX7_take 16 = .ok (.iload_n 1, 1) := dGX7_28.2.2.2.1
theorem dX7_take_17 : decode cX7_take 17 = .ok (.aload_n 0, 1) := dGX7_28.2.2.2.2.1
theorem dX7_take_18 : decode cX7_take 18 = .ok (.getfield 9, 3) := dGX7_28.2.2.2.2.2
theorem dGX7_29 : decode cX7_take 21 = .ok (.if_icmp .ne 35, 3) ∧ decode cX7_take 24 = .ok (.iload_n 2, 1) ∧ decode cX7_take 25 = .ok (.aload_n 0, 1) ∧ decode cX7_take 26 = .ok (.getfield 15, 3) ∧ decode cX7_take 29 = .ok (.if_icmp .ge 27, 3) ∧ decode cX7_take 32 = .ok (.aload_n 0, 1) := by decide +kernel
theorem dX7_take_21 : decode cX7_take 21 = .ok (.if_icmp .ne 35, 3) := dGX7_29.1
theorem dX7_take_24 : decode cX7_take 24 = .ok (.iload_n 2, 1) := dGX7_29.2.1
theorem dX7_take_25 : decode cX7_take 25 = .ok (.aload_n 0, 1) := dGX7_29.2.2.1
theorem dX7_take_26 : decode cX7_take 26 = .ok (.getfield 15, 3) := dGX7_29.2.2.2.1
theorem dX7_take_29 : decode cX7_take 29 = .ok (.if_icmp .ge 27, 3) := dGX7_29.2.2.2.2.1
theorem dX7_take_32 : decode cX7_take 32 = .ok (.aload_n 0, 1) := dGX7_29.2.2.2.2.2
theorem dGX7_30 : decode cX7_take 33 = .ok (.iload_n 1, 1) ∧ decode cX7_take 34 = .ok (.putfield 9, 3) ∧ decode cX7_take 37 = .ok (.aload_n 0, 1) ∧ decode cX7_take 38 = .ok (.iload_n 2, 1) ∧ decode cX7_take 39 = .ok (.putfield 15, 3) ∧ decode cX7_take 42 = .ok (.aload_n 0, 1) := by decide +kernel
theorem dX7_take_33 : decode cX7_take 33 = .ok (.iload_n 1, 1) := dGX7_30.1
theorem dX7_take_34 : decode cX7_take 34 = .ok (.putfield 9, 3) := dGX7_30.2.1
theorem dX7_take_37 : decode cX7_take 37 = .ok (.aload_n 0, 1) := dGX7_30.2.2.1
theorem dX7_take_38 : decode cX7_take 38 = .ok (.iload_n 2, 1) := dGX7_30.2.2.2.1
theorem dX7_take_39 : decode cX7_take 39 = .ok (.putfield 15, 3) := dGX7_30.2.2.2.2.1
theorem dX7_take_42 : decode cX7_take 42 = .ok (.aload_n 0, 1) := dGX7_30.2.2.2.2.2
theorem dGX7_31 : decode cX7_take 43 = .ok (.getfield 28, 3) ∧ decode cX7_take 46 = .ok (.iconst 0, 1) ∧ decode cX7_take 47 = .ok (.aload_n 0, 1) ∧ decode cX7_take 48 = .ok (.getfield 18, 3) ∧ decode cX7_take 51 = .ok (.iconst 0, 1) ∧ decode cX7_take 52 = .ok (.iconst 3, 1) := by decide +kernel
theorem dX7_take_43 : decode cX7_take 43 = .ok (.getfield 28, 3) := dGX7_31.1
theorem dX7_take_46 : decode cX7_take 46 = .ok (.iconst 0, 1) := dGX7_31.2.1
theorem dX7_take_47 : decode cX7_take 47 = .ok (.aload_n 0, 1) := dGX7_31.2.2.1
theorem dX7_take_48 : decode cX7_take 48 = .ok (.getfield 18, 3) := dGX7_31.2.2.2.1
theorem dX7_take_51 : decode cX7_take 51 = .ok (.iconst 0, 1) := dGX7_31.2.2.2.2.1
theorem dX7_take_52 : decode cX7_take 52 = .ok (.iconst 3, 1) := dGX7_31.2.2.2.2.2
theorem dGX7_32 : decode cX7_take 53 = .ok (.invokestatic 98, 3) ∧ decode cX7_take 56 = .ok (.return_, 1) ∧ decode cX7_stepRow 0 = .ok (.aload_n 0, 1) ∧ decode cX7_stepRow 1 = .ok (.getfield 22, 3) ∧ decode cX7_stepRow 4 = .ok (.iconst 1, 1) ∧ decode cX7_stepRow 5 = .ok (.isub, 1) := by decide +kernel
theorem dX7_take_53 : decode cX7_take 53 = .ok (.invokestatic 98, 3) := dGX7_32.1
theorem dX7_take_56 : decode cX7_take 56 = .ok (.return_, 1) := dGX7_32.2.1
theorem dX7_stepRow_0 : decode cX7_stepRow 0 = .ok (.aload_n 0, 1) := dGX7_32.2.2.1
theorem dX7_stepRow_1 : decode cX7_stepRow 1 = .ok (.getfield 22, 3) := dGX7_32.2.2.2.1
theorem dX7_stepRow_4 : decode cX7_stepRow 4 = .ok (.iconst 1, 1) := dGX7_32.2.2.2.2.1
theorem dX7_stepRow_5 : decode cX7_stepRow 5 = .ok (.isub, 1) := dGX7_32.2.2.2.2.2
theorem dGX7_33 : decode cX7_stepRow 6 = .ok (.istore_n 2, 1) ∧ decode cX7_stepRow 7 = .ok (.iload_n 2, 1) ∧ decode cX7_stepRow 8 = .ok (.ifCond .lt 37, 3) ∧ decode cX7_stepRow 11 = .ok (.aload_n 0, 1) ∧ decode cX7_stepRow 12 = .ok (.getfield 28, 3) ∧ decode cX7_stepRow 15 = .ok (.iload_n 2, 1) := by decide +kernel
theorem dX7_stepRow_6 : decode cX7_stepRow 6 = .ok (.istore_n 2, 1) := dGX7_33.1
theorem dX7_stepRow_7 : decode cX7_stepRow 7 = .ok (.iload_n 2, 1) := dGX7_33.2.1
theorem dX7_stepRow_8 : decode cX7_stepRow 8 = .ok (.ifCond .lt 37, 3) := dGX7_33.2.2.1
theorem dX7_stepRow_11 : decode cX7_stepRow 11 = .ok (.aload_n 0, 1) := dGX7_33.2.2.2.1
theorem dX7_stepRow_12 : decode cX7_stepRow 12 = .ok (.getfield 28, 3) := dGX7_33.2.2.2.2.1
theorem dX7_stepRow_15 : decode cX7_stepRow 15 = .ok (.iload_n 2, 1) := dGX7_33.2.2.2.2.2
theorem dGX7_34 : decode cX7_stepRow 16 = .ok (.dup2, 1) ∧ decode cX7_stepRow 17 = .ok (.iaload, 1) ∧ decode cX7_stepRow 18 = .ok (.iconst 1, 1) ∧ decode cX7_stepRow 19 = .ok (.iadd, 1) ∧ decode cX7_stepRow 20 = .ok (.iastore, 1) ∧ decode cX7_stepRow 21 = .ok (.aload_n 0, 1) := by decide +kernel
theorem dX7_stepRow_16 : decode cX7_stepRow 16 = .ok (.dup2, 1) := dGX7_34.1
theorem dX7_stepRow_17 : decode cX7_stepRow 17 = .ok (.iaload, 1) := dGX7_34.2.1
theorem dX7_stepRow_18 : decode cX7_stepRow 18 = .ok (.iconst 1, 1) := dGX7_34.2.2.1
theorem dX7_stepRow_19 : decode cX7_stepRow 19 = .ok (.iadd, 1) := dGX7_34.2.2.2.1
theorem dX7_stepRow_20 : decode cX7_stepRow 20 = .ok (.iastore, 1) := dGX7_34.2.2.2.2.1
theorem dX7_stepRow_21 : decode cX7_stepRow 21 = .ok (.aload_n 0, 1) := dGX7_34.2.2.2.2.2
theorem dGX7_35 : decode cX7_stepRow 22 = .ok (.getfield 28, 3) ∧ decode cX7_stepRow 25 = .ok (.iload_n 2, 1) ∧ decode cX7_stepRow 26 = .ok (.iaload, 1) ∧ decode cX7_stepRow 27 = .ok (.iload_n 1, 1) ∧ decode cX7_stepRow 28 = .ok (.if_icmp .ge 4, 3) ∧ decode cX7_stepRow 31 = .ok (.return_, 1) := by decide +kernel
theorem dX7_stepRow_22 : decode cX7_stepRow 22 = .ok (.getfield 28, 3) := dGX7_35.1
theorem dX7_stepRow_25 : decode cX7_stepRow 25 = .ok (.iload_n 2, 1) := dGX7_35.2.1
theorem dX7_stepRow_26 : decode cX7_stepRow 26 = .ok (.iaload, 1) := dGX7_35.2.2.1
theorem dX7_stepRow_27 : decode cX7_stepRow 27 = .ok (.iload_n 1, 1) := dGX7_35.2.2.2.1
theorem dX7_stepRow_28 : decode cX7_stepRow 28 = .ok (.if_icmp .ge 4, 3) := dGX7_35.2.2.2.2.1
theorem dX7_stepRow_31 : decode cX7_stepRow 31 = .ok (.return_, 1) := dGX7_35.2.2.2.2.2
theorem dGX7_36 : decode cX7_stepRow 32 = .ok (.aload_n 0, 1) ∧ decode cX7_stepRow 33 = .ok (.getfield 28, 3) ∧ decode cX7_stepRow 36 = .ok (.iload_n 2, 1) ∧ decode cX7_stepRow 37 = .ok (.iconst 0, 1) ∧ decode cX7_stepRow 38 = .ok (.iastore, 1) ∧ decode cX7_stepRow 39 = .ok (.iinc 2 (-1), 3) := by decide +kernel
theorem dX7_stepRow_32 : decode cX7_stepRow 32 = .ok (.aload_n 0, 1) := dGX7_36.1
theorem dX7_stepRow_33 : decode cX7_stepRow 33 = .ok (.getfield 28, 3) := dGX7_36.2.1
theorem dX7_stepRow_36 : decode cX7_stepRow 36 = .ok (.iload_n 2, 1) := dGX7_36.2.2.1
theorem dX7_stepRow_37 : decode cX7_stepRow 37 = .ok (.iconst 0, 1) := dGX7_36.2.2.2.1
theorem dX7_stepRow_38 : decode cX7_stepRow 38 = .ok (.iastore, 1) := dGX7_36.2.2.2.2.1
theorem dX7_stepRow_39 : decode cX7_stepRow 39 = .ok (.iinc 2 (-1), 3) := dGX7_36.2.2.2.2.2
theorem dGX7_37 : decode cX7_stepRow 42 = .ok (.goto (-35), 3) ∧ decode cX7_stepRow 45 = .ok (.return_, 1) ∧ decode cX7_placeOn 0 = .ok (.iconst 0, 1) ∧ decode cX7_placeOn 1 = .ok (.istore_n 3, 1) ∧ decode cX7_placeOn 2 = .ok (.iload_n 3, 1) ∧ decode cX7_placeOn 3 = .ok (.aload_n 0, 1) := by decide +kernel
theorem dX7_stepRow_42 : decode cX7_stepRow 42 = .ok (.goto (-35), 3) := dGX7_37.1
theorem dX7_stepRow_45 : decode cX7_stepRow 45 = .ok (.return_, 1) := dGX7_37.2.1
theorem dX7_placeOn_0 : decode cX7_placeOn 0 = .ok (.iconst 0, 1) := dGX7_37.2.2.1
theorem dX7_placeOn_1 : decode cX7_placeOn 1 = .ok (.istore_n 3, 1) := dGX7_37.2.2.2.1
theorem dX7_placeOn_2 : decode cX7_placeOn 2 = .ok (.iload_n 3, 1) := dGX7_37.2.2.2.2.1
theorem dX7_placeOn_3 : decode cX7_placeOn 3 = .ok (.aload_n 0, 1) := dGX7_37.2.2.2.2.2
theorem dGX7_38 : decode cX7_placeOn 4 = .ok (.getfield 22, 3) ∧ decode cX7_placeOn 7 = .ok (.if_icmp .ge 48, 3) ∧ decode cX7_placeOn 10 = .ok (.iload_n 3, 1) ∧ decode cX7_placeOn 11 = .ok (.aload_n 2, 1) ∧ decode cX7_placeOn 12 = .ok (.arraylength, 1) ∧ decode cX7_placeOn 13 = .ok (.if_icmp .ge 42, 3) := by decide +kernel
theorem dX7_placeOn_4 : decode cX7_placeOn 4 = .ok (.getfield 22, 3) := dGX7_38.1
theorem dX7_placeOn_7 : decode cX7_placeOn 7 = .ok (.if_icmp .ge 48, 3) := dGX7_38.2.1
theorem dX7_placeOn_10 : decode cX7_placeOn 10 = .ok (.iload_n 3, 1) := dGX7_38.2.2.1
theorem dX7_placeOn_11 : decode cX7_placeOn 11 = .ok (.aload_n 2, 1) := dGX7_38.2.2.2.1
theorem dX7_placeOn_12 : decode cX7_placeOn 12 = .ok (.arraylength, 1) := dGX7_38.2.2.2.2.1
theorem dX7_placeOn_13 : decode cX7_placeOn 13 = .ok (.if_icmp .ge 42, 3) := dGX7_38.2.2.2.2.2
theorem dGX7_39 : decode cX7_placeOn 16 = .ok (.aload_n 1, 1) ∧ decode cX7_placeOn 17 = .ok (.getfield 60, 3) ∧ decode cX7_placeOn 20 = .ok (.aload_n 0, 1) ∧ decode cX7_placeOn 21 = .ok (.getfield 25, 3) ∧ decode cX7_placeOn 24 = .ok (.iload_n 3, 1) ∧ decode cX7_placeOn 25 = .ok (.iaload, 1) := by decide +kernel
theorem dX7_placeOn_16 : decode cX7_placeOn 16 = .ok (.aload_n 1, 1) := dGX7_39.1
theorem dX7_placeOn_17 : decode cX7_placeOn 17 = .ok (.getfield 60, 3) := dGX7_39.2.1
theorem dX7_placeOn_20 : decode cX7_placeOn 20 = .ok (.aload_n 0, 1) := dGX7_39.2.2.1
theorem dX7_placeOn_21 : decode cX7_placeOn 21 = .ok (.getfield 25, 3) := dGX7_39.2.2.2.1
theorem dX7_placeOn_24 : decode cX7_placeOn 24 = .ok (.iload_n 3, 1) := dGX7_39.2.2.2.2.1
theorem dX7_placeOn_25 : decode cX7_placeOn 25 = .ok (.iaload, 1) := dGX7_39.2.2.2.2.2
theorem dGX7_40 : decode cX7_placeOn 26 = .ok (.invokevirtual 104, 3) ∧ decode cX7_placeOn 29 = .ok (.ifCond .eq 20, 3) ∧ decode cX7_placeOn 32 = .ok (.aload_n 1, 1) ∧ decode cX7_placeOn 33 = .ok (.getfield 60, 3) ∧ decode cX7_placeOn 36 = .ok (.getfield 105, 3) ∧ decode cX7_placeOn 39 = .ok (.aload_n 0, 1) := by decide +kernel
theorem dX7_placeOn_26 : decode cX7_placeOn 26 = .ok (.invokevirtual 104, 3) := dGX7_40.1
theorem dX7_placeOn_29 : decode cX7_placeOn 29 = .ok (.ifCond .eq 20, 3) := dGX7_40.2.1
theorem dX7_placeOn_32 : decode cX7_placeOn 32 = .ok (.aload_n 1, 1) := dGX7_40.2.2.1
theorem dX7_placeOn_33 : decode cX7_placeOn 33 = .ok (.getfield 60, 3) := dGX7_40.2.2.2.1
theorem dX7_placeOn_36 : decode cX7_placeOn 36 = .ok (.getfield 105, 3) := dGX7_40.2.2.2.2.1
theorem dX7_placeOn_39 : decode cX7_placeOn 39 = .ok (.aload_n 0, 1) := dGX7_40.2.2.2.2.2
theorem dGX7_41 : decode cX7_placeOn 40 = .ok (.getfield 25, 3) ∧ decode cX7_placeOn 43 = .ok (.iload_n 3, 1) ∧ decode cX7_placeOn 44 = .ok (.iaload, 1) ∧ decode cX7_placeOn 45 = .ok (.aload_n 2, 1) ∧ decode cX7_placeOn 46 = .ok (.iload_n 3, 1) ∧ decode cX7_placeOn 47 = .ok (.iaload, 1) := by decide +kernel
theorem dX7_placeOn_40 : decode cX7_placeOn 40 = .ok (.getfield 25, 3) := dGX7_41.1
theorem dX7_placeOn_43 : decode cX7_placeOn 43 = .ok (.iload_n 3, 1) := dGX7_41.2.1
theorem dX7_placeOn_44 : decode cX7_placeOn 44 = .ok (.iaload, 1) := dGX7_41.2.2.1
theorem dX7_placeOn_45 : decode cX7_placeOn 45 = .ok (.aload_n 2, 1) := dGX7_41.2.2.2.1
theorem dX7_placeOn_46 : decode cX7_placeOn 46 = .ok (.iload_n 3, 1) := dGX7_41.2.2.2.2.1
theorem dX7_placeOn_47 : decode cX7_placeOn 47 = .ok (.iaload, 1) := dGX7_41.2.2.2.2.2
theorem dGX7_42 : decode cX7_placeOn 48 = .ok (.iastore, 1) ∧ decode cX7_placeOn 49 = .ok (.iinc 3 1, 3) ∧ decode cX7_placeOn 52 = .ok (.goto (-50), 3) ∧ decode cX7_placeOn 55 = .ok (.return_, 1) ∧ decode cX7_roofOf 0 = .ok (.iconst 0, 1) ∧ decode cX7_roofOf 1 = .ok (.istore_n 2, 1) := by decide +kernel
theorem dX7_placeOn_48 : decode cX7_placeOn 48 = .ok (.iastore, 1) := dGX7_42.1
theorem dX7_placeOn_49 : decode cX7_placeOn 49 = .ok (.iinc 3 1, 3) := dGX7_42.2.1
theorem dX7_placeOn_52 : decode cX7_placeOn 52 = .ok (.goto (-50), 3) := dGX7_42.2.2.1
theorem dX7_placeOn_55 : decode cX7_placeOn 55 = .ok (.return_, 1) := dGX7_42.2.2.2.1
theorem dX7_roofOf_0 : decode cX7_roofOf 0 = .ok (.iconst 0, 1) := dGX7_42.2.2.2.2.1
theorem dX7_roofOf_1 : decode cX7_roofOf 1 = .ok (.istore_n 2, 1) := dGX7_42.2.2.2.2.2
theorem dGX7_43 : decode cX7_roofOf 2 = .ok (.iload_n 2, 1) ∧ decode cX7_roofOf 3 = .ok (.aload_n 0, 1) ∧ decode cX7_roofOf 4 = .ok (.getfield 22, 3) ∧ decode cX7_roofOf 7 = .ok (.if_icmp .ge 26, 3) ∧ decode cX7_roofOf 10 = .ok (.aload_n 0, 1) ∧ decode cX7_roofOf 11 = .ok (.getfield 25, 3) := by decide +kernel
theorem dX7_roofOf_2 : decode cX7_roofOf 2 = .ok (.iload_n 2, 1) := dGX7_43.1
theorem dX7_roofOf_3 : decode cX7_roofOf 3 = .ok (.aload_n 0, 1) := dGX7_43.2.1
theorem dX7_roofOf_4 : decode cX7_roofOf 4 = .ok (.getfield 22, 3) := dGX7_43.2.2.1
theorem dX7_roofOf_7 : decode cX7_roofOf 7 = .ok (.if_icmp .ge 26, 3) := dGX7_43.2.2.2.1
theorem dX7_roofOf_10 : decode cX7_roofOf 10 = .ok (.aload_n 0, 1) := dGX7_43.2.2.2.2.1
theorem dX7_roofOf_11 : decode cX7_roofOf 11 = .ok (.getfield 25, 3) := dGX7_43.2.2.2.2.2
theorem dGX7_44 : decode cX7_roofOf 14 = .ok (.iload_n 2, 1) ∧ decode cX7_roofOf 15 = .ok (.iaload, 1) ∧ decode cX7_roofOf 16 = .ok (.iload_n 1, 1) ∧ decode cX7_roofOf 17 = .ok (.if_icmp .ne 10, 3) ∧ decode cX7_roofOf 20 = .ok (.aload_n 0, 1) ∧ decode cX7_roofOf 21 = .ok (.getfield 18, 3) := by decide +kernel
theorem dX7_roofOf_14 : decode cX7_roofOf 14 = .ok (.iload_n 2, 1) := dGX7_44.1
theorem dX7_roofOf_15 : decode cX7_roofOf 15 = .ok (.iaload, 1) := dGX7_44.2.1
theorem dX7_roofOf_16 : decode cX7_roofOf 16 = .ok (.iload_n 1, 1) := dGX7_44.2.2.1
theorem dX7_roofOf_17 : decode cX7_roofOf 17 = .ok (.if_icmp .ne 10, 3) := dGX7_44.2.2.2.1
theorem dX7_roofOf_20 : decode cX7_roofOf 20 = .ok (.aload_n 0, 1) := dGX7_44.2.2.2.2.1
theorem dX7_roofOf_21 : decode cX7_roofOf 21 = .ok (.getfield 18, 3) := dGX7_44.2.2.2.2.2
theorem dGX7_45 : decode cX7_roofOf 24 = .ok (.iload_n 2, 1) ∧ decode cX7_roofOf 25 = .ok (.iaload, 1) ∧ decode cX7_roofOf 26 = .ok (.ireturn, 1) ∧ decode cX7_roofOf 27 = .ok (.iinc 2 1, 3) ∧ decode cX7_roofOf 30 = .ok (.goto (-28), 3) ∧ decode cX7_roofOf 33 = .ok (.iconst (-1), 1) := by decide +kernel
theorem dX7_roofOf_24 : decode cX7_roofOf 24 = .ok (.iload_n 2, 1) := dGX7_45.1
theorem dX7_roofOf_25 : decode cX7_roofOf 25 = .ok (.iaload, 1) := dGX7_45.2.1
theorem dX7_roofOf_26 : decode cX7_roofOf 26 = .ok (.ireturn, 1) := dGX7_45.2.2.1
theorem dX7_roofOf_27 : decode cX7_roofOf 27 = .ok (.iinc 2 1, 3) := dGX7_45.2.2.2.1
theorem dX7_roofOf_30 : decode cX7_roofOf 30 = .ok (.goto (-28), 3) := dGX7_45.2.2.2.2.1
theorem dX7_roofOf_33 : decode cX7_roofOf 33 = .ok (.iconst (-1), 1) := dGX7_45.2.2.2.2.2
theorem dX7_roofOf_34 : decode cX7_roofOf 34 = .ok (.ireturn, 1) := by decide +kernel
theorem dGX8_0 : decode cX8_init 0 = .ok (.aload_n 0, 1) ∧ decode cX8_init 1 = .ok (.invokespecial 3, 3) ∧ decode cX8_init 4 = .ok (.aload_n 0, 1) ∧ decode cX8_init 5 = .ok (.iconst 0, 1) ∧ decode cX8_init 6 = .ok (.putfield 9, 3) ∧ decode cX8_init 9 = .ok (.aload_n 0, 1) := by decide +kernel
theorem dX8_init_0 : decode cX8_init 0 = .ok (.aload_n 0, 1) := dGX8_0.1
theorem dX8_init_1 : decode cX8_init 1 = .ok (.invokespecial 3, 3) := dGX8_0.2.1
theorem dX8_init_4 : decode cX8_init 4 = .ok (.aload_n 0, 1) := dGX8_0.2.2.1
theorem dX8_init_5 : decode cX8_init 5 = .ok (.iconst 0, 1) := dGX8_0.2.2.2.1
theorem dX8_init_6 : decode cX8_init 6 = .ok (.putfield 9, 3) := dGX8_0.2.2.2.2.1
theorem dX8_init_9 : decode cX8_init 9 = .ok (.aload_n 0, 1) := dGX8_0.2.2.2.2.2
theorem dGX8_1 : decode cX8_init 10 = .ok (.bipush 7, 2) ∧ decode cX8_init 12 = .ok (.newarray .int, 2) ∧ decode cX8_init 14 = .ok (.putfield 15, 3) ∧ decode cX8_init 17 = .ok (.aload_n 0, 1) ∧ decode cX8_init 18 = .ok (.sipush 128, 3) ∧ decode cX8_init 21 = .ok (.newarray .int, 2) := by decide +kernel
theorem dX8_init_10 : decode cX8_init 10 = .ok (.bipush 7, 2) := dGX8_1.1
theorem dX8_init_12 : decode cX8_init 12 = .ok (.newarray .int, 2) := dGX8_1.2.1
theorem dX8_init_14 : decode cX8_init 14 = .ok (.putfield 15, 3) := dGX8_1.2.2.1
theorem dX8_init_17 : decode cX8_init 17 = .ok (.aload_n 0, 1) := dGX8_1.2.2.2.1
theorem dX8_init_18 : decode cX8_init 18 = .ok (.sipush 128, 3) := dGX8_1.2.2.2.2.1
theorem dX8_init_21 : decode cX8_init 21 = .ok (.newarray .int, 2) := dGX8_1.2.2.2.2.2
theorem dGX8_2 : decode cX8_init 23 = .ok (.putfield 19, 3) ∧ decode cX8_init 26 = .ok (.return_, 1) ∧ decode cX8_gather 0 = .ok (.aload_n 0, 1) ∧ decode cX8_gather 1 = .ok (.iconst 0, 1) ∧ decode cX8_gather 2 = .ok (.putfield 9, 3) ∧ decode cX8_gather 5 = .ok (.iconst 1, 1) := by decide +kernel
theorem dX8_init_23 : decode cX8_init 23 = .ok (.putfield 19, 3) := dGX8_2.1
theorem dX8_init_26 : decode cX8_init 26 = .ok (.return_, 1) := dGX8_2.2.1
theorem dX8_gather_0 : decode cX8_gather 0 = .ok (.aload_n 0, 1) := dGX8_2.2.2.1
theorem dX8_gather_1 : decode cX8_gather 1 = .ok (.iconst 0, 1) := dGX8_2.2.2.2.1
theorem dX8_gather_2 : decode cX8_gather 2 = .ok (.putfield 9, 3) := dGX8_2.2.2.2.2.1
theorem dX8_gather_5 : decode cX8_gather 5 = .ok (.iconst 1, 1) := dGX8_2.2.2.2.2.2
theorem dGX8_3 : decode cX8_gather 6 = .ok (.istore_n 2, 1) ∧ decode cX8_gather 7 = .ok (.iconst 0, 1) ∧ decode cX8_gather 8 = .ok (.istore_n 3, 1) ∧ decode cX8_gather 9 = .ok (.iload_n 3, 1) ∧ decode cX8_gather 10 = .ok (.aload_n 1, 1) ∧ decode cX8_gather 11 = .ok (.getfield 22, 3) := by decide +kernel
theorem dX8_gather_6 : decode cX8_gather 6 = .ok (.istore_n 2, 1) := dGX8_3.1
theorem dX8_gather_7 : decode cX8_gather 7 = .ok (.iconst 0, 1) := dGX8_3.2.1
theorem dX8_gather_8 : decode cX8_gather 8 = .ok (.istore_n 3, 1) := dGX8_3.2.2.1
theorem dX8_gather_9 : decode cX8_gather 9 = .ok (.iload_n 3, 1) := dGX8_3.2.2.2.1
theorem dX8_gather_10 : decode cX8_gather 10 = .ok (.aload_n 1, 1) := dGX8_3.2.2.2.2.1
theorem dX8_gather_11 : decode cX8_gather 11 = .ok (.getfield 22, 3) := dGX8_3.2.2.2.2.2
theorem dGX8_4 : decode cX8_gather 14 = .ok (.getfield 28, 3) ∧ decode cX8_gather 17 = .ok (.if_icmp .ge 32, 3) ∧ decode cX8_gather 20 = .ok (.aload_n 0, 1) ∧ decode cX8_gather 21 = .ok (.aload_n 1, 1) ∧ decode cX8_gather 22 = .ok (.iload_n 3, 1) ∧ decode cX8_gather 23 = .ok (.invokevirtual 31, 3) := by decide +kernel
theorem dX8_gather_14 : decode cX8_gather 14 = .ok (.getfield 28, 3) := dGX8_4.1
theorem dX8_gather_17 : decode cX8_gather 17 = .ok (.if_icmp .ge 32, 3) := dGX8_4.2.1
theorem dX8_gather_20 : decode cX8_gather 20 = .ok (.aload_n 0, 1) := dGX8_4.2.2.1
theorem dX8_gather_21 : decode cX8_gather 21 = .ok (.aload_n 1, 1) := dGX8_4.2.2.2.1
theorem dX8_gather_22 : decode cX8_gather 22 = .ok (.iload_n 3, 1) := dGX8_4.2.2.2.2.1
theorem dX8_gather_23 : decode cX8_gather 23 = .ok (.invokevirtual 31, 3) := dGX8_4.2.2.2.2.2
theorem dGX8_5 : decode cX8_gather 26 = .ok (.ineg, 1) ∧ decode cX8_gather 27 = .ok (.invokevirtual 35, 3) ∧ decode cX8_gather 30 = .ok (.ifCond .eq 11, 3) ∧ decode cX8_gather 33 = .ok (.iload_n 2, 1) ∧ decode cX8_gather 34 = .ok (.ifCond .eq 7, 3) ∧ decode cX8_gather 37 = .ok (.iconst 1, 1) := by decide +kernel
theorem dX8_gather_26 : decode cX8_gather 26 = .ok (.ineg, 1) := dGX8_5.1
theorem dX8_gather_27 : decode cX8_gather 27 = .ok (.invokevirtual 35, 3) := dGX8_5.2.1
theorem dX8_gather_30 : decode cX8_gather 30 = .ok (.ifCond .eq 11, 3) := dGX8_5.2.2.1
theorem dX8_gather_33 : decode cX8_gather 33 = .ok (.iload_n 2, 1) := dGX8_5.2.2.2.1
theorem dX8_gather_34 : decode cX8_gather 34 = .ok (.ifCond .eq 7, 3) := dGX8_5.2.2.2.2.1
theorem dX8_gather_37 : decode cX8_gather 37 = .ok (.iconst 1, 1) := dGX8_5.2.2.2.2.2
theorem dGX8_6 : decode cX8_gather 38 = .ok (.goto 4, 3) ∧ decode cX8_gather 41 = .ok (.iconst 0, 1) ∧ decode cX8_gather 42 = .ok (.istore_n 2, 1) ∧ decode cX8_gather 43 = .ok (.iinc 3 1, 3) ∧ decode cX8_gather 46 = .ok (.goto (-37), 3) ∧ decode cX8_gather 49 = .ok (.iconst 0, 1) := by decide +kernel
theorem dX8_gather_38 : decode cX8_gather 38 = .ok (.goto 4, 3) := dGX8_6.1
theorem dX8_gather_41 : decode cX8_gather 41 = .ok (.iconst 0, 1) := dGX8_6.2.1
theorem dX8_gather_42 : decode cX8_gather 42 = .ok (.istore_n 2, 1) := dGX8_6.2.2.1
theorem dX8_gather_43 : decode cX8_gather 43 = .ok (.iinc 3 1, 3) := dGX8_6.2.2.2.1
theorem dX8_gather_46 : decode cX8_gather 46 = .ok (.goto (-37), 3) := dGX8_6.2.2.2.2.1
theorem dX8_gather_49 : decode cX8_gather 49 = .ok (.iconst 0, 1) := dGX8_6.2.2.2.2.2
theorem dGX8_7 : decode cX8_gather 50 = .ok (.istore_n 3, 1) ∧ decode cX8_gather 51 = .ok (.iload_n 3, 1) ∧ decode cX8_gather 52 = .ok (.aload_n 1, 1) ∧ decode cX8_gather 53 = .ok (.getfield 39, 3) ∧ decode cX8_gather 56 = .ok (.getfield 43, 3) ∧ decode cX8_gather 59 = .ok (.if_icmp .ge 31, 3) := by decide +kernel
theorem dX8_gather_50 : decode cX8_gather 50 = .ok (.istore_n 3, 1) := dGX8_7.1
theorem dX8_gather_51 : decode cX8_gather 51 = .ok (.iload_n 3, 1) := dGX8_7.2.1
theorem dX8_gather_52 : decode cX8_gather 52 = .ok (.aload_n 1, 1) := dGX8_7.2.2.1
theorem dX8_gather_53 : decode cX8_gather 53 = .ok (.getfield 39, 3) := dGX8_7.2.2.2.1
theorem dX8_gather_56 : decode cX8_gather 56 = .ok (.getfield 43, 3) := dGX8_7.2.2.2.2.1
theorem dX8_gather_59 : decode cX8_gather 59 = .ok (.if_icmp .ge 31, 3) := dGX8_7.2.2.2.2.2
theorem dGX8_8 : decode cX8_gather 62 = .ok (.aload_n 0, 1) ∧ decode cX8_gather 63 = .ok (.aload_n 1, 1) ∧ decode cX8_gather 64 = .ok (.iload_n 3, 1) ∧ decode cX8_gather 65 = .ok (.invokevirtual 46, 3) ∧ decode cX8_gather 68 = .ok (.invokevirtual 35, 3) ∧ decode cX8_gather 71 = .ok (.ifCond .eq 11, 3) := by decide +kernel
theorem dX8_gather_62 : decode cX8_gather 62 = .ok (.aload_n 0, 1) := dGX8_8.1
theorem dX8_gather_63 : decode cX8_gather 63 = .ok (.aload_n 1, 1) := dGX8_8.2.1
theorem dX8_gather_64 : decode cX8_gather 64 = .ok (.iload_n 3, 1) := dGX8_8.2.2.1
theorem dX8_gather_65 : decode cX8_gather 65 = .ok (.invokevirtual 46, 3) := dGX8_8.2.2.2.1
theorem dX8_gather_68 : decode cX8_gather 68 = .ok (.invokevirtual 35, 3) := dGX8_8.2.2.2.2.1
theorem dX8_gather_71 : decode cX8_gather 71 = .ok (.ifCond .eq 11, 3) := dGX8_8.2.2.2.2.2
theorem dGX8_9 : decode cX8_gather 74 = .ok (.iload_n 2, 1) ∧ decode cX8_gather 75 = .ok (.ifCond .eq 7, 3) ∧ decode cX8_gather 78 = .ok (.iconst 1, 1) ∧ decode cX8_gather 79 = .ok (.goto 4, 3) ∧ decode cX8_gather 82 = .ok (.iconst 0, 1) ∧ decode cX8_gather 83 = .ok (.istore_n 2, 1) := by decide +kernel
theorem dX8_gather_74 : decode cX8_gather 74 = .ok (.iload_n 2, 1) := dGX8_9.1
theorem dX8_gather_75 : decode cX8_gather 75 = .ok (.ifCond .eq 7, 3) := dGX8_9.2.1
theorem dX8_gather_78 : decode cX8_gather 78 = .ok (.iconst 1, 1) := dGX8_9.2.2.1
theorem dX8_gather_79 : decode cX8_gather 79 = .ok (.goto 4, 3) := dGX8_9.2.2.2.1
theorem dX8_gather_82 : decode cX8_gather 82 = .ok (.iconst 0, 1) := dGX8_9.2.2.2.2.1
theorem dX8_gather_83 : decode cX8_gather 83 = .ok (.istore_n 2, 1) := dGX8_9.2.2.2.2.2
theorem dGX8_10 : decode cX8_gather 84 = .ok (.iinc 3 1, 3) ∧ decode cX8_gather 87 = .ok (.goto (-36), 3) ∧ decode cX8_gather 90 = .ok (.iload_n 2, 1) ∧ decode cX8_gather 91 = .ok (.ireturn, 1) ∧ decode cX8_add 0 = .ok (.iload_n 1, 1) ∧ decode cX8_add 1 = .ok (.ifCond .ne 5, 3) := by decide +kernel
theorem dX8_gather_84 : decode cX8_gather 84 = .ok (.iinc 3 1, 3) := dGX8_10.1
theorem dX8_gather_87 : decode cX8_gather 87 = .ok (.goto (-36), 3) := dGX8_10.2.1
theorem dX8_gather_90 : decode cX8_gather 90 = .ok (.iload_n 2, 1) := dGX8_10.2.2.1
theorem dX8_gather_91 : decode cX8_gather 91 = .ok (.ireturn, 1) := dGX8_10.2.2.2.1
theorem dX8_add_0 : decode cX8_add 0 = .ok (.iload_n 1, 1) := dGX8_10.2.2.2.2.1
theorem dX8_add_1 : decode cX8_add 1 = .ok (.ifCond .ne 5, 3) := dGX8_10.2.2.2.2.2
theorem dGX8_11 : decode cX8_add 4 = .ok (.iconst 1, 1) ∧ decode cX8_add 5 = .ok (.ireturn, 1) ∧ decode cX8_add 6 = .ok (.aload_n 0, 1) ∧ decode cX8_add 7 = .ok (.getfield 9, 3) ∧ decode cX8_add 10 = .ok (.bipush 7, 2) ∧ decode cX8_add 12 = .ok (.if_icmp .lt 5, 3) := by decide +kernel
theorem dX8_add_4 : decode cX8_add 4 = .ok (.iconst 1, 1) := dGX8_11.1
theorem dX8_add_5 : decode cX8_add 5 = .ok (.ireturn, 1) := dGX8_11.2.1
theorem dX8_add_6 : decode cX8_add 6 = .ok (.aload_n 0, 1) := dGX8_11.2.2.1
theorem dX8_add_7 : decode cX8_add 7 = .ok (.getfield 9, 3) := dGX8_11.2.2.2.1
theorem dX8_add_10 : decode cX8_add 10 = .ok (.bipush 7, 2) := dGX8_11.2.2.2.2.1
theorem dX8_add_12 : decode cX8_add 12 = .ok (.if_icmp .lt 5, 3) := dGX8_11.2.2.2.2.2
theorem dGX8_12 : decode cX8_add 15 = .ok (.iconst 0, 1) ∧ decode cX8_add 16 = .ok (.ireturn, 1) ∧ decode cX8_add 17 = .ok (.aload_n 0, 1) ∧ decode cX8_add 18 = .ok (.getfield 15, 3) ∧ decode cX8_add 21 = .ok (.aload_n 0, 1) ∧ decode cX8_add 22 = .ok (.getfield 9, 3) := by decide +kernel
theorem dX8_add_15 : decode cX8_add 15 = .ok (.iconst 0, 1) := dGX8_12.1
theorem dX8_add_16 : decode cX8_add 16 = .ok (.ireturn, 1) := dGX8_12.2.1
theorem dX8_add_17 : decode cX8_add 17 = .ok (.aload_n 0, 1) := dGX8_12.2.2.1
theorem dX8_add_18 : decode cX8_add 18 = .ok (.getfield 15, 3) := dGX8_12.2.2.2.1
theorem dX8_add_21 : decode cX8_add 21 = .ok (.aload_n 0, 1) := dGX8_12.2.2.2.2.1
theorem dX8_add_22 : decode cX8_add 22 = .ok (.getfield 9, 3) := dGX8_12.2.2.2.2.2
theorem dGX8_13 : decode cX8_add 25 = .ok (.iload_n 1, 1) ∧ decode cX8_add 26 = .ok (.iastore, 1) ∧ decode cX8_add 27 = .ok (.aload_n 0, 1) ∧ decode cX8_add 28 = .ok (.dup, 1) ∧ decode cX8_add 29 = .ok (.getfield 9, 3) ∧ decode cX8_add 32 = .ok (.iconst 1, 1) := by decide +kernel
theorem dX8_add_25 : decode cX8_add 25 = .ok (.iload_n 1, 1) := dGX8_13.1
theorem dX8_add_26 : decode cX8_add 26 = .ok (.iastore, 1) := dGX8_13.2.1
theorem dX8_add_27 : decode cX8_add 27 = .ok (.aload_n 0, 1) := dGX8_13.2.2.1
theorem dX8_add_28 : decode cX8_add 28 = .ok (.dup, 1) := dGX8_13.2.2.2.1
theorem dX8_add_29 : decode cX8_add 29 = .ok (.getfield 9, 3) := dGX8_13.2.2.2.2.1
theorem dX8_add_32 : decode cX8_add 32 = .ok (.iconst 1, 1) := dGX8_13.2.2.2.2.2
theorem dGX8_14 : decode cX8_add 33 = .ok (.iadd, 1) ∧ decode cX8_add 34 = .ok (.putfield 9, 3) ∧ decode cX8_add 37 = .ok (.iconst 1, 1) ∧ decode cX8_add 38 = .ok (.ireturn, 1) ∧ decode cX8_mostSets 0 = .ok (.iconst 1, 1) ∧ decode cX8_mostSets 1 = .ok (.aload_n 0, 1) := by decide +kernel
theorem dX8_add_33 : decode cX8_add 33 = .ok (.iadd, 1) := dGX8_14.1
theorem dX8_add_34 : decode cX8_add 34 = .ok (.putfield 9, 3) := dGX8_14.2.1
theorem dX8_add_37 : decode cX8_add 37 = .ok (.iconst 1, 1) := dGX8_14.2.2.1
theorem dX8_add_38 : decode cX8_add 38 = .ok (.ireturn, 1) := dGX8_14.2.2.2.1
theorem dX8_mostSets_0 : decode cX8_mostSets 0 = .ok (.iconst 1, 1) := dGX8_14.2.2.2.2.1
theorem dX8_mostSets_1 : decode cX8_mostSets 1 = .ok (.aload_n 0, 1) := dGX8_14.2.2.2.2.2
theorem dGX8_15 : decode cX8_mostSets 2 = .ok (.getfield 9, 3) ∧ decode cX8_mostSets 5 = .ok (.ishl, 1) ∧ decode cX8_mostSets 6 = .ok (.iconst 1, 1) ∧ decode cX8_mostSets 7 = .ok (.isub, 1) ∧ decode cX8_mostSets 8 = .ok (.istore_n 1, 1) ∧ decode cX8_mostSets 9 = .ok (.aload_n 0, 1) := by decide +kernel
theorem dX8_mostSets_2 : decode cX8_mostSets 2 = .ok (.getfield 9, 3) := dGX8_15.1
theorem dX8_mostSets_5 : decode cX8_mostSets 5 = .ok (.ishl, 1) := dGX8_15.2.1
theorem dX8_mostSets_6 : decode cX8_mostSets 6 = .ok (.iconst 1, 1) := dGX8_15.2.2.1
theorem dX8_mostSets_7 : decode cX8_mostSets 7 = .ok (.isub, 1) := dGX8_15.2.2.2.1
theorem dX8_mostSets_8 : decode cX8_mostSets 8 = .ok (.istore_n 1, 1) := dGX8_15.2.2.2.2.1
theorem dX8_mostSets_9 : decode cX8_mostSets 9 = .ok (.aload_n 0, 1) := dGX8_15.2.2.2.2.2
theorem dGX8_16 : decode cX8_mostSets 10 = .ok (.getfield 19, 3) ∧ decode cX8_mostSets 13 = .ok (.iconst 0, 1) ∧ decode cX8_mostSets 14 = .ok (.iconst 0, 1) ∧ decode cX8_mostSets 15 = .ok (.iastore, 1) ∧ decode cX8_mostSets 16 = .ok (.iconst 1, 1) ∧ decode cX8_mostSets 17 = .ok (.istore_n 2, 1) := by decide +kernel
theorem dX8_mostSets_10 : decode cX8_mostSets 10 = .ok (.getfield 19, 3) := dGX8_16.1
theorem dX8_mostSets_13 : decode cX8_mostSets 13 = .ok (.iconst 0, 1) := dGX8_16.2.1
theorem dX8_mostSets_14 : decode cX8_mostSets 14 = .ok (.iconst 0, 1) := dGX8_16.2.2.1
theorem dX8_mostSets_15 : decode cX8_mostSets 15 = .ok (.iastore, 1) := dGX8_16.2.2.2.1
theorem dX8_mostSets_16 : decode cX8_mostSets 16 = .ok (.iconst 1, 1) := dGX8_16.2.2.2.2.1
theorem dX8_mostSets_17 : decode cX8_mostSets 17 = .ok (.istore_n 2, 1) := dGX8_16.2.2.2.2.2
theorem dGX8_17 : decode cX8_mostSets 18 = .ok (.iload_n 2, 1) ∧ decode cX8_mostSets 19 = .ok (.iload_n 1, 1) ∧ decode cX8_mostSets 20 = .ok (.if_icmp .gt 89, 3) ∧ decode cX8_mostSets 23 = .ok (.iconst 0, 1) ∧ decode cX8_mostSets 24 = .ok (.istore_n 3, 1) ∧ decode cX8_mostSets 25 = .ok (.iconst 0, 1) := by decide +kernel
theorem dX8_mostSets_18 : decode cX8_mostSets 18 = .ok (.iload_n 2, 1) := dGX8_17.1
theorem dX8_mostSets_19 : decode cX8_mostSets 19 = .ok (.iload_n 1, 1) := dGX8_17.2.1
theorem dX8_mostSets_20 : decode cX8_mostSets 20 = .ok (.if_icmp .gt 89, 3) := dGX8_17.2.2.1
theorem dX8_mostSets_23 : decode cX8_mostSets 23 = .ok (.iconst 0, 1) := dGX8_17.2.2.2.1
theorem dX8_mostSets_24 : decode cX8_mostSets 24 = .ok (.istore_n 3, 1) := dGX8_17.2.2.2.2.1
theorem dX8_mostSets_25 : decode cX8_mostSets 25 = .ok (.iconst 0, 1) := dGX8_17.2.2.2.2.2
theorem dGX8_18 : decode cX8_mostSets 26 = .ok (.istore 4, 2) ∧ decode cX8_mostSets 28 = .ok (.iconst 0, 1) ∧ decode cX8_mostSets 29 = .ok (.istore 5, 2) ∧ decode cX8_mostSets 31 = .ok (.iload 5, 2) ∧ decode cX8_mostSets 33 = .ok (.aload_n 0, 1) ∧ decode cX8_mostSets 34 = .ok (.getfield 9, 3) := by decide +kernel
theorem dX8_mostSets_26 : decode cX8_mostSets 26 = .ok (.istore 4, 2) := dGX8_18.1
theorem dX8_mostSets_28 : decode cX8_mostSets 28 = .ok (.iconst 0, 1) := dGX8_18.2.1
theorem dX8_mostSets_29 : decode cX8_mostSets 29 = .ok (.istore 5, 2) := dGX8_18.2.2.1
theorem dX8_mostSets_31 : decode cX8_mostSets 31 = .ok (.iload 5, 2) := dGX8_18.2.2.2.1
theorem dX8_mostSets_33 : decode cX8_mostSets 33 = .ok (.aload_n 0, 1) := dGX8_18.2.2.2.2.1
theorem dX8_mostSets_34 : decode cX8_mostSets 34 = .ok (.getfield 9, 3) := dGX8_18.2.2.2.2.2
theorem dGX8_19 : decode cX8_mostSets 37 = .ok (.if_icmp .ge 47, 3) ∧ decode cX8_mostSets 40 = .ok (.iload_n 2, 1) ∧ decode cX8_mostSets 41 = .ok (.iload 5, 2) ∧ decode cX8_mostSets 43 = .ok (.ishr, 1) ∧ decode cX8_mostSets 44 = .ok (.iconst 1, 1) ∧ decode cX8_mostSets 45 = .ok (.iand, 1) := by decide +kernel
theorem dX8_mostSets_37 : decode cX8_mostSets 37 = .ok (.if_icmp .ge 47, 3) := dGX8_19.1
theorem dX8_mostSets_40 : decode cX8_mostSets 40 = .ok (.iload_n 2, 1) := dGX8_19.2.1
theorem dX8_mostSets_41 : decode cX8_mostSets 41 = .ok (.iload 5, 2) := dGX8_19.2.2.1
theorem dX8_mostSets_43 : decode cX8_mostSets 43 = .ok (.ishr, 1) := dGX8_19.2.2.2.1
theorem dX8_mostSets_44 : decode cX8_mostSets 44 = .ok (.iconst 1, 1) := dGX8_19.2.2.2.2.1
theorem dX8_mostSets_45 : decode cX8_mostSets 45 = .ok (.iand, 1) := dGX8_19.2.2.2.2.2
theorem dGX8_20 : decode cX8_mostSets 46 = .ok (.iconst 1, 1) ∧ decode cX8_mostSets 47 = .ok (.if_icmp .ne 31, 3) ∧ decode cX8_mostSets 50 = .ok (.iload_n 3, 1) ∧ decode cX8_mostSets 51 = .ok (.aload_n 0, 1) ∧ decode cX8_mostSets 52 = .ok (.getfield 15, 3) ∧ decode cX8_mostSets 55 = .ok (.iload 5, 2) := by decide +kernel
theorem dX8_mostSets_46 : decode cX8_mostSets 46 = .ok (.iconst 1, 1) := dGX8_20.1
theorem dX8_mostSets_47 : decode cX8_mostSets 47 = .ok (.if_icmp .ne 31, 3) := dGX8_20.2.1
theorem dX8_mostSets_50 : decode cX8_mostSets 50 = .ok (.iload_n 3, 1) := dGX8_20.2.2.1
theorem dX8_mostSets_51 : decode cX8_mostSets 51 = .ok (.aload_n 0, 1) := dGX8_20.2.2.2.1
theorem dX8_mostSets_52 : decode cX8_mostSets 52 = .ok (.getfield 15, 3) := dGX8_20.2.2.2.2.1
theorem dX8_mostSets_55 : decode cX8_mostSets 55 = .ok (.iload 5, 2) := dGX8_20.2.2.2.2.2
theorem dGX8_21 : decode cX8_mostSets 57 = .ok (.iaload, 1) ∧ decode cX8_mostSets 58 = .ok (.iadd, 1) ∧ decode cX8_mostSets 59 = .ok (.istore_n 3, 1) ∧ decode cX8_mostSets 60 = .ok (.iload 4, 2) ∧ decode cX8_mostSets 62 = .ok (.aload_n 0, 1) ∧ decode cX8_mostSets 63 = .ok (.getfield 19, 3) := by decide +kernel
theorem dX8_mostSets_57 : decode cX8_mostSets 57 = .ok (.iaload, 1) := dGX8_21.1
theorem dX8_mostSets_58 : decode cX8_mostSets 58 = .ok (.iadd, 1) := dGX8_21.2.1
theorem dX8_mostSets_59 : decode cX8_mostSets 59 = .ok (.istore_n 3, 1) := dGX8_21.2.2.1
theorem dX8_mostSets_60 : decode cX8_mostSets 60 = .ok (.iload 4, 2) := dGX8_21.2.2.2.1
theorem dX8_mostSets_62 : decode cX8_mostSets 62 = .ok (.aload_n 0, 1) := dGX8_21.2.2.2.2.1
theorem dX8_mostSets_63 : decode cX8_mostSets 63 = .ok (.getfield 19, 3) := dGX8_21.2.2.2.2.2
theorem dGX8_22 : decode cX8_mostSets 66 = .ok (.iload_n 2, 1) ∧ decode cX8_mostSets 67 = .ok (.iconst 1, 1) ∧ decode cX8_mostSets 68 = .ok (.iload 5, 2) ∧ decode cX8_mostSets 70 = .ok (.ishl, 1) ∧ decode cX8_mostSets 71 = .ok (.ixor, 1) ∧ decode cX8_mostSets 72 = .ok (.iaload, 1) := by decide +kernel
theorem dX8_mostSets_66 : decode cX8_mostSets 66 = .ok (.iload_n 2, 1) := dGX8_22.1
theorem dX8_mostSets_67 : decode cX8_mostSets 67 = .ok (.iconst 1, 1) := dGX8_22.2.1
theorem dX8_mostSets_68 : decode cX8_mostSets 68 = .ok (.iload 5, 2) := dGX8_22.2.2.1
theorem dX8_mostSets_70 : decode cX8_mostSets 70 = .ok (.ishl, 1) := dGX8_22.2.2.2.1
theorem dX8_mostSets_71 : decode cX8_mostSets 71 = .ok (.ixor, 1) := dGX8_22.2.2.2.2.1
theorem dX8_mostSets_72 : decode cX8_mostSets 72 = .ok (.iaload, 1) := dGX8_22.2.2.2.2.2
theorem dGX8_23 : decode cX8_mostSets 73 = .ok (.invokestatic 49, 3) ∧ decode cX8_mostSets 76 = .ok (.istore 4, 2) ∧ decode cX8_mostSets 78 = .ok (.iinc 5 1, 3) ∧ decode cX8_mostSets 81 = .ok (.goto (-50), 3) ∧ decode cX8_mostSets 84 = .ok (.aload_n 0, 1) ∧ decode cX8_mostSets 85 = .ok (.getfield 19, 3) := by decide +kernel
theorem dX8_mostSets_73 : decode cX8_mostSets 73 = .ok (.invokestatic 49, 3) := dGX8_23.1
theorem dX8_mostSets_76 : decode cX8_mostSets 76 = .ok (.istore 4, 2) := dGX8_23.2.1
theorem dX8_mostSets_78 : decode cX8_mostSets 78 = .ok (.iinc 5 1, 3) := dGX8_23.2.2.1
theorem dX8_mostSets_81 : decode cX8_mostSets 81 = .ok (.goto (-50), 3) := dGX8_23.2.2.2.1
theorem dX8_mostSets_84 : decode cX8_mostSets 84 = .ok (.aload_n 0, 1) := dGX8_23.2.2.2.2.1
theorem dX8_mostSets_85 : decode cX8_mostSets 85 = .ok (.getfield 19, 3) := dGX8_23.2.2.2.2.2
theorem dGX8_24 : decode cX8_mostSets 88 = .ok (.iload_n 2, 1) ∧ decode cX8_mostSets 89 = .ok (.iload_n 3, 1) ∧ decode cX8_mostSets 90 = .ok (.ifCond .ne 10, 3) ∧ decode cX8_mostSets 93 = .ok (.iload 4, 2) ∧ decode cX8_mostSets 95 = .ok (.iconst 1, 1) ∧ decode cX8_mostSets 96 = .ok (.iadd, 1) := by decide +kernel
theorem dX8_mostSets_88 : decode cX8_mostSets 88 = .ok (.iload_n 2, 1) := dGX8_24.1
theorem dX8_mostSets_89 : decode cX8_mostSets 89 = .ok (.iload_n 3, 1) := dGX8_24.2.1
theorem dX8_mostSets_90 : decode cX8_mostSets 90 = .ok (.ifCond .ne 10, 3) := dGX8_24.2.2.1
theorem dX8_mostSets_93 : decode cX8_mostSets 93 = .ok (.iload 4, 2) := dGX8_24.2.2.2.1
theorem dX8_mostSets_95 : decode cX8_mostSets 95 = .ok (.iconst 1, 1) := dGX8_24.2.2.2.2.1
theorem dX8_mostSets_96 : decode cX8_mostSets 96 = .ok (.iadd, 1) := dGX8_24.2.2.2.2.2
theorem dGX8_25 : decode cX8_mostSets 97 = .ok (.goto 5, 3) ∧ decode cX8_mostSets 100 = .ok (.iload 4, 2) ∧ decode cX8_mostSets 102 = .ok (.iastore, 1) ∧ decode cX8_mostSets 103 = .ok (.iinc 2 1, 3) ∧ decode cX8_mostSets 106 = .ok (.goto (-88), 3) ∧ decode cX8_mostSets 109 = .ok (.aload_n 0, 1) := by decide +kernel
theorem dX8_mostSets_97 : decode cX8_mostSets 97 = .ok (.goto 5, 3) := dGX8_25.1
theorem dX8_mostSets_100 : decode cX8_mostSets 100 = .ok (.iload 4, 2) := dGX8_25.2.1
theorem dX8_mostSets_102 : decode cX8_mostSets 102 = .ok (.iastore, 1) := dGX8_25.2.2.1
theorem dX8_mostSets_103 : decode cX8_mostSets 103 = .ok (.iinc 2 1, 3) := dGX8_25.2.2.2.1
theorem dX8_mostSets_106 : decode cX8_mostSets 106 = .ok (.goto (-88), 3) := dGX8_25.2.2.2.2.1
theorem dX8_mostSets_109 : decode cX8_mostSets 109 = .ok (.aload_n 0, 1) := dGX8_25.2.2.2.2.2
theorem dGX8_26 : decode cX8_mostSets 110 = .ok (.getfield 19, 3) ∧ decode cX8_mostSets 113 = .ok (.iload_n 1, 1) ∧ decode cX8_mostSets 114 = .ok (.iaload, 1) ∧ decode cX8_mostSets 115 = .ok (.ireturn, 1) := by decide +kernel
theorem dX8_mostSets_110 : decode cX8_mostSets 110 = .ok (.getfield 19, 3) := dGX8_26.1
theorem dX8_mostSets_113 : decode cX8_mostSets 113 = .ok (.iload_n 1, 1) := dGX8_26.2.1
theorem dX8_mostSets_114 : decode cX8_mostSets 114 = .ok (.iaload, 1) := dGX8_26.2.2.1
theorem dX8_mostSets_115 : decode cX8_mostSets 115 = .ok (.ireturn, 1) := dGX8_26.2.2.2
theorem dGX9_0 : decode cX9_init 0 = .ok (.aload_n 0, 1) ∧ decode cX9_init 1 = .ok (.invokespecial 3, 3) ∧ decode cX9_init 4 = .ok (.aload_n 0, 1) ∧ decode cX9_init 5 = .ok (.new 9, 3) ∧ decode cX9_init 8 = .ok (.dup, 1) ∧ decode cX9_init 9 = .ok (.invokespecial 11, 3) := by decide +kernel
theorem dX9_init_0 : decode cX9_init 0 = .ok (.aload_n 0, 1) := dGX9_0.1
theorem dX9_init_1 : decode cX9_init 1 = .ok (.invokespecial 3, 3) := dGX9_0.2.1
theorem dX9_init_4 : decode cX9_init 4 = .ok (.aload_n 0, 1) := dGX9_0.2.2.1
theorem dX9_init_5 : decode cX9_init 5 = .ok (.new 9, 3) := dGX9_0.2.2.2.1
theorem dX9_init_8 : decode cX9_init 8 = .ok (.dup, 1) := dGX9_0.2.2.2.2.1
theorem dX9_init_9 : decode cX9_init 9 = .ok (.invokespecial 11, 3) := dGX9_0.2.2.2.2.2
theorem dGX9_1 : decode cX9_init 12 = .ok (.putfield 12, 3) ∧ decode cX9_init 15 = .ok (.aload_n 0, 1) ∧ decode cX9_init 16 = .ok (.new 18, 3) ∧ decode cX9_init 19 = .ok (.dup, 1) ∧ decode cX9_init 20 = .ok (.invokespecial 20, 3) ∧ decode cX9_init 23 = .ok (.putfield 21, 3) := by decide +kernel
theorem dX9_init_12 : decode cX9_init 12 = .ok (.putfield 12, 3) := dGX9_1.1
theorem dX9_init_15 : decode cX9_init 15 = .ok (.aload_n 0, 1) := dGX9_1.2.1
theorem dX9_init_16 : decode cX9_init 16 = .ok (.new 18, 3) := dGX9_1.2.2.1
theorem dX9_init_19 : decode cX9_init 19 = .ok (.dup, 1) := dGX9_1.2.2.2.1
theorem dX9_init_20 : decode cX9_init 20 = .ok (.invokespecial 20, 3) := dGX9_1.2.2.2.2.1
theorem dX9_init_23 : decode cX9_init 23 = .ok (.putfield 21, 3) := dGX9_1.2.2.2.2.2
theorem dGX9_2 : decode cX9_init 26 = .ok (.aload_n 0, 1) ∧ decode cX9_init 27 = .ok (.new 25, 3) ∧ decode cX9_init 30 = .ok (.dup, 1) ∧ decode cX9_init 31 = .ok (.invokespecial 27, 3) ∧ decode cX9_init 34 = .ok (.putfield 28, 3) ∧ decode cX9_init 37 = .ok (.aload_n 0, 1) := by decide +kernel
theorem dX9_init_26 : decode cX9_init 26 = .ok (.aload_n 0, 1) := dGX9_2.1
theorem dX9_init_27 : decode cX9_init 27 = .ok (.new 25, 3) := dGX9_2.2.1
theorem dX9_init_30 : decode cX9_init 30 = .ok (.dup, 1) := dGX9_2.2.2.1
theorem dX9_init_31 : decode cX9_init 31 = .ok (.invokespecial 27, 3) := dGX9_2.2.2.2.1
theorem dX9_init_34 : decode cX9_init 34 = .ok (.putfield 28, 3) := dGX9_2.2.2.2.2.1
theorem dX9_init_37 : decode cX9_init 37 = .ok (.aload_n 0, 1) := dGX9_2.2.2.2.2.2
theorem dGX9_3 : decode cX9_init 38 = .ok (.bipush 64, 2) ∧ decode cX9_init 40 = .ok (.newarray .int, 2) ∧ decode cX9_init 42 = .ok (.putfield 32, 3) ∧ decode cX9_init 45 = .ok (.aload_n 0, 1) ∧ decode cX9_init 46 = .ok (.bipush 64, 2) ∧ decode cX9_init 48 = .ok (.newarray .int, 2) := by decide +kernel
theorem dX9_init_38 : decode cX9_init 38 = .ok (.bipush 64, 2) := dGX9_3.1
theorem dX9_init_40 : decode cX9_init 40 = .ok (.newarray .int, 2) := dGX9_3.2.1
theorem dX9_init_42 : decode cX9_init 42 = .ok (.putfield 32, 3) := dGX9_3.2.2.1
theorem dX9_init_45 : decode cX9_init 45 = .ok (.aload_n 0, 1) := dGX9_3.2.2.2.1
theorem dX9_init_46 : decode cX9_init 46 = .ok (.bipush 64, 2) := dGX9_3.2.2.2.2.1
theorem dX9_init_48 : decode cX9_init 48 = .ok (.newarray .int, 2) := dGX9_3.2.2.2.2.2
theorem dGX9_4 : decode cX9_init 50 = .ok (.putfield 36, 3) ∧ decode cX9_init 53 = .ok (.aload_n 0, 1) ∧ decode cX9_init 54 = .ok (.bipush 100, 2) ∧ decode cX9_init 56 = .ok (.newarray .int, 2) ∧ decode cX9_init 58 = .ok (.putfield 39, 3) ∧ decode cX9_init 61 = .ok (.aload_n 0, 1) := by decide +kernel
theorem dX9_init_50 : decode cX9_init 50 = .ok (.putfield 36, 3) := dGX9_4.1
theorem dX9_init_53 : decode cX9_init 53 = .ok (.aload_n 0, 1) := dGX9_4.2.1
theorem dX9_init_54 : decode cX9_init 54 = .ok (.bipush 100, 2) := dGX9_4.2.2.1
theorem dX9_init_56 : decode cX9_init 56 = .ok (.newarray .int, 2) := dGX9_4.2.2.2.1
theorem dX9_init_58 : decode cX9_init 58 = .ok (.putfield 39, 3) := dGX9_4.2.2.2.2.1
theorem dX9_init_61 : decode cX9_init 61 = .ok (.aload_n 0, 1) := dGX9_4.2.2.2.2.2
theorem dGX9_5 : decode cX9_init 62 = .ok (.iconst 0, 1) ∧ decode cX9_init 63 = .ok (.putfield 42, 3) ∧ decode cX9_init 66 = .ok (.aload_n 0, 1) ∧ decode cX9_init 67 = .ok (.iconst 1, 1) ∧ decode cX9_init 68 = .ok (.putfield 46, 3) ∧ decode cX9_init 71 = .ok (.aload_n 0, 1) := by decide +kernel
theorem dX9_init_62 : decode cX9_init 62 = .ok (.iconst 0, 1) := dGX9_5.1
theorem dX9_init_63 : decode cX9_init 63 = .ok (.putfield 42, 3) := dGX9_5.2.1
theorem dX9_init_66 : decode cX9_init 66 = .ok (.aload_n 0, 1) := dGX9_5.2.2.1
theorem dX9_init_67 : decode cX9_init 67 = .ok (.iconst 1, 1) := dGX9_5.2.2.2.1
theorem dX9_init_68 : decode cX9_init 68 = .ok (.putfield 46, 3) := dGX9_5.2.2.2.2.1
theorem dX9_init_71 : decode cX9_init 71 = .ok (.aload_n 0, 1) := dGX9_5.2.2.2.2.2
theorem dGX9_6 : decode cX9_init 72 = .ok (.iconst 0, 1) ∧ decode cX9_init 73 = .ok (.putfield 49, 3) ∧ decode cX9_init 76 = .ok (.aload_n 0, 1) ∧ decode cX9_init 77 = .ok (.bipush 12, 2) ∧ decode cX9_init 79 = .ok (.newarray .int, 2) ∧ decode cX9_init 81 = .ok (.putfield 52, 3) := by decide +kernel
theorem dX9_init_72 : decode cX9_init 72 = .ok (.iconst 0, 1) := dGX9_6.1
theorem dX9_init_73 : decode cX9_init 73 = .ok (.putfield 49, 3) := dGX9_6.2.1
theorem dX9_init_76 : decode cX9_init 76 = .ok (.aload_n 0, 1) := dGX9_6.2.2.1
theorem dX9_init_77 : decode cX9_init 77 = .ok (.bipush 12, 2) := dGX9_6.2.2.2.1
theorem dX9_init_79 : decode cX9_init 79 = .ok (.newarray .int, 2) := dGX9_6.2.2.2.2.1
theorem dX9_init_81 : decode cX9_init 81 = .ok (.putfield 52, 3) := dGX9_6.2.2.2.2.2
theorem dGX9_7 : decode cX9_init 84 = .ok (.return_, 1) ∧ decode cX9_copyFrom 0 = .ok (.aload_n 0, 1) ∧ decode cX9_copyFrom 1 = .ok (.getfield 12, 3) ∧ decode cX9_copyFrom 4 = .ok (.aload_n 1, 1) ∧ decode cX9_copyFrom 5 = .ok (.getfield 12, 3) ∧ decode cX9_copyFrom 8 = .ok (.invokevirtual 55, 3) := by decide +kernel
theorem dX9_init_84 : decode cX9_init 84 = .ok (.return_, 1) := dGX9_7.1
theorem dX9_copyFrom_0 : decode cX9_copyFrom 0 = .ok (.aload_n 0, 1) := dGX9_7.2.1
theorem dX9_copyFrom_1 : decode cX9_copyFrom 1 = .ok (.getfield 12, 3) := dGX9_7.2.2.1
theorem dX9_copyFrom_4 : decode cX9_copyFrom 4 = .ok (.aload_n 1, 1) := dGX9_7.2.2.2.1
theorem dX9_copyFrom_5 : decode cX9_copyFrom 5 = .ok (.getfield 12, 3) := dGX9_7.2.2.2.2.1
theorem dX9_copyFrom_8 : decode cX9_copyFrom 8 = .ok (.invokevirtual 55, 3) := dGX9_7.2.2.2.2.2
theorem dGX9_8 : decode cX9_copyFrom 11 = .ok (.aload_n 0, 1) ∧ decode cX9_copyFrom 12 = .ok (.getfield 21, 3) ∧ decode cX9_copyFrom 15 = .ok (.aload_n 1, 1) ∧ decode cX9_copyFrom 16 = .ok (.getfield 21, 3) ∧ decode cX9_copyFrom 19 = .ok (.invokevirtual 59, 3) ∧ decode cX9_copyFrom 22 = .ok (.aload_n 0, 1) := by decide +kernel
theorem dX9_copyFrom_11 : decode cX9_copyFrom 11 = .ok (.aload_n 0, 1) := dGX9_8.1
theorem dX9_copyFrom_12 : decode cX9_copyFrom 12 = .ok (.getfield 21, 3) := dGX9_8.2.1
theorem dX9_copyFrom_15 : decode cX9_copyFrom 15 = .ok (.aload_n 1, 1) := dGX9_8.2.2.1
theorem dX9_copyFrom_16 : decode cX9_copyFrom 16 = .ok (.getfield 21, 3) := dGX9_8.2.2.2.1
theorem dX9_copyFrom_19 : decode cX9_copyFrom 19 = .ok (.invokevirtual 59, 3) := dGX9_8.2.2.2.2.1
theorem dX9_copyFrom_22 : decode cX9_copyFrom 22 = .ok (.aload_n 0, 1) := dGX9_8.2.2.2.2.2
theorem dGX9_9 : decode cX9_copyFrom 23 = .ok (.getfield 28, 3) ∧ decode cX9_copyFrom 26 = .ok (.aload_n 1, 1) ∧ decode cX9_copyFrom 27 = .ok (.getfield 28, 3) ∧ decode cX9_copyFrom 30 = .ok (.invokevirtual 62, 3) ∧ decode cX9_copyFrom 33 = .ok (.aload_n 1, 1) ∧ decode cX9_copyFrom 34 = .ok (.getfield 32, 3) := by decide +kernel
theorem dX9_copyFrom_23 : decode cX9_copyFrom 23 = .ok (.getfield 28, 3) := dGX9_9.1
theorem dX9_copyFrom_26 : decode cX9_copyFrom 26 = .ok (.aload_n 1, 1) := dGX9_9.2.1
theorem dX9_copyFrom_27 : decode cX9_copyFrom 27 = .ok (.getfield 28, 3) := dGX9_9.2.2.1
theorem dX9_copyFrom_30 : decode cX9_copyFrom 30 = .ok (.invokevirtual 62, 3) := dGX9_9.2.2.2.1
theorem dX9_copyFrom_33 : decode cX9_copyFrom 33 = .ok (.aload_n 1, 1) := dGX9_9.2.2.2.2.1
theorem dX9_copyFrom_34 : decode cX9_copyFrom 34 = .ok (.getfield 32, 3) := dGX9_9.2.2.2.2.2
theorem dGX9_10 : decode cX9_copyFrom 37 = .ok (.iconst 0, 1) ∧ decode cX9_copyFrom 38 = .ok (.aload_n 0, 1) ∧ decode cX9_copyFrom 39 = .ok (.getfield 32, 3) ∧ decode cX9_copyFrom 42 = .ok (.iconst 0, 1) ∧ decode cX9_copyFrom 43 = .ok (.bipush 64, 2) ∧ decode cX9_copyFrom 45 = .ok (.invokestatic 65, 3) := by decide +kernel
theorem dX9_copyFrom_37 : decode cX9_copyFrom 37 = .ok (.iconst 0, 1) := dGX9_10.1
theorem dX9_copyFrom_38 : decode cX9_copyFrom 38 = .ok (.aload_n 0, 1) := dGX9_10.2.1
theorem dX9_copyFrom_39 : decode cX9_copyFrom 39 = .ok (.getfield 32, 3) := dGX9_10.2.2.1
theorem dX9_copyFrom_42 : decode cX9_copyFrom 42 = .ok (.iconst 0, 1) := dGX9_10.2.2.2.1
theorem dX9_copyFrom_43 : decode cX9_copyFrom 43 = .ok (.bipush 64, 2) := dGX9_10.2.2.2.2.1
theorem dX9_copyFrom_45 : decode cX9_copyFrom 45 = .ok (.invokestatic 65, 3) := dGX9_10.2.2.2.2.2
theorem dGX9_11 : decode cX9_copyFrom 48 = .ok (.aload_n 1, 1) ∧ decode cX9_copyFrom 49 = .ok (.getfield 36, 3) ∧ decode cX9_copyFrom 52 = .ok (.iconst 0, 1) ∧ decode cX9_copyFrom 53 = .ok (.aload_n 0, 1) ∧ decode cX9_copyFrom 54 = .ok (.getfield 36, 3) ∧ decode cX9_copyFrom 57 = .ok (.iconst 0, 1) := by decide +kernel
theorem dX9_copyFrom_48 : decode cX9_copyFrom 48 = .ok (.aload_n 1, 1) := dGX9_11.1
theorem dX9_copyFrom_49 : decode cX9_copyFrom 49 = .ok (.getfield 36, 3) := dGX9_11.2.1
theorem dX9_copyFrom_52 : decode cX9_copyFrom 52 = .ok (.iconst 0, 1) := dGX9_11.2.2.1
theorem dX9_copyFrom_53 : decode cX9_copyFrom 53 = .ok (.aload_n 0, 1) := dGX9_11.2.2.2.1
theorem dX9_copyFrom_54 : decode cX9_copyFrom 54 = .ok (.getfield 36, 3) := dGX9_11.2.2.2.2.1
theorem dX9_copyFrom_57 : decode cX9_copyFrom 57 = .ok (.iconst 0, 1) := dGX9_11.2.2.2.2.2
theorem dGX9_12 : decode cX9_copyFrom 58 = .ok (.bipush 64, 2) ∧ decode cX9_copyFrom 60 = .ok (.invokestatic 65, 3) ∧ decode cX9_copyFrom 63 = .ok (.aload_n 1, 1) ∧ decode cX9_copyFrom 64 = .ok (.getfield 39, 3) ∧ decode cX9_copyFrom 67 = .ok (.iconst 0, 1) ∧ decode cX9_copyFrom 68 = .ok (.aload_n 0, 1) := by decide +kernel
theorem dX9_copyFrom_58 : decode cX9_copyFrom 58 = .ok (.bipush 64, 2) := dGX9_12.1
theorem dX9_copyFrom_60 : decode cX9_copyFrom 60 = .ok (.invokestatic 65, 3) := dGX9_12.2.1
theorem dX9_copyFrom_63 : decode cX9_copyFrom 63 = .ok (.aload_n 1, 1) := dGX9_12.2.2.1
theorem dX9_copyFrom_64 : decode cX9_copyFrom 64 = .ok (.getfield 39, 3) := dGX9_12.2.2.2.1
theorem dX9_copyFrom_67 : decode cX9_copyFrom 67 = .ok (.iconst 0, 1) := dGX9_12.2.2.2.2.1
theorem dX9_copyFrom_68 : decode cX9_copyFrom 68 = .ok (.aload_n 0, 1) := dGX9_12.2.2.2.2.2
theorem dGX9_13 : decode cX9_copyFrom 69 = .ok (.getfield 39, 3) ∧ decode cX9_copyFrom 72 = .ok (.iconst 0, 1) ∧ decode cX9_copyFrom 73 = .ok (.bipush 100, 2) ∧ decode cX9_copyFrom 75 = .ok (.invokestatic 65, 3) ∧ decode cX9_copyFrom 78 = .ok (.aload_n 0, 1) ∧ decode cX9_copyFrom 79 = .ok (.aload_n 1, 1) := by decide +kernel
theorem dX9_copyFrom_69 : decode cX9_copyFrom 69 = .ok (.getfield 39, 3) := dGX9_13.1
theorem dX9_copyFrom_72 : decode cX9_copyFrom 72 = .ok (.iconst 0, 1) := dGX9_13.2.1
theorem dX9_copyFrom_73 : decode cX9_copyFrom 73 = .ok (.bipush 100, 2) := dGX9_13.2.2.1
theorem dX9_copyFrom_75 : decode cX9_copyFrom 75 = .ok (.invokestatic 65, 3) := dGX9_13.2.2.2.1
theorem dX9_copyFrom_78 : decode cX9_copyFrom 78 = .ok (.aload_n 0, 1) := dGX9_13.2.2.2.2.1
theorem dX9_copyFrom_79 : decode cX9_copyFrom 79 = .ok (.aload_n 1, 1) := dGX9_13.2.2.2.2.2
theorem dGX9_14 : decode cX9_copyFrom 80 = .ok (.getfield 42, 3) ∧ decode cX9_copyFrom 83 = .ok (.putfield 42, 3) ∧ decode cX9_copyFrom 86 = .ok (.aload_n 0, 1) ∧ decode cX9_copyFrom 87 = .ok (.aload_n 1, 1) ∧ decode cX9_copyFrom 88 = .ok (.getfield 46, 3) ∧ decode cX9_copyFrom 91 = .ok (.putfield 46, 3) := by decide +kernel
theorem dX9_copyFrom_80 : decode cX9_copyFrom 80 = .ok (.getfield 42, 3) := dGX9_14.1
theorem dX9_copyFrom_83 : decode cX9_copyFrom 83 = .ok (.putfield 42, 3) := dGX9_14.2.1
theorem dX9_copyFrom_86 : decode cX9_copyFrom 86 = .ok (.aload_n 0, 1) := dGX9_14.2.2.1
theorem dX9_copyFrom_87 : decode cX9_copyFrom 87 = .ok (.aload_n 1, 1) := dGX9_14.2.2.2.1
theorem dX9_copyFrom_88 : decode cX9_copyFrom 88 = .ok (.getfield 46, 3) := dGX9_14.2.2.2.2.1
theorem dX9_copyFrom_91 : decode cX9_copyFrom 91 = .ok (.putfield 46, 3) := dGX9_14.2.2.2.2.2
theorem dGX9_15 : decode cX9_copyFrom 94 = .ok (.aload_n 0, 1) ∧ decode cX9_copyFrom 95 = .ok (.aload_n 1, 1) ∧ decode cX9_copyFrom 96 = .ok (.getfield 49, 3) ∧ decode cX9_copyFrom 99 = .ok (.putfield 49, 3) ∧ decode cX9_copyFrom 102 = .ok (.return_, 1) ∧ decode cX9_gearOf 0 = .ok (.iload_n 1, 1) := by decide +kernel
theorem dX9_copyFrom_94 : decode cX9_copyFrom 94 = .ok (.aload_n 0, 1) := dGX9_15.1
theorem dX9_copyFrom_95 : decode cX9_copyFrom 95 = .ok (.aload_n 1, 1) := dGX9_15.2.1
theorem dX9_copyFrom_96 : decode cX9_copyFrom 96 = .ok (.getfield 49, 3) := dGX9_15.2.2.1
theorem dX9_copyFrom_99 : decode cX9_copyFrom 99 = .ok (.putfield 49, 3) := dGX9_15.2.2.2.1
theorem dX9_copyFrom_102 : decode cX9_copyFrom 102 = .ok (.return_, 1) := dGX9_15.2.2.2.2.1
theorem dX9_gearOf_0 : decode cX9_gearOf 0 = .ok (.iload_n 1, 1) := dGX9_15.2.2.2.2.2
theorem dGX9_16 : decode cX9_gearOf 1 = .ok (.ifCond .ne 28, 3) ∧ decode cX9_gearOf 4 = .ok (.aload_n 0, 1) ∧ decode cX9_gearOf 5 = .ok (.getfield 21, 3) ∧ decode cX9_gearOf 8 = .ok (.iload_n 2, 1) ∧ decode cX9_gearOf 9 = .ok (.invokevirtual 71, 3) ∧ decode cX9_gearOf 12 = .ok (.ifCond .eq 15, 3) := by decide +kernel
theorem dX9_gearOf_1 : decode cX9_gearOf 1 = .ok (.ifCond .ne 28, 3) := dGX9_16.1
theorem dX9_gearOf_4 : decode cX9_gearOf 4 = .ok (.aload_n 0, 1) := dGX9_16.2.1
theorem dX9_gearOf_5 : decode cX9_gearOf 5 = .ok (.getfield 21, 3) := dGX9_16.2.2.1
theorem dX9_gearOf_8 : decode cX9_gearOf 8 = .ok (.iload_n 2, 1) := dGX9_16.2.2.2.1
theorem dX9_gearOf_9 : decode cX9_gearOf 9 = .ok (.invokevirtual 71, 3) := dGX9_16.2.2.2.2.1
theorem dX9_gearOf_12 : decode cX9_gearOf 12 = .ok (.ifCond .eq 15, 3) := dGX9_16.2.2.2.2.2
theorem dGX9_17 : decode cX9_gearOf 15 = .ok (.aload_n 0, 1) ∧ decode cX9_gearOf 16 = .ok (.getfield 21, 3) ∧ decode cX9_gearOf 19 = .ok (.getfield 75, 3) ∧ decode cX9_gearOf 22 = .ok (.iload_n 2, 1) ∧ decode cX9_gearOf 23 = .ok (.iaload, 1) ∧ decode cX9_gearOf 24 = .ok (.goto 4, 3) := by decide +kernel
theorem dX9_gearOf_15 : decode cX9_gearOf 15 = .ok (.aload_n 0, 1) := dGX9_17.1
theorem dX9_gearOf_16 : decode cX9_gearOf 16 = .ok (.getfield 21, 3) := dGX9_17.2.1
theorem dX9_gearOf_19 : decode cX9_gearOf 19 = .ok (.getfield 75, 3) := dGX9_17.2.2.1
theorem dX9_gearOf_22 : decode cX9_gearOf 22 = .ok (.iload_n 2, 1) := dGX9_17.2.2.2.1
theorem dX9_gearOf_23 : decode cX9_gearOf 23 = .ok (.iaload, 1) := dGX9_17.2.2.2.2.1
theorem dX9_gearOf_24 : decode cX9_gearOf 24 = .ok (.goto 4, 3) := dGX9_17.2.2.2.2.2
theorem dGX9_18 : decode cX9_gearOf 27 = .ok (.iconst 0, 1) ∧ decode cX9_gearOf 28 = .ok (.ireturn, 1) ∧ decode cX9_gearOf 29 = .ok (.aload_n 0, 1) ∧ decode cX9_gearOf 30 = .ok (.getfield 28, 3) ∧ decode cX9_gearOf 33 = .ok (.iload_n 2, 1) ∧ decode cX9_gearOf 34 = .ok (.invokevirtual 78, 3) := by decide +kernel
theorem dX9_gearOf_27 : decode cX9_gearOf 27 = .ok (.iconst 0, 1) := dGX9_18.1
theorem dX9_gearOf_28 : decode cX9_gearOf 28 = .ok (.ireturn, 1) := dGX9_18.2.1
theorem dX9_gearOf_29 : decode cX9_gearOf 29 = .ok (.aload_n 0, 1) := dGX9_18.2.2.1
theorem dX9_gearOf_30 : decode cX9_gearOf 30 = .ok (.getfield 28, 3) := dGX9_18.2.2.2.1
theorem dX9_gearOf_33 : decode cX9_gearOf 33 = .ok (.iload_n 2, 1) := dGX9_18.2.2.2.2.1
theorem dX9_gearOf_34 : decode cX9_gearOf 34 = .ok (.invokevirtual 78, 3) := dGX9_18.2.2.2.2.2
theorem dGX9_19 : decode cX9_gearOf 37 = .ok (.ifCond .eq 15, 3) ∧ decode cX9_gearOf 40 = .ok (.aload_n 0, 1) ∧ decode cX9_gearOf 41 = .ok (.getfield 28, 3) ∧ decode cX9_gearOf 44 = .ok (.getfield 79, 3) ∧ decode cX9_gearOf 47 = .ok (.iload_n 2, 1) ∧ decode cX9_gearOf 48 = .ok (.iaload, 1) := by decide +kernel
theorem dX9_gearOf_37 : decode cX9_gearOf 37 = .ok (.ifCond .eq 15, 3) := dGX9_19.1
theorem dX9_gearOf_40 : decode cX9_gearOf 40 = .ok (.aload_n 0, 1) := dGX9_19.2.1
theorem dX9_gearOf_41 : decode cX9_gearOf 41 = .ok (.getfield 28, 3) := dGX9_19.2.2.1
theorem dX9_gearOf_44 : decode cX9_gearOf 44 = .ok (.getfield 79, 3) := dGX9_19.2.2.2.1
theorem dX9_gearOf_47 : decode cX9_gearOf 47 = .ok (.iload_n 2, 1) := dGX9_19.2.2.2.2.1
theorem dX9_gearOf_48 : decode cX9_gearOf 48 = .ok (.iaload, 1) := dGX9_19.2.2.2.2.2
theorem dGX9_20 : decode cX9_gearOf 49 = .ok (.goto 4, 3) ∧ decode cX9_gearOf 52 = .ok (.iconst 0, 1) ∧ decode cX9_gearOf 53 = .ok (.ireturn, 1) ∧ decode cX9_putGear 0 = .ok (.iload_n 1, 1) ∧ decode cX9_putGear 1 = .ok (.ifCond .ne 24, 3) ∧ decode cX9_putGear 4 = .ok (.aload_n 0, 1) := by decide +kernel
theorem dX9_gearOf_49 : decode cX9_gearOf 49 = .ok (.goto 4, 3) := dGX9_20.1
theorem dX9_gearOf_52 : decode cX9_gearOf 52 = .ok (.iconst 0, 1) := dGX9_20.2.1
theorem dX9_gearOf_53 : decode cX9_gearOf 53 = .ok (.ireturn, 1) := dGX9_20.2.2.1
theorem dX9_putGear_0 : decode cX9_putGear 0 = .ok (.iload_n 1, 1) := dGX9_20.2.2.2.1
theorem dX9_putGear_1 : decode cX9_putGear 1 = .ok (.ifCond .ne 24, 3) := dGX9_20.2.2.2.2.1
theorem dX9_putGear_4 : decode cX9_putGear 4 = .ok (.aload_n 0, 1) := dGX9_20.2.2.2.2.2
theorem dGX9_21 : decode cX9_putGear 5 = .ok (.getfield 21, 3) ∧ decode cX9_putGear 8 = .ok (.iload_n 2, 1) ∧ decode cX9_putGear 9 = .ok (.invokevirtual 71, 3) ∧ decode cX9_putGear 12 = .ok (.ifCond .eq 13, 3) ∧ decode cX9_putGear 15 = .ok (.aload_n 0, 1) ∧ decode cX9_putGear 16 = .ok (.getfield 21, 3) := by decide +kernel
theorem dX9_putGear_5 : decode cX9_putGear 5 = .ok (.getfield 21, 3) := dGX9_21.1
theorem dX9_putGear_8 : decode cX9_putGear 8 = .ok (.iload_n 2, 1) := dGX9_21.2.1
theorem dX9_putGear_9 : decode cX9_putGear 9 = .ok (.invokevirtual 71, 3) := dGX9_21.2.2.1
theorem dX9_putGear_12 : decode cX9_putGear 12 = .ok (.ifCond .eq 13, 3) := dGX9_21.2.2.2.1
theorem dX9_putGear_15 : decode cX9_putGear 15 = .ok (.aload_n 0, 1) := dGX9_21.2.2.2.2.1
theorem dX9_putGear_16 : decode cX9_putGear 16 = .ok (.getfield 21, 3) := dGX9_21.2.2.2.2.2
theorem dGX9_22 : decode cX9_putGear 19 = .ok (.getfield 75, 3) ∧ decode cX9_putGear 22 = .ok (.iload_n 2, 1) ∧ decode cX9_putGear 23 = .ok (.iload_n 3, 1) ∧ decode cX9_putGear 24 = .ok (.iastore, 1) ∧ decode cX9_putGear 25 = .ok (.iload_n 1, 1) ∧ decode cX9_putGear 26 = .ok (.iconst 1, 1) := by decide +kernel
theorem dX9_putGear_19 : decode cX9_putGear 19 = .ok (.getfield 75, 3) := dGX9_22.1
theorem dX9_putGear_22 : decode cX9_putGear 22 = .ok (.iload_n 2, 1) := dGX9_22.2.1
theorem dX9_putGear_23 : decode cX9_putGear 23 = .ok (.iload_n 3, 1) := dGX9_22.2.2.1
theorem dX9_putGear_24 : decode cX9_putGear 24 = .ok (.iastore, 1) := dGX9_22.2.2.2.1
theorem dX9_putGear_25 : decode cX9_putGear 25 = .ok (.iload_n 1, 1) := dGX9_22.2.2.2.2.1
theorem dX9_putGear_26 : decode cX9_putGear 26 = .ok (.iconst 1, 1) := dGX9_22.2.2.2.2.2
theorem dGX9_23 : decode cX9_putGear 27 = .ok (.if_icmp .ne 24, 3) ∧ decode cX9_putGear 30 = .ok (.aload_n 0, 1) ∧ decode cX9_putGear 31 = .ok (.getfield 28, 3) ∧ decode cX9_putGear 34 = .ok (.iload_n 2, 1) ∧ decode cX9_putGear 35 = .ok (.invokevirtual 78, 3) ∧ decode cX9_putGear 38 = .ok (.ifCond .eq 13, 3) := by decide +kernel
theorem dX9_putGear_27 : decode cX9_putGear 27 = .ok (.if_icmp .ne 24, 3) := dGX9_23.1
theorem dX9_putGear_30 : decode cX9_putGear 30 = .ok (.aload_n 0, 1) := dGX9_23.2.1
theorem dX9_putGear_31 : decode cX9_putGear 31 = .ok (.getfield 28, 3) := dGX9_23.2.2.1
theorem dX9_putGear_34 : decode cX9_putGear 34 = .ok (.iload_n 2, 1) := dGX9_23.2.2.2.1
theorem dX9_putGear_35 : decode cX9_putGear 35 = .ok (.invokevirtual 78, 3) := dGX9_23.2.2.2.2.1
theorem dX9_putGear_38 : decode cX9_putGear 38 = .ok (.ifCond .eq 13, 3) := dGX9_23.2.2.2.2.2
theorem dGX9_24 : decode cX9_putGear 41 = .ok (.aload_n 0, 1) ∧ decode cX9_putGear 42 = .ok (.getfield 28, 3) ∧ decode cX9_putGear 45 = .ok (.getfield 79, 3) ∧ decode cX9_putGear 48 = .ok (.iload_n 2, 1) ∧ decode cX9_putGear 49 = .ok (.iload_n 3, 1) ∧ decode cX9_putGear 50 = .ok (.iastore, 1) := by decide +kernel
theorem dX9_putGear_41 : decode cX9_putGear 41 = .ok (.aload_n 0, 1) := dGX9_24.1
theorem dX9_putGear_42 : decode cX9_putGear 42 = .ok (.getfield 28, 3) := dGX9_24.2.1
theorem dX9_putGear_45 : decode cX9_putGear 45 = .ok (.getfield 79, 3) := dGX9_24.2.2.1
theorem dX9_putGear_48 : decode cX9_putGear 48 = .ok (.iload_n 2, 1) := dGX9_24.2.2.2.1
theorem dX9_putGear_49 : decode cX9_putGear 49 = .ok (.iload_n 3, 1) := dGX9_24.2.2.2.2.1
theorem dX9_putGear_50 : decode cX9_putGear 50 = .ok (.iastore, 1) := dGX9_24.2.2.2.2.2
theorem dGX9_25 : decode cX9_putGear 51 = .ok (.return_, 1) ∧ decode cX9_owedBy 0 = .ok (.iconst 0, 1) ∧ decode cX9_owedBy 1 = .ok (.istore_n 2, 1) ∧ decode cX9_owedBy 2 = .ok (.iconst 0, 1) ∧ decode cX9_owedBy 3 = .ok (.istore_n 3, 1) ∧ decode cX9_owedBy 4 = .ok (.iload_n 3, 1) := by decide +kernel
theorem dX9_putGear_51 : decode cX9_putGear 51 = .ok (.return_, 1) := dGX9_25.1
theorem dX9_owedBy_0 : decode cX9_owedBy 0 = .ok (.iconst 0, 1) := dGX9_25.2.1
theorem dX9_owedBy_1 : decode cX9_owedBy 1 = .ok (.istore_n 2, 1) := dGX9_25.2.2.1
theorem dX9_owedBy_2 : decode cX9_owedBy 2 = .ok (.iconst 0, 1) := dGX9_25.2.2.2.1
theorem dX9_owedBy_3 : decode cX9_owedBy 3 = .ok (.istore_n 3, 1) := dGX9_25.2.2.2.2.1
theorem dX9_owedBy_4 : decode cX9_owedBy 4 = .ok (.iload_n 3, 1) := dGX9_25.2.2.2.2.2
theorem dGX9_26 : decode cX9_owedBy 5 = .ok (.aload_n 0, 1) ∧ decode cX9_owedBy 6 = .ok (.getfield 28, 3) ∧ decode cX9_owedBy 9 = .ok (.getfield 82, 3) ∧ decode cX9_owedBy 12 = .ok (.if_icmp .ge 34, 3) ∧ decode cX9_owedBy 15 = .ok (.aload_n 0, 1) ∧ decode cX9_owedBy 16 = .ok (.getfield 21, 3) := by decide +kernel
theorem dX9_owedBy_5 : decode cX9_owedBy 5 = .ok (.aload_n 0, 1) := dGX9_26.1
theorem dX9_owedBy_6 : decode cX9_owedBy 6 = .ok (.getfield 28, 3) := dGX9_26.2.1
theorem dX9_owedBy_9 : decode cX9_owedBy 9 = .ok (.getfield 82, 3) := dGX9_26.2.2.1
theorem dX9_owedBy_12 : decode cX9_owedBy 12 = .ok (.if_icmp .ge 34, 3) := dGX9_26.2.2.2.1
theorem dX9_owedBy_15 : decode cX9_owedBy 15 = .ok (.aload_n 0, 1) := dGX9_26.2.2.2.2.1
theorem dX9_owedBy_16 : decode cX9_owedBy 16 = .ok (.getfield 21, 3) := dGX9_26.2.2.2.2.2
theorem dGX9_27 : decode cX9_owedBy 19 = .ok (.iload_n 1, 1) ∧ decode cX9_owedBy 20 = .ok (.invokevirtual 71, 3) ∧ decode cX9_owedBy 23 = .ok (.ifCond .eq 23, 3) ∧ decode cX9_owedBy 26 = .ok (.iload_n 2, 1) ∧ decode cX9_owedBy 27 = .ok (.aload_n 0, 1) ∧ decode cX9_owedBy 28 = .ok (.getfield 32, 3) := by decide +kernel
theorem dX9_owedBy_19 : decode cX9_owedBy 19 = .ok (.iload_n 1, 1) := dGX9_27.1
theorem dX9_owedBy_20 : decode cX9_owedBy 20 = .ok (.invokevirtual 71, 3) := dGX9_27.2.1
theorem dX9_owedBy_23 : decode cX9_owedBy 23 = .ok (.ifCond .eq 23, 3) := dGX9_27.2.2.1
theorem dX9_owedBy_26 : decode cX9_owedBy 26 = .ok (.iload_n 2, 1) := dGX9_27.2.2.2.1
theorem dX9_owedBy_27 : decode cX9_owedBy 27 = .ok (.aload_n 0, 1) := dGX9_27.2.2.2.2.1
theorem dX9_owedBy_28 : decode cX9_owedBy 28 = .ok (.getfield 32, 3) := dGX9_27.2.2.2.2.2
theorem dGX9_28 : decode cX9_owedBy 31 = .ok (.iload_n 1, 1) ∧ decode cX9_owedBy 32 = .ok (.bipush 8, 2) ∧ decode cX9_owedBy 34 = .ok (.imul, 1) ∧ decode cX9_owedBy 35 = .ok (.iload_n 3, 1) ∧ decode cX9_owedBy 36 = .ok (.iadd, 1) ∧ decode cX9_owedBy 37 = .ok (.iaload, 1) := by decide +kernel
theorem dX9_owedBy_31 : decode cX9_owedBy 31 = .ok (.iload_n 1, 1) := dGX9_28.1
theorem dX9_owedBy_32 : decode cX9_owedBy 32 = .ok (.bipush 8, 2) := dGX9_28.2.1
theorem dX9_owedBy_34 : decode cX9_owedBy 34 = .ok (.imul, 1) := dGX9_28.2.2.1
theorem dX9_owedBy_35 : decode cX9_owedBy 35 = .ok (.iload_n 3, 1) := dGX9_28.2.2.2.1
theorem dX9_owedBy_36 : decode cX9_owedBy 36 = .ok (.iadd, 1) := dGX9_28.2.2.2.2.1
theorem dX9_owedBy_37 : decode cX9_owedBy 37 = .ok (.iaload, 1) := dGX9_28.2.2.2.2.2
theorem dGX9_29 : decode cX9_owedBy 38 = .ok (.iadd, 1) ∧ decode cX9_owedBy 39 = .ok (.istore_n 2, 1) ∧ decode cX9_owedBy 40 = .ok (.iinc 3 1, 3) ∧ decode cX9_owedBy 43 = .ok (.goto (-39), 3) ∧ decode cX9_owedBy 46 = .ok (.iload_n 2, 1) ∧ decode cX9_owedBy 47 = .ok (.ireturn, 1) := by decide +kernel
theorem dX9_owedBy_38 : decode cX9_owedBy 38 = .ok (.iadd, 1) := dGX9_29.1
theorem dX9_owedBy_39 : decode cX9_owedBy 39 = .ok (.istore_n 2, 1) := dGX9_29.2.1
theorem dX9_owedBy_40 : decode cX9_owedBy 40 = .ok (.iinc 3 1, 3) := dGX9_29.2.2.1
theorem dX9_owedBy_43 : decode cX9_owedBy 43 = .ok (.goto (-39), 3) := dGX9_29.2.2.2.1
theorem dX9_owedBy_46 : decode cX9_owedBy 46 = .ok (.iload_n 2, 1) := dGX9_29.2.2.2.2.1
theorem dX9_owedBy_47 : decode cX9_owedBy 47 = .ok (.ireturn, 1) := dGX9_29.2.2.2.2.2
theorem dGX9_30 : decode cX9_owedTo 0 = .ok (.iconst 0, 1) ∧ decode cX9_owedTo 1 = .ok (.istore_n 2, 1) ∧ decode cX9_owedTo 2 = .ok (.iconst 0, 1) ∧ decode cX9_owedTo 3 = .ok (.istore_n 3, 1) ∧ decode cX9_owedTo 4 = .ok (.iload_n 3, 1) ∧ decode cX9_owedTo 5 = .ok (.aload_n 0, 1) := by decide +kernel
theorem dX9_owedTo_0 : decode cX9_owedTo 0 = .ok (.iconst 0, 1) := dGX9_30.1
theorem dX9_owedTo_1 : decode cX9_owedTo 1 = .ok (.istore_n 2, 1) := dGX9_30.2.1
theorem dX9_owedTo_2 : decode cX9_owedTo 2 = .ok (.iconst 0, 1) := dGX9_30.2.2.1
theorem dX9_owedTo_3 : decode cX9_owedTo 3 = .ok (.istore_n 3, 1) := dGX9_30.2.2.2.1
theorem dX9_owedTo_4 : decode cX9_owedTo 4 = .ok (.iload_n 3, 1) := dGX9_30.2.2.2.2.1
theorem dX9_owedTo_5 : decode cX9_owedTo 5 = .ok (.aload_n 0, 1) := dGX9_30.2.2.2.2.2
theorem dGX9_31 : decode cX9_owedTo 6 = .ok (.getfield 21, 3) ∧ decode cX9_owedTo 9 = .ok (.getfield 85, 3) ∧ decode cX9_owedTo 12 = .ok (.if_icmp .ge 34, 3) ∧ decode cX9_owedTo 15 = .ok (.aload_n 0, 1) ∧ decode cX9_owedTo 16 = .ok (.getfield 28, 3) ∧ decode cX9_owedTo 19 = .ok (.iload_n 1, 1) := by decide +kernel
theorem dX9_owedTo_6 : decode cX9_owedTo 6 = .ok (.getfield 21, 3) := dGX9_31.1
theorem dX9_owedTo_9 : decode cX9_owedTo 9 = .ok (.getfield 85, 3) := dGX9_31.2.1
theorem dX9_owedTo_12 : decode cX9_owedTo 12 = .ok (.if_icmp .ge 34, 3) := dGX9_31.2.2.1
theorem dX9_owedTo_15 : decode cX9_owedTo 15 = .ok (.aload_n 0, 1) := dGX9_31.2.2.2.1
theorem dX9_owedTo_16 : decode cX9_owedTo 16 = .ok (.getfield 28, 3) := dGX9_31.2.2.2.2.1
theorem dX9_owedTo_19 : decode cX9_owedTo 19 = .ok (.iload_n 1, 1) := dGX9_31.2.2.2.2.2
theorem dGX9_32 : decode cX9_owedTo 20 = .ok (.invokevirtual 78, 3) ∧ decode cX9_owedTo 23 = .ok (.ifCond .eq 23, 3) ∧ decode cX9_owedTo 26 = .ok (.iload_n 2, 1) ∧ decode cX9_owedTo 27 = .ok (.aload_n 0, 1) ∧ decode cX9_owedTo 28 = .ok (.getfield 32, 3) ∧ decode cX9_owedTo 31 = .ok (.iload_n 3, 1) := by decide +kernel
theorem dX9_owedTo_20 : decode cX9_owedTo 20 = .ok (.invokevirtual 78, 3) := dGX9_32.1
theorem dX9_owedTo_23 : decode cX9_owedTo 23 = .ok (.ifCond .eq 23, 3) := dGX9_32.2.1
theorem dX9_owedTo_26 : decode cX9_owedTo 26 = .ok (.iload_n 2, 1) := dGX9_32.2.2.1
theorem dX9_owedTo_27 : decode cX9_owedTo 27 = .ok (.aload_n 0, 1) := dGX9_32.2.2.2.1
theorem dX9_owedTo_28 : decode cX9_owedTo 28 = .ok (.getfield 32, 3) := dGX9_32.2.2.2.2.1
theorem dX9_owedTo_31 : decode cX9_owedTo 31 = .ok (.iload_n 3, 1) := dGX9_32.2.2.2.2.2
theorem dGX9_33 : decode cX9_owedTo 32 = .ok (.bipush 8, 2) ∧ decode cX9_owedTo 34 = .ok (.imul, 1) ∧ decode cX9_owedTo 35 = .ok (.iload_n 1, 1) ∧ decode cX9_owedTo 36 = .ok (.iadd, 1) ∧ decode cX9_owedTo 37 = .ok (.iaload, 1) ∧ decode cX9_owedTo 38 = .ok (.iadd, 1) := by decide +kernel
theorem dX9_owedTo_32 : decode cX9_owedTo 32 = .ok (.bipush 8, 2) := dGX9_33.1
theorem dX9_owedTo_34 : decode cX9_owedTo 34 = .ok (.imul, 1) := dGX9_33.2.1
theorem dX9_owedTo_35 : decode cX9_owedTo 35 = .ok (.iload_n 1, 1) := dGX9_33.2.2.1
theorem dX9_owedTo_36 : decode cX9_owedTo 36 = .ok (.iadd, 1) := dGX9_33.2.2.2.1
theorem dX9_owedTo_37 : decode cX9_owedTo 37 = .ok (.iaload, 1) := dGX9_33.2.2.2.2.1
theorem dX9_owedTo_38 : decode cX9_owedTo 38 = .ok (.iadd, 1) := dGX9_33.2.2.2.2.2
theorem dGX9_34 : decode cX9_owedTo 39 = .ok (.istore_n 2, 1) ∧ decode cX9_owedTo 40 = .ok (.iinc 3 1, 3) ∧ decode cX9_owedTo 43 = .ok (.goto (-39), 3) ∧ decode cX9_owedTo 46 = .ok (.iload_n 2, 1) ∧ decode cX9_owedTo 47 = .ok (.ireturn, 1) ∧ decode cX9_struckBy 0 = .ok (.iconst 0, 1) := by decide +kernel
theorem dX9_owedTo_39 : decode cX9_owedTo 39 = .ok (.istore_n 2, 1) := dGX9_34.1
theorem dX9_owedTo_40 : decode cX9_owedTo 40 = .ok (.iinc 3 1, 3) := dGX9_34.2.1
theorem dX9_owedTo_43 : decode cX9_owedTo 43 = .ok (.goto (-39), 3) := dGX9_34.2.2.1
theorem dX9_owedTo_46 : decode cX9_owedTo 46 = .ok (.iload_n 2, 1) := dGX9_34.2.2.2.1
theorem dX9_owedTo_47 : decode cX9_owedTo 47 = .ok (.ireturn, 1) := dGX9_34.2.2.2.2.1
theorem dX9_struckBy_0 : decode cX9_struckBy 0 = .ok (.iconst 0, 1) := dGX9_34.2.2.2.2.2
theorem dGX9_35 : decode cX9_struckBy 1 = .ok (.istore_n 2, 1) ∧ decode cX9_struckBy 2 = .ok (.iconst 0, 1) ∧ decode cX9_struckBy 3 = .ok (.istore_n 3, 1) ∧ decode cX9_struckBy 4 = .ok (.iload_n 3, 1) ∧ decode cX9_struckBy 5 = .ok (.aload_n 0, 1) ∧ decode cX9_struckBy 6 = .ok (.getfield 28, 3) := by decide +kernel
theorem dX9_struckBy_1 : decode cX9_struckBy 1 = .ok (.istore_n 2, 1) := dGX9_35.1
theorem dX9_struckBy_2 : decode cX9_struckBy 2 = .ok (.iconst 0, 1) := dGX9_35.2.1
theorem dX9_struckBy_3 : decode cX9_struckBy 3 = .ok (.istore_n 3, 1) := dGX9_35.2.2.1
theorem dX9_struckBy_4 : decode cX9_struckBy 4 = .ok (.iload_n 3, 1) := dGX9_35.2.2.2.1
theorem dX9_struckBy_5 : decode cX9_struckBy 5 = .ok (.aload_n 0, 1) := dGX9_35.2.2.2.2.1
theorem dX9_struckBy_6 : decode cX9_struckBy 6 = .ok (.getfield 28, 3) := dGX9_35.2.2.2.2.2
theorem dGX9_36 : decode cX9_struckBy 9 = .ok (.getfield 82, 3) ∧ decode cX9_struckBy 12 = .ok (.if_icmp .ge 40, 3) ∧ decode cX9_struckBy 15 = .ok (.aload_n 0, 1) ∧ decode cX9_struckBy 16 = .ok (.getfield 21, 3) ∧ decode cX9_struckBy 19 = .ok (.iload_n 1, 1) ∧ decode cX9_struckBy 20 = .ok (.invokevirtual 71, 3) := by decide +kernel
theorem dX9_struckBy_9 : decode cX9_struckBy 9 = .ok (.getfield 82, 3) := dGX9_36.1
theorem dX9_struckBy_12 : decode cX9_struckBy 12 = .ok (.if_icmp .ge 40, 3) := dGX9_36.2.1
theorem dX9_struckBy_15 : decode cX9_struckBy 15 = .ok (.aload_n 0, 1) := dGX9_36.2.2.1
theorem dX9_struckBy_16 : decode cX9_struckBy 16 = .ok (.getfield 21, 3) := dGX9_36.2.2.2.1
theorem dX9_struckBy_19 : decode cX9_struckBy 19 = .ok (.iload_n 1, 1) := dGX9_36.2.2.2.2.1
theorem dX9_struckBy_20 : decode cX9_struckBy 20 = .ok (.invokevirtual 71, 3) := dGX9_36.2.2.2.2.2
theorem dGX9_37 : decode cX9_struckBy 23 = .ok (.ifCond .eq 29, 3) ∧ decode cX9_struckBy 26 = .ok (.aload_n 0, 1) ∧ decode cX9_struckBy 27 = .ok (.getfield 36, 3) ∧ decode cX9_struckBy 30 = .ok (.iload_n 1, 1) ∧ decode cX9_struckBy 31 = .ok (.bipush 8, 2) ∧ decode cX9_struckBy 33 = .ok (.imul, 1) := by decide +kernel
theorem dX9_struckBy_23 : decode cX9_struckBy 23 = .ok (.ifCond .eq 29, 3) := dGX9_37.1
theorem dX9_struckBy_26 : decode cX9_struckBy 26 = .ok (.aload_n 0, 1) := dGX9_37.2.1
theorem dX9_struckBy_27 : decode cX9_struckBy 27 = .ok (.getfield 36, 3) := dGX9_37.2.2.1
theorem dX9_struckBy_30 : decode cX9_struckBy 30 = .ok (.iload_n 1, 1) := dGX9_37.2.2.2.1
theorem dX9_struckBy_31 : decode cX9_struckBy 31 = .ok (.bipush 8, 2) := dGX9_37.2.2.2.2.1
theorem dX9_struckBy_33 : decode cX9_struckBy 33 = .ok (.imul, 1) := dGX9_37.2.2.2.2.2
theorem dGX9_38 : decode cX9_struckBy 34 = .ok (.iload_n 3, 1) ∧ decode cX9_struckBy 35 = .ok (.iadd, 1) ∧ decode cX9_struckBy 36 = .ok (.iaload, 1) ∧ decode cX9_struckBy 37 = .ok (.ifCond .le 9, 3) ∧ decode cX9_struckBy 40 = .ok (.iload_n 2, 1) ∧ decode cX9_struckBy 41 = .ok (.iconst 1, 1) := by decide +kernel
theorem dX9_struckBy_34 : decode cX9_struckBy 34 = .ok (.iload_n 3, 1) := dGX9_38.1
theorem dX9_struckBy_35 : decode cX9_struckBy 35 = .ok (.iadd, 1) := dGX9_38.2.1
theorem dX9_struckBy_36 : decode cX9_struckBy 36 = .ok (.iaload, 1) := dGX9_38.2.2.1
theorem dX9_struckBy_37 : decode cX9_struckBy 37 = .ok (.ifCond .le 9, 3) := dGX9_38.2.2.2.1
theorem dX9_struckBy_40 : decode cX9_struckBy 40 = .ok (.iload_n 2, 1) := dGX9_38.2.2.2.2.1
theorem dX9_struckBy_41 : decode cX9_struckBy 41 = .ok (.iconst 1, 1) := dGX9_38.2.2.2.2.2
theorem dGX9_39 : decode cX9_struckBy 42 = .ok (.iload_n 3, 1) ∧ decode cX9_struckBy 43 = .ok (.ishl, 1) ∧ decode cX9_struckBy 44 = .ok (.ior, 1) ∧ decode cX9_struckBy 45 = .ok (.istore_n 2, 1) ∧ decode cX9_struckBy 46 = .ok (.iinc 3 1, 3) ∧ decode cX9_struckBy 49 = .ok (.goto (-45), 3) := by decide +kernel
theorem dX9_struckBy_42 : decode cX9_struckBy 42 = .ok (.iload_n 3, 1) := dGX9_39.1
theorem dX9_struckBy_43 : decode cX9_struckBy 43 = .ok (.ishl, 1) := dGX9_39.2.1
theorem dX9_struckBy_44 : decode cX9_struckBy 44 = .ok (.ior, 1) := dGX9_39.2.2.1
theorem dX9_struckBy_45 : decode cX9_struckBy 45 = .ok (.istore_n 2, 1) := dGX9_39.2.2.2.1
theorem dX9_struckBy_46 : decode cX9_struckBy 46 = .ok (.iinc 3 1, 3) := dGX9_39.2.2.2.2.1
theorem dX9_struckBy_49 : decode cX9_struckBy 49 = .ok (.goto (-45), 3) := dGX9_39.2.2.2.2.2
theorem dGX9_40 : decode cX9_struckBy 52 = .ok (.iload_n 2, 1) ∧ decode cX9_struckBy 53 = .ok (.ireturn, 1) ∧ decode cX9_hoursWithoutSnow 0 = .ok (.iconst 0, 1) ∧ decode cX9_hoursWithoutSnow 1 = .ok (.istore_n 2, 1) ∧ decode cX9_hoursWithoutSnow 2 = .ok (.iconst 0, 1) ∧ decode cX9_hoursWithoutSnow 3 = .ok (.istore_n 3, 1) := by decide +kernel
theorem dX9_struckBy_52 : decode cX9_struckBy 52 = .ok (.iload_n 2, 1) := dGX9_40.1
theorem dX9_struckBy_53 : decode cX9_struckBy 53 = .ok (.ireturn, 1) := dGX9_40.2.1
theorem dX9_hoursWithoutSnow_0 : decode cX9_hoursWithoutSnow 0 = .ok (.iconst 0, 1) := dGX9_40.2.2.1
theorem dX9_hoursWithoutSnow_1 : decode cX9_hoursWithoutSnow 1 = .ok (.istore_n 2, 1) := dGX9_40.2.2.2.1
theorem dX9_hoursWithoutSnow_2 : decode cX9_hoursWithoutSnow 2 = .ok (.iconst 0, 1) := dGX9_40.2.2.2.2.1
theorem dX9_hoursWithoutSnow_3 : decode cX9_hoursWithoutSnow 3 = .ok (.istore_n 3, 1) := dGX9_40.2.2.2.2.2
theorem dGX9_41 : decode cX9_hoursWithoutSnow 4 = .ok (.iload_n 3, 1) ∧ decode cX9_hoursWithoutSnow 5 = .ok (.iload_n 1, 1) ∧ decode cX9_hoursWithoutSnow 6 = .ok (.if_icmp .ge 45, 3) ∧ decode cX9_hoursWithoutSnow 9 = .ok (.aload_n 0, 1) ∧ decode cX9_hoursWithoutSnow 10 = .ok (.getfield 42, 3) ∧ decode cX9_hoursWithoutSnow 13 = .ok (.iload_n 3, 1) := by decide +kernel
theorem dX9_hoursWithoutSnow_4 : decode cX9_hoursWithoutSnow 4 = .ok (.iload_n 3, 1) := dGX9_41.1
theorem dX9_hoursWithoutSnow_5 : decode cX9_hoursWithoutSnow 5 = .ok (.iload_n 1, 1) := dGX9_41.2.1
theorem dX9_hoursWithoutSnow_6 : decode cX9_hoursWithoutSnow 6 = .ok (.if_icmp .ge 45, 3) := dGX9_41.2.2.1
theorem dX9_hoursWithoutSnow_9 : decode cX9_hoursWithoutSnow 9 = .ok (.aload_n 0, 1) := dGX9_41.2.2.2.1
theorem dX9_hoursWithoutSnow_10 : decode cX9_hoursWithoutSnow 10 = .ok (.getfield 42, 3) := dGX9_41.2.2.2.2.1
theorem dX9_hoursWithoutSnow_13 : decode cX9_hoursWithoutSnow 13 = .ok (.iload_n 3, 1) := dGX9_41.2.2.2.2.2
theorem dGX9_42 : decode cX9_hoursWithoutSnow 14 = .ok (.iadd, 1) ∧ decode cX9_hoursWithoutSnow 15 = .ok (.istore 4, 2) ∧ decode cX9_hoursWithoutSnow 17 = .ok (.iload 4, 2) ∧ decode cX9_hoursWithoutSnow 19 = .ok (.ifCond .lt 26, 3) ∧ decode cX9_hoursWithoutSnow 22 = .ok (.iload 4, 2) ∧ decode cX9_hoursWithoutSnow 24 = .ok (.bipush 100, 2) := by decide +kernel
theorem dX9_hoursWithoutSnow_14 : decode cX9_hoursWithoutSnow 14 = .ok (.iadd, 1) := dGX9_42.1
theorem dX9_hoursWithoutSnow_15 : decode cX9_hoursWithoutSnow 15 = .ok (.istore 4, 2) := dGX9_42.2.1
theorem dX9_hoursWithoutSnow_17 : decode cX9_hoursWithoutSnow 17 = .ok (.iload 4, 2) := dGX9_42.2.2.1
theorem dX9_hoursWithoutSnow_19 : decode cX9_hoursWithoutSnow 19 = .ok (.ifCond .lt 26, 3) := dGX9_42.2.2.2.1
theorem dX9_hoursWithoutSnow_22 : decode cX9_hoursWithoutSnow 22 = .ok (.iload 4, 2) := dGX9_42.2.2.2.2.1
theorem dX9_hoursWithoutSnow_24 : decode cX9_hoursWithoutSnow 24 = .ok (.bipush 100, 2) := dGX9_42.2.2.2.2.2
theorem dGX9_43 : decode cX9_hoursWithoutSnow 26 = .ok (.if_icmp .ge 19, 3) ∧ decode cX9_hoursWithoutSnow 29 = .ok (.aload_n 0, 1) ∧ decode cX9_hoursWithoutSnow 30 = .ok (.getfield 39, 3) ∧ decode cX9_hoursWithoutSnow 33 = .ok (.iload 4, 2) ∧ decode cX9_hoursWithoutSnow 35 = .ok (.iaload, 1) ∧ decode cX9_hoursWithoutSnow 36 = .ok (.ifCond .ne 9, 3) := by decide +kernel
theorem dX9_hoursWithoutSnow_26 : decode cX9_hoursWithoutSnow 26 = .ok (.if_icmp .ge 19, 3) := dGX9_43.1
theorem dX9_hoursWithoutSnow_29 : decode cX9_hoursWithoutSnow 29 = .ok (.aload_n 0, 1) := dGX9_43.2.1
theorem dX9_hoursWithoutSnow_30 : decode cX9_hoursWithoutSnow 30 = .ok (.getfield 39, 3) := dGX9_43.2.2.1
theorem dX9_hoursWithoutSnow_33 : decode cX9_hoursWithoutSnow 33 = .ok (.iload 4, 2) := dGX9_43.2.2.2.1
theorem dX9_hoursWithoutSnow_35 : decode cX9_hoursWithoutSnow 35 = .ok (.iaload, 1) := dGX9_43.2.2.2.2.1
theorem dX9_hoursWithoutSnow_36 : decode cX9_hoursWithoutSnow 36 = .ok (.ifCond .ne 9, 3) := dGX9_43.2.2.2.2.2
theorem dGX9_44 : decode cX9_hoursWithoutSnow 39 = .ok (.iload_n 2, 1) ∧ decode cX9_hoursWithoutSnow 40 = .ok (.iconst 1, 1) ∧ decode cX9_hoursWithoutSnow 41 = .ok (.iload_n 3, 1) ∧ decode cX9_hoursWithoutSnow 42 = .ok (.ishl, 1) ∧ decode cX9_hoursWithoutSnow 43 = .ok (.ior, 1) ∧ decode cX9_hoursWithoutSnow 44 = .ok (.istore_n 2, 1) := by decide +kernel
theorem dX9_hoursWithoutSnow_39 : decode cX9_hoursWithoutSnow 39 = .ok (.iload_n 2, 1) := dGX9_44.1
theorem dX9_hoursWithoutSnow_40 : decode cX9_hoursWithoutSnow 40 = .ok (.iconst 1, 1) := dGX9_44.2.1
theorem dX9_hoursWithoutSnow_41 : decode cX9_hoursWithoutSnow 41 = .ok (.iload_n 3, 1) := dGX9_44.2.2.1
theorem dX9_hoursWithoutSnow_42 : decode cX9_hoursWithoutSnow 42 = .ok (.ishl, 1) := dGX9_44.2.2.2.1
theorem dX9_hoursWithoutSnow_43 : decode cX9_hoursWithoutSnow 43 = .ok (.ior, 1) := dGX9_44.2.2.2.2.1
theorem dX9_hoursWithoutSnow_44 : decode cX9_hoursWithoutSnow 44 = .ok (.istore_n 2, 1) := dGX9_44.2.2.2.2.2
theorem dGX9_45 : decode cX9_hoursWithoutSnow 45 = .ok (.iinc 3 1, 3) ∧ decode cX9_hoursWithoutSnow 48 = .ok (.goto (-44), 3) ∧ decode cX9_hoursWithoutSnow 51 = .ok (.iload_n 2, 1) ∧ decode cX9_hoursWithoutSnow 52 = .ok (.ireturn, 1) ∧ decode cX9_letSnow 0 = .ok (.iconst 0, 1) ∧ decode cX9_letSnow 1 = .ok (.istore_n 3, 1) := by decide +kernel
theorem dX9_hoursWithoutSnow_45 : decode cX9_hoursWithoutSnow 45 = .ok (.iinc 3 1, 3) := dGX9_45.1
theorem dX9_hoursWithoutSnow_48 : decode cX9_hoursWithoutSnow 48 = .ok (.goto (-44), 3) := dGX9_45.2.1
theorem dX9_hoursWithoutSnow_51 : decode cX9_hoursWithoutSnow 51 = .ok (.iload_n 2, 1) := dGX9_45.2.2.1
theorem dX9_hoursWithoutSnow_52 : decode cX9_hoursWithoutSnow 52 = .ok (.ireturn, 1) := dGX9_45.2.2.2.1
theorem dX9_letSnow_0 : decode cX9_letSnow 0 = .ok (.iconst 0, 1) := dGX9_45.2.2.2.2.1
theorem dX9_letSnow_1 : decode cX9_letSnow 1 = .ok (.istore_n 3, 1) := dGX9_45.2.2.2.2.2
theorem dGX9_46 : decode cX9_letSnow 2 = .ok (.iload_n 3, 1) ∧ decode cX9_letSnow 3 = .ok (.iload_n 2, 1) ∧ decode cX9_letSnow 4 = .ok (.if_icmp .ge 46, 3) ∧ decode cX9_letSnow 7 = .ok (.aload_n 0, 1) ∧ decode cX9_letSnow 8 = .ok (.getfield 42, 3) ∧ decode cX9_letSnow 11 = .ok (.iload_n 3, 1) := by decide +kernel
theorem dX9_letSnow_2 : decode cX9_letSnow 2 = .ok (.iload_n 3, 1) := dGX9_46.1
theorem dX9_letSnow_3 : decode cX9_letSnow 3 = .ok (.iload_n 2, 1) := dGX9_46.2.1
theorem dX9_letSnow_4 : decode cX9_letSnow 4 = .ok (.if_icmp .ge 46, 3) := dGX9_46.2.2.1
theorem dX9_letSnow_7 : decode cX9_letSnow 7 = .ok (.aload_n 0, 1) := dGX9_46.2.2.2.1
theorem dX9_letSnow_8 : decode cX9_letSnow 8 = .ok (.getfield 42, 3) := dGX9_46.2.2.2.2.1
theorem dX9_letSnow_11 : decode cX9_letSnow 11 = .ok (.iload_n 3, 1) := dGX9_46.2.2.2.2.2
theorem dGX9_47 : decode cX9_letSnow 12 = .ok (.iadd, 1) ∧ decode cX9_letSnow 13 = .ok (.istore 4, 2) ∧ decode cX9_letSnow 15 = .ok (.iload_n 1, 1) ∧ decode cX9_letSnow 16 = .ok (.iload_n 3, 1) ∧ decode cX9_letSnow 17 = .ok (.ishr, 1) ∧ decode cX9_letSnow 18 = .ok (.iconst 1, 1) := by decide +kernel
theorem dX9_letSnow_12 : decode cX9_letSnow 12 = .ok (.iadd, 1) := dGX9_47.1
theorem dX9_letSnow_13 : decode cX9_letSnow 13 = .ok (.istore 4, 2) := dGX9_47.2.1
theorem dX9_letSnow_15 : decode cX9_letSnow 15 = .ok (.iload_n 1, 1) := dGX9_47.2.2.1
theorem dX9_letSnow_16 : decode cX9_letSnow 16 = .ok (.iload_n 3, 1) := dGX9_47.2.2.2.1
theorem dX9_letSnow_17 : decode cX9_letSnow 17 = .ok (.ishr, 1) := dGX9_47.2.2.2.2.1
theorem dX9_letSnow_18 : decode cX9_letSnow 18 = .ok (.iconst 1, 1) := dGX9_47.2.2.2.2.2
theorem dGX9_48 : decode cX9_letSnow 19 = .ok (.iand, 1) ∧ decode cX9_letSnow 20 = .ok (.iconst 1, 1) ∧ decode cX9_letSnow 21 = .ok (.if_icmp .ne 23, 3) ∧ decode cX9_letSnow 24 = .ok (.iload 4, 2) ∧ decode cX9_letSnow 26 = .ok (.ifCond .lt 18, 3) ∧ decode cX9_letSnow 29 = .ok (.iload 4, 2) := by decide +kernel
theorem dX9_letSnow_19 : decode cX9_letSnow 19 = .ok (.iand, 1) := dGX9_48.1
theorem dX9_letSnow_20 : decode cX9_letSnow 20 = .ok (.iconst 1, 1) := dGX9_48.2.1
theorem dX9_letSnow_21 : decode cX9_letSnow 21 = .ok (.if_icmp .ne 23, 3) := dGX9_48.2.2.1
theorem dX9_letSnow_24 : decode cX9_letSnow 24 = .ok (.iload 4, 2) := dGX9_48.2.2.2.1
theorem dX9_letSnow_26 : decode cX9_letSnow 26 = .ok (.ifCond .lt 18, 3) := dGX9_48.2.2.2.2.1
theorem dX9_letSnow_29 : decode cX9_letSnow 29 = .ok (.iload 4, 2) := dGX9_48.2.2.2.2.2
theorem dGX9_49 : decode cX9_letSnow 31 = .ok (.bipush 100, 2) ∧ decode cX9_letSnow 33 = .ok (.if_icmp .ge 11, 3) ∧ decode cX9_letSnow 36 = .ok (.aload_n 0, 1) ∧ decode cX9_letSnow 37 = .ok (.getfield 39, 3) ∧ decode cX9_letSnow 40 = .ok (.iload 4, 2) ∧ decode cX9_letSnow 42 = .ok (.iconst 1, 1) := by decide +kernel
theorem dX9_letSnow_31 : decode cX9_letSnow 31 = .ok (.bipush 100, 2) := dGX9_49.1
theorem dX9_letSnow_33 : decode cX9_letSnow 33 = .ok (.if_icmp .ge 11, 3) := dGX9_49.2.1
theorem dX9_letSnow_36 : decode cX9_letSnow 36 = .ok (.aload_n 0, 1) := dGX9_49.2.2.1
theorem dX9_letSnow_37 : decode cX9_letSnow 37 = .ok (.getfield 39, 3) := dGX9_49.2.2.2.1
theorem dX9_letSnow_40 : decode cX9_letSnow 40 = .ok (.iload 4, 2) := dGX9_49.2.2.2.2.1
theorem dX9_letSnow_42 : decode cX9_letSnow 42 = .ok (.iconst 1, 1) := dGX9_49.2.2.2.2.2
theorem dGX9_50 : decode cX9_letSnow 43 = .ok (.iastore, 1) ∧ decode cX9_letSnow 44 = .ok (.iinc 3 1, 3) ∧ decode cX9_letSnow 47 = .ok (.goto (-45), 3) ∧ decode cX9_letSnow 50 = .ok (.return_, 1) ∧ decode cX9_nextWind 0 = .ok (.aload_n 0, 1) ∧ decode cX9_nextWind 1 = .ok (.sipush 25173, 3) := by decide +kernel
theorem dX9_letSnow_43 : decode cX9_letSnow 43 = .ok (.iastore, 1) := dGX9_50.1
theorem dX9_letSnow_44 : decode cX9_letSnow 44 = .ok (.iinc 3 1, 3) := dGX9_50.2.1
theorem dX9_letSnow_47 : decode cX9_letSnow 47 = .ok (.goto (-45), 3) := dGX9_50.2.2.1
theorem dX9_letSnow_50 : decode cX9_letSnow 50 = .ok (.return_, 1) := dGX9_50.2.2.2.1
theorem dX9_nextWind_0 : decode cX9_nextWind 0 = .ok (.aload_n 0, 1) := dGX9_50.2.2.2.2.1
theorem dX9_nextWind_1 : decode cX9_nextWind 1 = .ok (.sipush 25173, 3) := dGX9_50.2.2.2.2.2
theorem dGX9_51 : decode cX9_nextWind 4 = .ok (.aload_n 0, 1) ∧ decode cX9_nextWind 5 = .ok (.getfield 46, 3) ∧ decode cX9_nextWind 8 = .ok (.imul, 1) ∧ decode cX9_nextWind 9 = .ok (.sipush 13849, 3) ∧ decode cX9_nextWind 12 = .ok (.iadd, 1) ∧ decode cX9_nextWind 13 = .ok (.ldc 86, 2) := by decide +kernel
theorem dX9_nextWind_4 : decode cX9_nextWind 4 = .ok (.aload_n 0, 1) := dGX9_51.1
theorem dX9_nextWind_5 : decode cX9_nextWind 5 = .ok (.getfield 46, 3) := dGX9_51.2.1
theorem dX9_nextWind_8 : decode cX9_nextWind 8 = .ok (.imul, 1) := dGX9_51.2.2.1
theorem dX9_nextWind_9 : decode cX9_nextWind 9 = .ok (.sipush 13849, 3) := dGX9_51.2.2.2.1
theorem dX9_nextWind_12 : decode cX9_nextWind 12 = .ok (.iadd, 1) := dGX9_51.2.2.2.2.1
theorem dX9_nextWind_13 : decode cX9_nextWind 13 = .ok (.ldc 86, 2) := dGX9_51.2.2.2.2.2
theorem dGX9_52 : decode cX9_nextWind 15 = .ok (.iand, 1) ∧ decode cX9_nextWind 16 = .ok (.putfield 46, 3) ∧ decode cX9_nextWind 19 = .ok (.aload_n 0, 1) ∧ decode cX9_nextWind 20 = .ok (.getfield 46, 3) ∧ decode cX9_nextWind 23 = .ok (.bipush 10, 2) ∧ decode cX9_nextWind 25 = .ok (.irem, 1) := by decide +kernel
theorem dX9_nextWind_15 : decode cX9_nextWind 15 = .ok (.iand, 1) := dGX9_52.1
theorem dX9_nextWind_16 : decode cX9_nextWind 16 = .ok (.putfield 46, 3) := dGX9_52.2.1
theorem dX9_nextWind_19 : decode cX9_nextWind 19 = .ok (.aload_n 0, 1) := dGX9_52.2.2.1
theorem dX9_nextWind_20 : decode cX9_nextWind 20 = .ok (.getfield 46, 3) := dGX9_52.2.2.2.1
theorem dX9_nextWind_23 : decode cX9_nextWind 23 = .ok (.bipush 10, 2) := dGX9_52.2.2.2.2.1
theorem dX9_nextWind_25 : decode cX9_nextWind 25 = .ok (.irem, 1) := dGX9_52.2.2.2.2.2
theorem dGX9_53 : decode cX9_nextWind 26 = .ok (.ireturn, 1) ∧ decode cX9_passHours 0 = .ok (.iconst 0, 1) ∧ decode cX9_passHours 1 = .ok (.istore_n 3, 1) ∧ decode cX9_passHours 2 = .ok (.iconst 0, 1) ∧ decode cX9_passHours 3 = .ok (.istore 4, 2) ∧ decode cX9_passHours 5 = .ok (.iload 4, 2) := by decide +kernel
theorem dX9_nextWind_26 : decode cX9_nextWind 26 = .ok (.ireturn, 1) := dGX9_53.1
theorem dX9_passHours_0 : decode cX9_passHours 0 = .ok (.iconst 0, 1) := dGX9_53.2.1
theorem dX9_passHours_1 : decode cX9_passHours 1 = .ok (.istore_n 3, 1) := dGX9_53.2.2.1
theorem dX9_passHours_2 : decode cX9_passHours 2 = .ok (.iconst 0, 1) := dGX9_53.2.2.2.1
theorem dX9_passHours_3 : decode cX9_passHours 3 = .ok (.istore 4, 2) := dGX9_53.2.2.2.2.1
theorem dX9_passHours_5 : decode cX9_passHours 5 = .ok (.iload 4, 2) := dGX9_53.2.2.2.2.2
theorem dGX9_54 : decode cX9_passHours 7 = .ok (.iload_n 2, 1) ∧ decode cX9_passHours 8 = .ok (.if_icmp .ge 21, 3) ∧ decode cX9_passHours 11 = .ok (.iload_n 3, 1) ∧ decode cX9_passHours 12 = .ok (.aload_n 0, 1) ∧ decode cX9_passHours 13 = .ok (.aload_n 1, 1) ∧ decode cX9_passHours 14 = .ok (.aload_n 0, 1) := by decide +kernel
theorem dX9_passHours_7 : decode cX9_passHours 7 = .ok (.iload_n 2, 1) := dGX9_54.1
theorem dX9_passHours_8 : decode cX9_passHours 8 = .ok (.if_icmp .ge 21, 3) := dGX9_54.2.1
theorem dX9_passHours_11 : decode cX9_passHours 11 = .ok (.iload_n 3, 1) := dGX9_54.2.2.1
theorem dX9_passHours_12 : decode cX9_passHours 12 = .ok (.aload_n 0, 1) := dGX9_54.2.2.2.1
theorem dX9_passHours_13 : decode cX9_passHours 13 = .ok (.aload_n 1, 1) := dGX9_54.2.2.2.2.1
theorem dX9_passHours_14 : decode cX9_passHours 14 = .ok (.aload_n 0, 1) := dGX9_54.2.2.2.2.2
theorem dGX9_55 : decode cX9_passHours 15 = .ok (.invokevirtual 87, 3) ∧ decode cX9_passHours 18 = .ok (.invokevirtual 91, 3) ∧ decode cX9_passHours 21 = .ok (.iadd, 1) ∧ decode cX9_passHours 22 = .ok (.istore_n 3, 1) ∧ decode cX9_passHours 23 = .ok (.iinc 4 1, 3) ∧ decode cX9_passHours 26 = .ok (.goto (-21), 3) := by decide +kernel
theorem dX9_passHours_15 : decode cX9_passHours 15 = .ok (.invokevirtual 87, 3) := dGX9_55.1
theorem dX9_passHours_18 : decode cX9_passHours 18 = .ok (.invokevirtual 91, 3) := dGX9_55.2.1
theorem dX9_passHours_21 : decode cX9_passHours 21 = .ok (.iadd, 1) := dGX9_55.2.2.1
theorem dX9_passHours_22 : decode cX9_passHours 22 = .ok (.istore_n 3, 1) := dGX9_55.2.2.2.1
theorem dX9_passHours_23 : decode cX9_passHours 23 = .ok (.iinc 4 1, 3) := dGX9_55.2.2.2.2.1
theorem dX9_passHours_26 : decode cX9_passHours 26 = .ok (.goto (-21), 3) := dGX9_55.2.2.2.2.2
theorem dGX9_56 : decode cX9_passHours 29 = .ok (.iload_n 3, 1) ∧ decode cX9_passHours 30 = .ok (.ireturn, 1) ∧ decode cX9_passHour 0 = .ok (.iconst 0, 1) ∧ decode cX9_passHour 1 = .ok (.istore_n 3, 1) ∧ decode cX9_passHour 2 = .ok (.aload_n 0, 1) ∧ decode cX9_passHour 3 = .ok (.getfield 42, 3) := by decide +kernel
theorem dX9_passHours_29 : decode cX9_passHours 29 = .ok (.iload_n 3, 1) := dGX9_56.1
theorem dX9_passHours_30 : decode cX9_passHours 30 = .ok (.ireturn, 1) := dGX9_56.2.1
theorem dX9_passHour_0 : decode cX9_passHour 0 = .ok (.iconst 0, 1) := dGX9_56.2.2.1
theorem dX9_passHour_1 : decode cX9_passHour 1 = .ok (.istore_n 3, 1) := dGX9_56.2.2.2.1
theorem dX9_passHour_2 : decode cX9_passHour 2 = .ok (.aload_n 0, 1) := dGX9_56.2.2.2.2.1
theorem dX9_passHour_3 : decode cX9_passHour 3 = .ok (.getfield 42, 3) := dGX9_56.2.2.2.2.2
theorem dGX9_57 : decode cX9_passHour 6 = .ok (.ifCond .lt 29, 3) ∧ decode cX9_passHour 9 = .ok (.aload_n 0, 1) ∧ decode cX9_passHour 10 = .ok (.getfield 42, 3) ∧ decode cX9_passHour 13 = .ok (.bipush 100, 2) ∧ decode cX9_passHour 15 = .ok (.if_icmp .ge 20, 3) ∧ decode cX9_passHour 18 = .ok (.aload_n 0, 1) := by decide +kernel
theorem dX9_passHour_6 : decode cX9_passHour 6 = .ok (.ifCond .lt 29, 3) := dGX9_57.1
theorem dX9_passHour_9 : decode cX9_passHour 9 = .ok (.aload_n 0, 1) := dGX9_57.2.1
theorem dX9_passHour_10 : decode cX9_passHour 10 = .ok (.getfield 42, 3) := dGX9_57.2.2.1
theorem dX9_passHour_13 : decode cX9_passHour 13 = .ok (.bipush 100, 2) := dGX9_57.2.2.2.1
theorem dX9_passHour_15 : decode cX9_passHour 15 = .ok (.if_icmp .ge 20, 3) := dGX9_57.2.2.2.2.1
theorem dX9_passHour_18 : decode cX9_passHour 18 = .ok (.aload_n 0, 1) := dGX9_57.2.2.2.2.2
theorem dGX9_58 : decode cX9_passHour 19 = .ok (.getfield 39, 3) ∧ decode cX9_passHour 22 = .ok (.aload_n 0, 1) ∧ decode cX9_passHour 23 = .ok (.getfield 42, 3) ∧ decode cX9_passHour 26 = .ok (.iaload, 1) ∧ decode cX9_passHour 27 = .ok (.iconst 1, 1) ∧ decode cX9_passHour 28 = .ok (.if_icmp .ne 7, 3) := by decide +kernel
theorem dX9_passHour_19 : decode cX9_passHour 19 = .ok (.getfield 39, 3) := dGX9_58.1
theorem dX9_passHour_22 : decode cX9_passHour 22 = .ok (.aload_n 0, 1) := dGX9_58.2.1
theorem dX9_passHour_23 : decode cX9_passHour 23 = .ok (.getfield 42, 3) := dGX9_58.2.2.1
theorem dX9_passHour_26 : decode cX9_passHour 26 = .ok (.iaload, 1) := dGX9_58.2.2.2.1
theorem dX9_passHour_27 : decode cX9_passHour 27 = .ok (.iconst 1, 1) := dGX9_58.2.2.2.2.1
theorem dX9_passHour_28 : decode cX9_passHour 28 = .ok (.if_icmp .ne 7, 3) := dGX9_58.2.2.2.2.2
theorem dGX9_59 : decode cX9_passHour 31 = .ok (.iconst 1, 1) ∧ decode cX9_passHour 32 = .ok (.goto 4, 3) ∧ decode cX9_passHour 35 = .ok (.iconst 0, 1) ∧ decode cX9_passHour 36 = .ok (.istore 4, 2) ∧ decode cX9_passHour 38 = .ok (.iload 4, 2) ∧ decode cX9_passHour 40 = .ok (.ifCond .ne 64, 3) := by decide +kernel
theorem dX9_passHour_31 : decode cX9_passHour 31 = .ok (.iconst 1, 1) := dGX9_59.1
theorem dX9_passHour_32 : decode cX9_passHour 32 = .ok (.goto 4, 3) := dGX9_59.2.1
theorem dX9_passHour_35 : decode cX9_passHour 35 = .ok (.iconst 0, 1) := dGX9_59.2.2.1
theorem dX9_passHour_36 : decode cX9_passHour 36 = .ok (.istore 4, 2) := dGX9_59.2.2.2.1
theorem dX9_passHour_38 : decode cX9_passHour 38 = .ok (.iload 4, 2) := dGX9_59.2.2.2.2.1
theorem dX9_passHour_40 : decode cX9_passHour 40 = .ok (.ifCond .ne 64, 3) := dGX9_59.2.2.2.2.2
theorem dGX9_60 : decode cX9_passHour 43 = .ok (.iconst 0, 1) ∧ decode cX9_passHour 44 = .ok (.istore 5, 2) ∧ decode cX9_passHour 46 = .ok (.iload 5, 2) ∧ decode cX9_passHour 48 = .ok (.aload_n 0, 1) ∧ decode cX9_passHour 49 = .ok (.getfield 21, 3) ∧ decode cX9_passHour 52 = .ok (.getfield 85, 3) := by decide +kernel
theorem dX9_passHour_43 : decode cX9_passHour 43 = .ok (.iconst 0, 1) := dGX9_60.1
theorem dX9_passHour_44 : decode cX9_passHour 44 = .ok (.istore 5, 2) := dGX9_60.2.1
theorem dX9_passHour_46 : decode cX9_passHour 46 = .ok (.iload 5, 2) := dGX9_60.2.2.1
theorem dX9_passHour_48 : decode cX9_passHour 48 = .ok (.aload_n 0, 1) := dGX9_60.2.2.2.1
theorem dX9_passHour_49 : decode cX9_passHour 49 = .ok (.getfield 21, 3) := dGX9_60.2.2.2.2.1
theorem dX9_passHour_52 : decode cX9_passHour 52 = .ok (.getfield 85, 3) := dGX9_60.2.2.2.2.2
theorem dGX9_61 : decode cX9_passHour 55 = .ok (.if_icmp .ge 17, 3) ∧ decode cX9_passHour 58 = .ok (.aload_n 0, 1) ∧ decode cX9_passHour 59 = .ok (.aload_n 1, 1) ∧ decode cX9_passHour 60 = .ok (.iload 5, 2) ∧ decode cX9_passHour 62 = .ok (.iload_n 2, 1) ∧ decode cX9_passHour 63 = .ok (.invokevirtual 95, 3) := by decide +kernel
theorem dX9_passHour_55 : decode cX9_passHour 55 = .ok (.if_icmp .ge 17, 3) := dGX9_61.1
theorem dX9_passHour_58 : decode cX9_passHour 58 = .ok (.aload_n 0, 1) := dGX9_61.2.1
theorem dX9_passHour_59 : decode cX9_passHour 59 = .ok (.aload_n 1, 1) := dGX9_61.2.2.1
theorem dX9_passHour_60 : decode cX9_passHour 60 = .ok (.iload 5, 2) := dGX9_61.2.2.2.1
theorem dX9_passHour_62 : decode cX9_passHour 62 = .ok (.iload_n 2, 1) := dGX9_61.2.2.2.2.1
theorem dX9_passHour_63 : decode cX9_passHour 63 = .ok (.invokevirtual 95, 3) := dGX9_61.2.2.2.2.2
theorem dGX9_62 : decode cX9_passHour 66 = .ok (.iinc 5 1, 3) ∧ decode cX9_passHour 69 = .ok (.goto (-23), 3) ∧ decode cX9_passHour 72 = .ok (.iconst 0, 1) ∧ decode cX9_passHour 73 = .ok (.istore 5, 2) ∧ decode cX9_passHour 75 = .ok (.iload 5, 2) ∧ decode cX9_passHour 77 = .ok (.aload_n 0, 1) := by decide +kernel
theorem dX9_passHour_66 : decode cX9_passHour 66 = .ok (.iinc 5 1, 3) := dGX9_62.1
theorem dX9_passHour_69 : decode cX9_passHour 69 = .ok (.goto (-23), 3) := dGX9_62.2.1
theorem dX9_passHour_72 : decode cX9_passHour 72 = .ok (.iconst 0, 1) := dGX9_62.2.2.1
theorem dX9_passHour_73 : decode cX9_passHour 73 = .ok (.istore 5, 2) := dGX9_62.2.2.2.1
theorem dX9_passHour_75 : decode cX9_passHour 75 = .ok (.iload 5, 2) := dGX9_62.2.2.2.2.1
theorem dX9_passHour_77 : decode cX9_passHour 77 = .ok (.aload_n 0, 1) := dGX9_62.2.2.2.2.2
theorem dGX9_63 : decode cX9_passHour 78 = .ok (.getfield 21, 3) ∧ decode cX9_passHour 81 = .ok (.getfield 85, 3) ∧ decode cX9_passHour 84 = .ok (.if_icmp .ge 20, 3) ∧ decode cX9_passHour 87 = .ok (.iload_n 3, 1) ∧ decode cX9_passHour 88 = .ok (.aload_n 0, 1) ∧ decode cX9_passHour 89 = .ok (.aload_n 1, 1) := by decide +kernel
theorem dX9_passHour_78 : decode cX9_passHour 78 = .ok (.getfield 21, 3) := dGX9_63.1
theorem dX9_passHour_81 : decode cX9_passHour 81 = .ok (.getfield 85, 3) := dGX9_63.2.1
theorem dX9_passHour_84 : decode cX9_passHour 84 = .ok (.if_icmp .ge 20, 3) := dGX9_63.2.2.1
theorem dX9_passHour_87 : decode cX9_passHour 87 = .ok (.iload_n 3, 1) := dGX9_63.2.2.2.1
theorem dX9_passHour_88 : decode cX9_passHour 88 = .ok (.aload_n 0, 1) := dGX9_63.2.2.2.2.1
theorem dX9_passHour_89 : decode cX9_passHour 89 = .ok (.aload_n 1, 1) := dGX9_63.2.2.2.2.2
theorem dGX9_64 : decode cX9_passHour 90 = .ok (.iload 5, 2) ∧ decode cX9_passHour 92 = .ok (.iload_n 2, 1) ∧ decode cX9_passHour 93 = .ok (.invokevirtual 99, 3) ∧ decode cX9_passHour 96 = .ok (.iadd, 1) ∧ decode cX9_passHour 97 = .ok (.istore_n 3, 1) ∧ decode cX9_passHour 98 = .ok (.iinc 5 1, 3) := by decide +kernel
theorem dX9_passHour_90 : decode cX9_passHour 90 = .ok (.iload 5, 2) := dGX9_64.1
theorem dX9_passHour_92 : decode cX9_passHour 92 = .ok (.iload_n 2, 1) := dGX9_64.2.1
theorem dX9_passHour_93 : decode cX9_passHour 93 = .ok (.invokevirtual 99, 3) := dGX9_64.2.2.1
theorem dX9_passHour_96 : decode cX9_passHour 96 = .ok (.iadd, 1) := dGX9_64.2.2.2.1
theorem dX9_passHour_97 : decode cX9_passHour 97 = .ok (.istore_n 3, 1) := dGX9_64.2.2.2.2.1
theorem dX9_passHour_98 : decode cX9_passHour 98 = .ok (.iinc 5 1, 3) := dGX9_64.2.2.2.2.2
theorem dGX9_65 : decode cX9_passHour 101 = .ok (.goto (-26), 3) ∧ decode cX9_passHour 104 = .ok (.aload_n 0, 1) ∧ decode cX9_passHour 105 = .ok (.dup, 1) ∧ decode cX9_passHour 106 = .ok (.getfield 42, 3) ∧ decode cX9_passHour 109 = .ok (.iconst 1, 1) ∧ decode cX9_passHour 110 = .ok (.iadd, 1) := by decide +kernel
theorem dX9_passHour_101 : decode cX9_passHour 101 = .ok (.goto (-26), 3) := dGX9_65.1
theorem dX9_passHour_104 : decode cX9_passHour 104 = .ok (.aload_n 0, 1) := dGX9_65.2.1
theorem dX9_passHour_105 : decode cX9_passHour 105 = .ok (.dup, 1) := dGX9_65.2.2.1
theorem dX9_passHour_106 : decode cX9_passHour 106 = .ok (.getfield 42, 3) := dGX9_65.2.2.2.1
theorem dX9_passHour_109 : decode cX9_passHour 109 = .ok (.iconst 1, 1) := dGX9_65.2.2.2.2.1
theorem dX9_passHour_110 : decode cX9_passHour 110 = .ok (.iadd, 1) := dGX9_65.2.2.2.2.2
theorem dGX9_66 : decode cX9_passHour 111 = .ok (.putfield 42, 3) ∧ decode cX9_passHour 114 = .ok (.iload_n 3, 1) ∧ decode cX9_passHour 115 = .ok (.ireturn, 1) ∧ decode cX9_lay 0 = .ok (.aload_n 0, 1) ∧ decode cX9_lay 1 = .ok (.getfield 21, 3) ∧ decode cX9_lay 4 = .ok (.getfield 103, 3) := by decide +kernel
theorem dX9_passHour_111 : decode cX9_passHour 111 = .ok (.putfield 42, 3) := dGX9_66.1
theorem dX9_passHour_114 : decode cX9_passHour 114 = .ok (.iload_n 3, 1) := dGX9_66.2.1
theorem dX9_passHour_115 : decode cX9_passHour 115 = .ok (.ireturn, 1) := dGX9_66.2.2.1
theorem dX9_lay_0 : decode cX9_lay 0 = .ok (.aload_n 0, 1) := dGX9_66.2.2.2.1
theorem dX9_lay_1 : decode cX9_lay 1 = .ok (.getfield 21, 3) := dGX9_66.2.2.2.2.1
theorem dX9_lay_4 : decode cX9_lay 4 = .ok (.getfield 103, 3) := dGX9_66.2.2.2.2.2
theorem dGX9_67 : decode cX9_lay 7 = .ok (.iload_n 2, 1) ∧ decode cX9_lay 8 = .ok (.iaload, 1) ∧ decode cX9_lay 9 = .ok (.istore 4, 2) ∧ decode cX9_lay 11 = .ok (.aload_n 0, 1) ∧ decode cX9_lay 12 = .ok (.getfield 12, 3) ∧ decode cX9_lay 15 = .ok (.iload 4, 2) := by decide +kernel
theorem dX9_lay_7 : decode cX9_lay 7 = .ok (.iload_n 2, 1) := dGX9_67.1
theorem dX9_lay_8 : decode cX9_lay 8 = .ok (.iaload, 1) := dGX9_67.2.1
theorem dX9_lay_9 : decode cX9_lay 9 = .ok (.istore 4, 2) := dGX9_67.2.2.1
theorem dX9_lay_11 : decode cX9_lay 11 = .ok (.aload_n 0, 1) := dGX9_67.2.2.2.1
theorem dX9_lay_12 : decode cX9_lay 12 = .ok (.getfield 12, 3) := dGX9_67.2.2.2.2.1
theorem dX9_lay_15 : decode cX9_lay 15 = .ok (.iload 4, 2) := dGX9_67.2.2.2.2.2
theorem dGX9_68 : decode cX9_lay 17 = .ok (.invokevirtual 106, 3) ∧ decode cX9_lay 20 = .ok (.ifCond .ne 4, 3) ∧ decode cX9_lay 23 = .ok (.return_, 1) ∧ decode cX9_lay 24 = .ok (.aload_n 0, 1) ∧ decode cX9_lay 25 = .ok (.iload_n 2, 1) ∧ decode cX9_lay 26 = .ok (.iload 4, 2) := by decide +kernel
theorem dX9_lay_17 : decode cX9_lay 17 = .ok (.invokevirtual 106, 3) := dGX9_68.1
theorem dX9_lay_20 : decode cX9_lay 20 = .ok (.ifCond .ne 4, 3) := dGX9_68.2.1
theorem dX9_lay_23 : decode cX9_lay 23 = .ok (.return_, 1) := dGX9_68.2.2.1
theorem dX9_lay_24 : decode cX9_lay 24 = .ok (.aload_n 0, 1) := dGX9_68.2.2.2.1
theorem dX9_lay_25 : decode cX9_lay 25 = .ok (.iload_n 2, 1) := dGX9_68.2.2.2.2.1
theorem dX9_lay_26 : decode cX9_lay 26 = .ok (.iload 4, 2) := dGX9_68.2.2.2.2.2
theorem dGX9_69 : decode cX9_lay 28 = .ok (.iload_n 3, 1) ∧ decode cX9_lay 29 = .ok (.invokevirtual 107, 3) ∧ decode cX9_lay 32 = .ok (.aload_n 0, 1) ∧ decode cX9_lay 33 = .ok (.getfield 12, 3) ∧ decode cX9_lay 36 = .ok (.getfield 111, 3) ∧ decode cX9_lay 39 = .ok (.iload 4, 2) := by decide +kernel
theorem dX9_lay_28 : decode cX9_lay 28 = .ok (.iload_n 3, 1) := dGX9_69.1
theorem dX9_lay_29 : decode cX9_lay 29 = .ok (.invokevirtual 107, 3) := dGX9_69.2.1
theorem dX9_lay_32 : decode cX9_lay 32 = .ok (.aload_n 0, 1) := dGX9_69.2.2.1
theorem dX9_lay_33 : decode cX9_lay 33 = .ok (.getfield 12, 3) := dGX9_69.2.2.2.1
theorem dX9_lay_36 : decode cX9_lay 36 = .ok (.getfield 111, 3) := dGX9_69.2.2.2.2.1
theorem dX9_lay_39 : decode cX9_lay 39 = .ok (.iload 4, 2) := dGX9_69.2.2.2.2.2
theorem dGX9_70 : decode cX9_lay 41 = .ok (.dup2, 1) ∧ decode cX9_lay 42 = .ok (.iaload, 1) ∧ decode cX9_lay 43 = .ok (.aload_n 1, 1) ∧ decode cX9_lay 44 = .ok (.bipush 109, 2) ∧ decode cX9_lay 46 = .ok (.bipush 9, 2) ∧ decode cX9_lay 48 = .ok (.aload_n 0, 1) := by decide +kernel
theorem dX9_lay_41 : decode cX9_lay 41 = .ok (.dup2, 1) := dGX9_70.1
theorem dX9_lay_42 : decode cX9_lay 42 = .ok (.iaload, 1) := dGX9_70.2.1
theorem dX9_lay_43 : decode cX9_lay 43 = .ok (.aload_n 1, 1) := dGX9_70.2.2.1
theorem dX9_lay_44 : decode cX9_lay 44 = .ok (.bipush 109, 2) := dGX9_70.2.2.2.1
theorem dX9_lay_46 : decode cX9_lay 46 = .ok (.bipush 9, 2) := dGX9_70.2.2.2.2.1
theorem dX9_lay_48 : decode cX9_lay 48 = .ok (.aload_n 0, 1) := dGX9_70.2.2.2.2.2
theorem dGX9_71 : decode cX9_lay 49 = .ok (.getfield 52, 3) ∧ decode cX9_lay 52 = .ok (.invokevirtual 114, 3) ∧ decode cX9_lay 55 = .ok (.aload_n 0, 1) ∧ decode cX9_lay 56 = .ok (.getfield 12, 3) ∧ decode cX9_lay 59 = .ok (.getfield 120, 3) ∧ decode cX9_lay 62 = .ok (.iload 4, 2) := by decide +kernel
theorem dX9_lay_49 : decode cX9_lay 49 = .ok (.getfield 52, 3) := dGX9_71.1
theorem dX9_lay_52 : decode cX9_lay 52 = .ok (.invokevirtual 114, 3) := dGX9_71.2.1
theorem dX9_lay_55 : decode cX9_lay 55 = .ok (.aload_n 0, 1) := dGX9_71.2.2.1
theorem dX9_lay_56 : decode cX9_lay 56 = .ok (.getfield 12, 3) := dGX9_71.2.2.2.1
theorem dX9_lay_59 : decode cX9_lay 59 = .ok (.getfield 120, 3) := dGX9_71.2.2.2.2.1
theorem dX9_lay_62 : decode cX9_lay 62 = .ok (.iload 4, 2) := dGX9_71.2.2.2.2.2
theorem dGX9_72 : decode cX9_lay 64 = .ok (.iaload, 1) ∧ decode cX9_lay 65 = .ok (.aload_n 0, 1) ∧ decode cX9_lay 66 = .ok (.getfield 12, 3) ∧ decode cX9_lay 69 = .ok (.getfield 111, 3) ∧ decode cX9_lay 72 = .ok (.iload 4, 2) ∧ decode cX9_lay 74 = .ok (.iaload, 1) := by decide +kernel
theorem dX9_lay_64 : decode cX9_lay 64 = .ok (.iaload, 1) := dGX9_72.1
theorem dX9_lay_65 : decode cX9_lay 65 = .ok (.aload_n 0, 1) := dGX9_72.2.1
theorem dX9_lay_66 : decode cX9_lay 66 = .ok (.getfield 12, 3) := dGX9_72.2.2.1
theorem dX9_lay_69 : decode cX9_lay 69 = .ok (.getfield 111, 3) := dGX9_72.2.2.2.1
theorem dX9_lay_72 : decode cX9_lay 72 = .ok (.iload 4, 2) := dGX9_72.2.2.2.2.1
theorem dX9_lay_74 : decode cX9_lay 74 = .ok (.iaload, 1) := dGX9_72.2.2.2.2.2
theorem dGX9_73 : decode cX9_lay 75 = .ok (.isub, 1) ∧ decode cX9_lay 76 = .ok (.invokestatic 123, 3) ∧ decode cX9_lay 79 = .ok (.iadd, 1) ∧ decode cX9_lay 80 = .ok (.iastore, 1) ∧ decode cX9_lay 81 = .ok (.return_, 1) ∧ decode cX9_letFall 0 = .ok (.aload_n 0, 1) := by decide +kernel
theorem dX9_lay_75 : decode cX9_lay 75 = .ok (.isub, 1) := dGX9_73.1
theorem dX9_lay_76 : decode cX9_lay 76 = .ok (.invokestatic 123, 3) := dGX9_73.2.1
theorem dX9_lay_79 : decode cX9_lay 79 = .ok (.iadd, 1) := dGX9_73.2.2.1
theorem dX9_lay_80 : decode cX9_lay 80 = .ok (.iastore, 1) := dGX9_73.2.2.2.1
theorem dX9_lay_81 : decode cX9_lay 81 = .ok (.return_, 1) := dGX9_73.2.2.2.2.1
theorem dX9_letFall_0 : decode cX9_letFall 0 = .ok (.aload_n 0, 1) := dGX9_73.2.2.2.2.2
theorem dGX9_74 : decode cX9_letFall 1 = .ok (.getfield 21, 3) ∧ decode cX9_letFall 4 = .ok (.getfield 103, 3) ∧ decode cX9_letFall 7 = .ok (.iload_n 2, 1) ∧ decode cX9_letFall 8 = .ok (.iaload, 1) ∧ decode cX9_letFall 9 = .ok (.istore 4, 2) ∧ decode cX9_letFall 11 = .ok (.aload_n 0, 1) := by decide +kernel
theorem dX9_letFall_1 : decode cX9_letFall 1 = .ok (.getfield 21, 3) := dGX9_74.1
theorem dX9_letFall_4 : decode cX9_letFall 4 = .ok (.getfield 103, 3) := dGX9_74.2.1
theorem dX9_letFall_7 : decode cX9_letFall 7 = .ok (.iload_n 2, 1) := dGX9_74.2.2.1
theorem dX9_letFall_8 : decode cX9_letFall 8 = .ok (.iaload, 1) := dGX9_74.2.2.2.1
theorem dX9_letFall_9 : decode cX9_letFall 9 = .ok (.istore 4, 2) := dGX9_74.2.2.2.2.1
theorem dX9_letFall_11 : decode cX9_letFall 11 = .ok (.aload_n 0, 1) := dGX9_74.2.2.2.2.2
theorem dGX9_75 : decode cX9_letFall 12 = .ok (.getfield 12, 3) ∧ decode cX9_letFall 15 = .ok (.iload 4, 2) ∧ decode cX9_letFall 17 = .ok (.invokevirtual 106, 3) ∧ decode cX9_letFall 20 = .ok (.ifCond .ne 5, 3) ∧ decode cX9_letFall 23 = .ok (.iconst 0, 1) ∧ decode cX9_letFall 24 = .ok (.ireturn, 1) := by decide +kernel
theorem dX9_letFall_12 : decode cX9_letFall 12 = .ok (.getfield 12, 3) := dGX9_75.1
theorem dX9_letFall_15 : decode cX9_letFall 15 = .ok (.iload 4, 2) := dGX9_75.2.1
theorem dX9_letFall_17 : decode cX9_letFall 17 = .ok (.invokevirtual 106, 3) := dGX9_75.2.2.1
theorem dX9_letFall_20 : decode cX9_letFall 20 = .ok (.ifCond .ne 5, 3) := dGX9_75.2.2.2.1
theorem dX9_letFall_23 : decode cX9_letFall 23 = .ok (.iconst 0, 1) := dGX9_75.2.2.2.2.1
theorem dX9_letFall_24 : decode cX9_letFall 24 = .ok (.ireturn, 1) := dGX9_75.2.2.2.2.2
theorem dGX9_76 : decode cX9_letFall 25 = .ok (.aload_n 0, 1) ∧ decode cX9_letFall 26 = .ok (.iload_n 2, 1) ∧ decode cX9_letFall 27 = .ok (.iload 4, 2) ∧ decode cX9_letFall 29 = .ok (.iload_n 3, 1) ∧ decode cX9_letFall 30 = .ok (.invokevirtual 107, 3) ∧ decode cX9_letFall 33 = .ok (.aload_n 1, 1) := by decide +kernel
theorem dX9_letFall_25 : decode cX9_letFall 25 = .ok (.aload_n 0, 1) := dGX9_76.1
theorem dX9_letFall_26 : decode cX9_letFall 26 = .ok (.iload_n 2, 1) := dGX9_76.2.1
theorem dX9_letFall_27 : decode cX9_letFall 27 = .ok (.iload 4, 2) := dGX9_76.2.2.1
theorem dX9_letFall_29 : decode cX9_letFall 29 = .ok (.iload_n 3, 1) := dGX9_76.2.2.2.1
theorem dX9_letFall_30 : decode cX9_letFall 30 = .ok (.invokevirtual 107, 3) := dGX9_76.2.2.2.2.1
theorem dX9_letFall_33 : decode cX9_letFall 33 = .ok (.aload_n 1, 1) := dGX9_76.2.2.2.2.2
theorem dGX9_77 : decode cX9_letFall 34 = .ok (.bipush 102, 2) ∧ decode cX9_letFall 36 = .ok (.bipush 9, 2) ∧ decode cX9_letFall 38 = .ok (.aload_n 0, 1) ∧ decode cX9_letFall 39 = .ok (.getfield 52, 3) ∧ decode cX9_letFall 42 = .ok (.invokevirtual 114, 3) ∧ decode cX9_letFall 45 = .ok (.aload_n 0, 1) := by decide +kernel
theorem dX9_letFall_34 : decode cX9_letFall 34 = .ok (.bipush 102, 2) := dGX9_77.1
theorem dX9_letFall_36 : decode cX9_letFall 36 = .ok (.bipush 9, 2) := dGX9_77.2.1
theorem dX9_letFall_38 : decode cX9_letFall 38 = .ok (.aload_n 0, 1) := dGX9_77.2.2.1
theorem dX9_letFall_39 : decode cX9_letFall 39 = .ok (.getfield 52, 3) := dGX9_77.2.2.2.1
theorem dX9_letFall_42 : decode cX9_letFall 42 = .ok (.invokevirtual 114, 3) := dGX9_77.2.2.2.2.1
theorem dX9_letFall_45 : decode cX9_letFall 45 = .ok (.aload_n 0, 1) := dGX9_77.2.2.2.2.2
theorem dGX9_78 : decode cX9_letFall 46 = .ok (.getfield 12, 3) ∧ decode cX9_letFall 49 = .ok (.getfield 111, 3) ∧ decode cX9_letFall 52 = .ok (.iload 4, 2) ∧ decode cX9_letFall 54 = .ok (.iaload, 1) ∧ decode cX9_letFall 55 = .ok (.invokestatic 123, 3) ∧ decode cX9_letFall 58 = .ok (.istore 5, 2) := by decide +kernel
theorem dX9_letFall_46 : decode cX9_letFall 46 = .ok (.getfield 12, 3) := dGX9_78.1
theorem dX9_letFall_49 : decode cX9_letFall 49 = .ok (.getfield 111, 3) := dGX9_78.2.1
theorem dX9_letFall_52 : decode cX9_letFall 52 = .ok (.iload 4, 2) := dGX9_78.2.2.1
theorem dX9_letFall_54 : decode cX9_letFall 54 = .ok (.iaload, 1) := dGX9_78.2.2.2.1
theorem dX9_letFall_55 : decode cX9_letFall 55 = .ok (.invokestatic 123, 3) := dGX9_78.2.2.2.2.1
theorem dX9_letFall_58 : decode cX9_letFall 58 = .ok (.istore 5, 2) := dGX9_78.2.2.2.2.2
theorem dGX9_79 : decode cX9_letFall 60 = .ok (.aload_n 0, 1) ∧ decode cX9_letFall 61 = .ok (.getfield 21, 3) ∧ decode cX9_letFall 64 = .ok (.getfield 75, 3) ∧ decode cX9_letFall 67 = .ok (.iload_n 2, 1) ∧ decode cX9_letFall 68 = .ok (.iaload, 1) ∧ decode cX9_letFall 69 = .ok (.iconst 1, 1) := by decide +kernel
theorem dX9_letFall_60 : decode cX9_letFall 60 = .ok (.aload_n 0, 1) := dGX9_79.1
theorem dX9_letFall_61 : decode cX9_letFall 61 = .ok (.getfield 21, 3) := dGX9_79.2.1
theorem dX9_letFall_64 : decode cX9_letFall 64 = .ok (.getfield 75, 3) := dGX9_79.2.2.1
theorem dX9_letFall_67 : decode cX9_letFall 67 = .ok (.iload_n 2, 1) := dGX9_79.2.2.2.1
theorem dX9_letFall_68 : decode cX9_letFall 68 = .ok (.iaload, 1) := dGX9_79.2.2.2.2.1
theorem dX9_letFall_69 : decode cX9_letFall 69 = .ok (.iconst 1, 1) := dGX9_79.2.2.2.2.2
theorem dGX9_80 : decode cX9_letFall 70 = .ok (.if_icmp .ne 11, 3) ∧ decode cX9_letFall 73 = .ok (.iload 5, 2) ∧ decode cX9_letFall 75 = .ok (.ifCond .le 6, 3) ∧ decode cX9_letFall 78 = .ok (.iinc 5 (-1), 3) ∧ decode cX9_letFall 81 = .ok (.iconst 0, 1) ∧ decode cX9_letFall 82 = .ok (.istore 6, 2) := by decide +kernel
theorem dX9_letFall_70 : decode cX9_letFall 70 = .ok (.if_icmp .ne 11, 3) := dGX9_80.1
theorem dX9_letFall_73 : decode cX9_letFall 73 = .ok (.iload 5, 2) := dGX9_80.2.1
theorem dX9_letFall_75 : decode cX9_letFall 75 = .ok (.ifCond .le 6, 3) := dGX9_80.2.2.1
theorem dX9_letFall_78 : decode cX9_letFall 78 = .ok (.iinc 5 (-1), 3) := dGX9_80.2.2.2.1
theorem dX9_letFall_81 : decode cX9_letFall 81 = .ok (.iconst 0, 1) := dGX9_80.2.2.2.2.1
theorem dX9_letFall_82 : decode cX9_letFall 82 = .ok (.istore 6, 2) := dGX9_80.2.2.2.2.2
theorem dGX9_81 : decode cX9_letFall 84 = .ok (.iload 6, 2) ∧ decode cX9_letFall 86 = .ok (.iload 5, 2) ∧ decode cX9_letFall 88 = .ok (.if_icmp .ge 126, 3) ∧ decode cX9_letFall 91 = .ok (.aload_n 0, 1) ∧ decode cX9_letFall 92 = .ok (.getfield 12, 3) ∧ decode cX9_letFall 95 = .ok (.getfield 111, 3) := by decide +kernel
theorem dX9_letFall_84 : decode cX9_letFall 84 = .ok (.iload 6, 2) := dGX9_81.1
theorem dX9_letFall_86 : decode cX9_letFall 86 = .ok (.iload 5, 2) := dGX9_81.2.1
theorem dX9_letFall_88 : decode cX9_letFall 88 = .ok (.if_icmp .ge 126, 3) := dGX9_81.2.2.1
theorem dX9_letFall_91 : decode cX9_letFall 91 = .ok (.aload_n 0, 1) := dGX9_81.2.2.2.1
theorem dX9_letFall_92 : decode cX9_letFall 92 = .ok (.getfield 12, 3) := dGX9_81.2.2.2.2.1
theorem dX9_letFall_95 : decode cX9_letFall 95 = .ok (.getfield 111, 3) := dGX9_81.2.2.2.2.2
theorem dGX9_82 : decode cX9_letFall 98 = .ok (.iload 4, 2) ∧ decode cX9_letFall 100 = .ok (.dup2, 1) ∧ decode cX9_letFall 101 = .ok (.iaload, 1) ∧ decode cX9_letFall 102 = .ok (.iconst 1, 1) ∧ decode cX9_letFall 103 = .ok (.isub, 1) ∧ decode cX9_letFall 104 = .ok (.iastore, 1) := by decide +kernel
theorem dX9_letFall_98 : decode cX9_letFall 98 = .ok (.iload 4, 2) := dGX9_82.1
theorem dX9_letFall_100 : decode cX9_letFall 100 = .ok (.dup2, 1) := dGX9_82.2.1
theorem dX9_letFall_101 : decode cX9_letFall 101 = .ok (.iaload, 1) := dGX9_82.2.2.1
theorem dX9_letFall_102 : decode cX9_letFall 102 = .ok (.iconst 1, 1) := dGX9_82.2.2.2.1
theorem dX9_letFall_103 : decode cX9_letFall 103 = .ok (.isub, 1) := dGX9_82.2.2.2.2.1
theorem dX9_letFall_104 : decode cX9_letFall 104 = .ok (.iastore, 1) := dGX9_82.2.2.2.2.2
theorem dGX9_83 : decode cX9_letFall 105 = .ok (.aload_n 0, 1) ∧ decode cX9_letFall 106 = .ok (.getfield 21, 3) ∧ decode cX9_letFall 109 = .ok (.getfield 129, 3) ∧ decode cX9_letFall 112 = .ok (.iload_n 2, 1) ∧ decode cX9_letFall 113 = .ok (.dup2, 1) ∧ decode cX9_letFall 114 = .ok (.iaload, 1) := by decide +kernel
theorem dX9_letFall_105 : decode cX9_letFall 105 = .ok (.aload_n 0, 1) := dGX9_83.1
theorem dX9_letFall_106 : decode cX9_letFall 106 = .ok (.getfield 21, 3) := dGX9_83.2.1
theorem dX9_letFall_109 : decode cX9_letFall 109 = .ok (.getfield 129, 3) := dGX9_83.2.2.1
theorem dX9_letFall_112 : decode cX9_letFall 112 = .ok (.iload_n 2, 1) := dGX9_83.2.2.2.1
theorem dX9_letFall_113 : decode cX9_letFall 113 = .ok (.dup2, 1) := dGX9_83.2.2.2.2.1
theorem dX9_letFall_114 : decode cX9_letFall 114 = .ok (.iaload, 1) := dGX9_83.2.2.2.2.2
theorem dGX9_84 : decode cX9_letFall 115 = .ok (.iconst 1, 1) ∧ decode cX9_letFall 116 = .ok (.iadd, 1) ∧ decode cX9_letFall 117 = .ok (.iastore, 1) ∧ decode cX9_letFall 118 = .ok (.aload_n 0, 1) ∧ decode cX9_letFall 119 = .ok (.getfield 28, 3) ∧ decode cX9_letFall 122 = .ok (.iload 4, 2) := by decide +kernel
theorem dX9_letFall_115 : decode cX9_letFall 115 = .ok (.iconst 1, 1) := dGX9_84.1
theorem dX9_letFall_116 : decode cX9_letFall 116 = .ok (.iadd, 1) := dGX9_84.2.1
theorem dX9_letFall_117 : decode cX9_letFall 117 = .ok (.iastore, 1) := dGX9_84.2.2.1
theorem dX9_letFall_118 : decode cX9_letFall 118 = .ok (.aload_n 0, 1) := dGX9_84.2.2.2.1
theorem dX9_letFall_119 : decode cX9_letFall 119 = .ok (.getfield 28, 3) := dGX9_84.2.2.2.2.1
theorem dX9_letFall_122 : decode cX9_letFall 122 = .ok (.iload 4, 2) := dGX9_84.2.2.2.2.2
theorem dGX9_85 : decode cX9_letFall 124 = .ok (.invokevirtual 132, 3) ∧ decode cX9_letFall 127 = .ok (.istore 7, 2) ∧ decode cX9_letFall 129 = .ok (.aload_n 0, 1) ∧ decode cX9_letFall 130 = .ok (.getfield 28, 3) ∧ decode cX9_letFall 133 = .ok (.iload 7, 2) ∧ decode cX9_letFall 135 = .ok (.invokevirtual 78, 3) := by decide +kernel
theorem dX9_letFall_124 : decode cX9_letFall 124 = .ok (.invokevirtual 132, 3) := dGX9_85.1
theorem dX9_letFall_127 : decode cX9_letFall 127 = .ok (.istore 7, 2) := dGX9_85.2.1
theorem dX9_letFall_129 : decode cX9_letFall 129 = .ok (.aload_n 0, 1) := dGX9_85.2.2.1
theorem dX9_letFall_130 : decode cX9_letFall 130 = .ok (.getfield 28, 3) := dGX9_85.2.2.2.1
theorem dX9_letFall_133 : decode cX9_letFall 133 = .ok (.iload 7, 2) := dGX9_85.2.2.2.2.1
theorem dX9_letFall_135 : decode cX9_letFall 135 = .ok (.invokevirtual 78, 3) := dGX9_85.2.2.2.2.2
theorem dGX9_86 : decode cX9_letFall 138 = .ok (.ifCond .eq 60, 3) ∧ decode cX9_letFall 141 = .ok (.aload_n 0, 1) ∧ decode cX9_letFall 142 = .ok (.iload_n 2, 1) ∧ decode cX9_letFall 143 = .ok (.iload 4, 2) ∧ decode cX9_letFall 145 = .ok (.iload_n 3, 1) ∧ decode cX9_letFall 146 = .ok (.invokevirtual 107, 3) := by decide +kernel
theorem dX9_letFall_138 : decode cX9_letFall 138 = .ok (.ifCond .eq 60, 3) := dGX9_86.1
theorem dX9_letFall_141 : decode cX9_letFall 141 = .ok (.aload_n 0, 1) := dGX9_86.2.1
theorem dX9_letFall_142 : decode cX9_letFall 142 = .ok (.iload_n 2, 1) := dGX9_86.2.2.1
theorem dX9_letFall_143 : decode cX9_letFall 143 = .ok (.iload 4, 2) := dGX9_86.2.2.2.1
theorem dX9_letFall_145 : decode cX9_letFall 145 = .ok (.iload_n 3, 1) := dGX9_86.2.2.2.2.1
theorem dX9_letFall_146 : decode cX9_letFall 146 = .ok (.invokevirtual 107, 3) := dGX9_86.2.2.2.2.2
theorem dGX9_87 : decode cX9_letFall 149 = .ok (.aload_n 0, 1) ∧ decode cX9_letFall 150 = .ok (.iload_n 2, 1) ∧ decode cX9_letFall 151 = .ok (.iload 7, 2) ∧ decode cX9_letFall 153 = .ok (.invokevirtual 136, 3) ∧ decode cX9_letFall 156 = .ok (.aload_n 1, 1) ∧ decode cX9_letFall 157 = .ok (.bipush 108, 2) := by decide +kernel
theorem dX9_letFall_149 : decode cX9_letFall 149 = .ok (.aload_n 0, 1) := dGX9_87.1
theorem dX9_letFall_150 : decode cX9_letFall 150 = .ok (.iload_n 2, 1) := dGX9_87.2.1
theorem dX9_letFall_151 : decode cX9_letFall 151 = .ok (.iload 7, 2) := dGX9_87.2.2.1
theorem dX9_letFall_153 : decode cX9_letFall 153 = .ok (.invokevirtual 136, 3) := dGX9_87.2.2.2.1
theorem dX9_letFall_156 : decode cX9_letFall 156 = .ok (.aload_n 1, 1) := dGX9_87.2.2.2.2.1
theorem dX9_letFall_157 : decode cX9_letFall 157 = .ok (.bipush 108, 2) := dGX9_87.2.2.2.2.2
theorem dGX9_88 : decode cX9_letFall 159 = .ok (.bipush 9, 2) ∧ decode cX9_letFall 161 = .ok (.aload_n 0, 1) ∧ decode cX9_letFall 162 = .ok (.getfield 52, 3) ∧ decode cX9_letFall 165 = .ok (.invokevirtual 114, 3) ∧ decode cX9_letFall 168 = .ok (.istore 8, 2) ∧ decode cX9_letFall 170 = .ok (.aload_n 1, 1) := by decide +kernel
theorem dX9_letFall_159 : decode cX9_letFall 159 = .ok (.bipush 9, 2) := dGX9_88.1
theorem dX9_letFall_161 : decode cX9_letFall 161 = .ok (.aload_n 0, 1) := dGX9_88.2.1
theorem dX9_letFall_162 : decode cX9_letFall 162 = .ok (.getfield 52, 3) := dGX9_88.2.2.1
theorem dX9_letFall_165 : decode cX9_letFall 165 = .ok (.invokevirtual 114, 3) := dGX9_88.2.2.2.1
theorem dX9_letFall_168 : decode cX9_letFall 168 = .ok (.istore 8, 2) := dGX9_88.2.2.2.2.1
theorem dX9_letFall_170 : decode cX9_letFall 170 = .ok (.aload_n 1, 1) := dGX9_88.2.2.2.2.2
theorem dGX9_89 : decode cX9_letFall 171 = .ok (.bipush 100, 2) ∧ decode cX9_letFall 173 = .ok (.bipush 99, 2) ∧ decode cX9_letFall 175 = .ok (.aload_n 0, 1) ∧ decode cX9_letFall 176 = .ok (.getfield 52, 3) ∧ decode cX9_letFall 179 = .ok (.invokevirtual 114, 3) ∧ decode cX9_letFall 182 = .ok (.istore 9, 2) := by decide +kernel
theorem dX9_letFall_171 : decode cX9_letFall 171 = .ok (.bipush 100, 2) := dGX9_89.1
theorem dX9_letFall_173 : decode cX9_letFall 173 = .ok (.bipush 99, 2) := dGX9_89.2.1
theorem dX9_letFall_175 : decode cX9_letFall 175 = .ok (.aload_n 0, 1) := dGX9_89.2.2.1
theorem dX9_letFall_176 : decode cX9_letFall 176 = .ok (.getfield 52, 3) := dGX9_89.2.2.2.1
theorem dX9_letFall_179 : decode cX9_letFall 179 = .ok (.invokevirtual 114, 3) := dGX9_89.2.2.2.2.1
theorem dX9_letFall_182 : decode cX9_letFall 182 = .ok (.istore 9, 2) := dGX9_89.2.2.2.2.2
theorem dGX9_90 : decode cX9_letFall 184 = .ok (.aload_n 0, 1) ∧ decode cX9_letFall 185 = .ok (.iload_n 2, 1) ∧ decode cX9_letFall 186 = .ok (.iload 7, 2) ∧ decode cX9_letFall 188 = .ok (.iload 8, 2) ∧ decode cX9_letFall 190 = .ok (.iload 9, 2) ∧ decode cX9_letFall 192 = .ok (.invokevirtual 140, 3) := by decide +kernel
theorem dX9_letFall_184 : decode cX9_letFall 184 = .ok (.aload_n 0, 1) := dGX9_90.1
theorem dX9_letFall_185 : decode cX9_letFall 185 = .ok (.iload_n 2, 1) := dGX9_90.2.1
theorem dX9_letFall_186 : decode cX9_letFall 186 = .ok (.iload 7, 2) := dGX9_90.2.2.1
theorem dX9_letFall_188 : decode cX9_letFall 188 = .ok (.iload 8, 2) := dGX9_90.2.2.2.1
theorem dX9_letFall_190 : decode cX9_letFall 190 = .ok (.iload 9, 2) := dGX9_90.2.2.2.2.1
theorem dX9_letFall_192 : decode cX9_letFall 192 = .ok (.invokevirtual 140, 3) := dGX9_90.2.2.2.2.2
theorem dGX9_91 : decode cX9_letFall 195 = .ok (.goto 13, 3) ∧ decode cX9_letFall 198 = .ok (.aload_n 0, 1) ∧ decode cX9_letFall 199 = .ok (.dup, 1) ∧ decode cX9_letFall 200 = .ok (.getfield 49, 3) ∧ decode cX9_letFall 203 = .ok (.iconst 1, 1) ∧ decode cX9_letFall 204 = .ok (.iadd, 1) := by decide +kernel
theorem dX9_letFall_195 : decode cX9_letFall 195 = .ok (.goto 13, 3) := dGX9_91.1
theorem dX9_letFall_198 : decode cX9_letFall 198 = .ok (.aload_n 0, 1) := dGX9_91.2.1
theorem dX9_letFall_199 : decode cX9_letFall 199 = .ok (.dup, 1) := dGX9_91.2.2.1
theorem dX9_letFall_200 : decode cX9_letFall 200 = .ok (.getfield 49, 3) := dGX9_91.2.2.2.1
theorem dX9_letFall_203 : decode cX9_letFall 203 = .ok (.iconst 1, 1) := dGX9_91.2.2.2.2.1
theorem dX9_letFall_204 : decode cX9_letFall 204 = .ok (.iadd, 1) := dGX9_91.2.2.2.2.2
theorem dGX9_92 : decode cX9_letFall 205 = .ok (.putfield 49, 3) ∧ decode cX9_letFall 208 = .ok (.iinc 6 1, 3) ∧ decode cX9_letFall 211 = .ok (.goto (-127), 3) ∧ decode cX9_letFall 214 = .ok (.iload 5, 2) ∧ decode cX9_letFall 216 = .ok (.ireturn, 1) ∧ decode cX9_bruise 0 = .ok (.iload_n 1, 1) := by decide +kernel
theorem dX9_letFall_205 : decode cX9_letFall 205 = .ok (.putfield 49, 3) := dGX9_92.1
theorem dX9_letFall_208 : decode cX9_letFall 208 = .ok (.iinc 6 1, 3) := dGX9_92.2.1
theorem dX9_letFall_211 : decode cX9_letFall 211 = .ok (.goto (-127), 3) := dGX9_92.2.2.1
theorem dX9_letFall_214 : decode cX9_letFall 214 = .ok (.iload 5, 2) := dGX9_92.2.2.2.1
theorem dX9_letFall_216 : decode cX9_letFall 216 = .ok (.ireturn, 1) := dGX9_92.2.2.2.2.1
theorem dX9_bruise_0 : decode cX9_bruise 0 = .ok (.iload_n 1, 1) := dGX9_92.2.2.2.2.2
theorem dGX9_93 : decode cX9_bruise 1 = .ok (.iconst 5, 1) ∧ decode cX9_bruise 2 = .ok (.imul, 1) ∧ decode cX9_bruise 3 = .ok (.aload_n 0, 1) ∧ decode cX9_bruise 4 = .ok (.getfield 28, 3) ∧ decode cX9_bruise 7 = .ok (.getfield 144, 3) ∧ decode cX9_bruise 10 = .ok (.iload_n 2, 1) := by decide +kernel
theorem dX9_bruise_1 : decode cX9_bruise 1 = .ok (.iconst 5, 1) := dGX9_93.1
theorem dX9_bruise_2 : decode cX9_bruise 2 = .ok (.imul, 1) := dGX9_93.2.1
theorem dX9_bruise_3 : decode cX9_bruise 3 = .ok (.aload_n 0, 1) := dGX9_93.2.2.1
theorem dX9_bruise_4 : decode cX9_bruise 4 = .ok (.getfield 28, 3) := dGX9_93.2.2.2.1
theorem dX9_bruise_7 : decode cX9_bruise 7 = .ok (.getfield 144, 3) := dGX9_93.2.2.2.2.1
theorem dX9_bruise_10 : decode cX9_bruise 10 = .ok (.iload_n 2, 1) := dGX9_93.2.2.2.2.2
theorem dGX9_94 : decode cX9_bruise 11 = .ok (.iaload, 1) ∧ decode cX9_bruise 12 = .ok (.iadd, 1) ∧ decode cX9_bruise 13 = .ok (.istore 5, 2) ∧ decode cX9_bruise 15 = .ok (.aload_n 0, 1) ∧ decode cX9_bruise 16 = .ok (.getfield 21, 3) ∧ decode cX9_bruise 19 = .ok (.getfield 147, 3) := by decide +kernel
theorem dX9_bruise_11 : decode cX9_bruise 11 = .ok (.iaload, 1) := dGX9_94.1
theorem dX9_bruise_12 : decode cX9_bruise 12 = .ok (.iadd, 1) := dGX9_94.2.1
theorem dX9_bruise_13 : decode cX9_bruise 13 = .ok (.istore 5, 2) := dGX9_94.2.2.1
theorem dX9_bruise_15 : decode cX9_bruise 15 = .ok (.aload_n 0, 1) := dGX9_94.2.2.2.1
theorem dX9_bruise_16 : decode cX9_bruise 16 = .ok (.getfield 21, 3) := dGX9_94.2.2.2.2.1
theorem dX9_bruise_19 : decode cX9_bruise 19 = .ok (.getfield 147, 3) := dGX9_94.2.2.2.2.2
theorem dGX9_95 : decode cX9_bruise 22 = .ok (.iload 5, 2) ∧ decode cX9_bruise 24 = .ok (.bipush 99, 2) ∧ decode cX9_bruise 26 = .ok (.aload_n 0, 1) ∧ decode cX9_bruise 27 = .ok (.getfield 21, 3) ∧ decode cX9_bruise 30 = .ok (.getfield 147, 3) ∧ decode cX9_bruise 33 = .ok (.iload 5, 2) := by decide +kernel
theorem dX9_bruise_22 : decode cX9_bruise 22 = .ok (.iload 5, 2) := dGX9_95.1
theorem dX9_bruise_24 : decode cX9_bruise 24 = .ok (.bipush 99, 2) := dGX9_95.2.1
theorem dX9_bruise_26 : decode cX9_bruise 26 = .ok (.aload_n 0, 1) := dGX9_95.2.2.1
theorem dX9_bruise_27 : decode cX9_bruise 27 = .ok (.getfield 21, 3) := dGX9_95.2.2.2.1
theorem dX9_bruise_30 : decode cX9_bruise 30 = .ok (.getfield 147, 3) := dGX9_95.2.2.2.2.1
theorem dX9_bruise_33 : decode cX9_bruise 33 = .ok (.iload 5, 2) := dGX9_95.2.2.2.2.2
theorem dGX9_96 : decode cX9_bruise 35 = .ok (.iaload, 1) ∧ decode cX9_bruise 36 = .ok (.iload_n 3, 1) ∧ decode cX9_bruise 37 = .ok (.iadd, 1) ∧ decode cX9_bruise 38 = .ok (.invokestatic 123, 3) ∧ decode cX9_bruise 41 = .ok (.iastore, 1) ∧ decode cX9_bruise 42 = .ok (.aload_n 0, 1) := by decide +kernel
theorem dX9_bruise_35 : decode cX9_bruise 35 = .ok (.iaload, 1) := dGX9_96.1
theorem dX9_bruise_36 : decode cX9_bruise 36 = .ok (.iload_n 3, 1) := dGX9_96.2.1
theorem dX9_bruise_37 : decode cX9_bruise 37 = .ok (.iadd, 1) := dGX9_96.2.2.1
theorem dX9_bruise_38 : decode cX9_bruise 38 = .ok (.invokestatic 123, 3) := dGX9_96.2.2.2.1
theorem dX9_bruise_41 : decode cX9_bruise 41 = .ok (.iastore, 1) := dGX9_96.2.2.2.2.1
theorem dX9_bruise_42 : decode cX9_bruise 42 = .ok (.aload_n 0, 1) := dGX9_96.2.2.2.2.2
theorem dGX9_97 : decode cX9_bruise 43 = .ok (.getfield 32, 3) ∧ decode cX9_bruise 46 = .ok (.iload_n 1, 1) ∧ decode cX9_bruise 47 = .ok (.bipush 8, 2) ∧ decode cX9_bruise 49 = .ok (.imul, 1) ∧ decode cX9_bruise 50 = .ok (.iload_n 2, 1) ∧ decode cX9_bruise 51 = .ok (.iadd, 1) := by decide +kernel
theorem dX9_bruise_43 : decode cX9_bruise 43 = .ok (.getfield 32, 3) := dGX9_97.1
theorem dX9_bruise_46 : decode cX9_bruise 46 = .ok (.iload_n 1, 1) := dGX9_97.2.1
theorem dX9_bruise_47 : decode cX9_bruise 47 = .ok (.bipush 8, 2) := dGX9_97.2.2.1
theorem dX9_bruise_49 : decode cX9_bruise 49 = .ok (.imul, 1) := dGX9_97.2.2.2.1
theorem dX9_bruise_50 : decode cX9_bruise 50 = .ok (.iload_n 2, 1) := dGX9_97.2.2.2.2.1
theorem dX9_bruise_51 : decode cX9_bruise 51 = .ok (.iadd, 1) := dGX9_97.2.2.2.2.2
theorem dGX9_98 : decode cX9_bruise 52 = .ok (.dup2, 1) ∧ decode cX9_bruise 53 = .ok (.iaload, 1) ∧ decode cX9_bruise 54 = .ok (.iload 4, 2) ∧ decode cX9_bruise 56 = .ok (.iadd, 1) ∧ decode cX9_bruise 57 = .ok (.iastore, 1) ∧ decode cX9_bruise 58 = .ok (.aload_n 0, 1) := by decide +kernel
theorem dX9_bruise_52 : decode cX9_bruise 52 = .ok (.dup2, 1) := dGX9_98.1
theorem dX9_bruise_53 : decode cX9_bruise 53 = .ok (.iaload, 1) := dGX9_98.2.1
theorem dX9_bruise_54 : decode cX9_bruise 54 = .ok (.iload 4, 2) := dGX9_98.2.2.1
theorem dX9_bruise_56 : decode cX9_bruise 56 = .ok (.iadd, 1) := dGX9_98.2.2.2.1
theorem dX9_bruise_57 : decode cX9_bruise 57 = .ok (.iastore, 1) := dGX9_98.2.2.2.2.1
theorem dX9_bruise_58 : decode cX9_bruise 58 = .ok (.aload_n 0, 1) := dGX9_98.2.2.2.2.2
theorem dGX9_99 : decode cX9_bruise 59 = .ok (.getfield 36, 3) ∧ decode cX9_bruise 62 = .ok (.iload_n 1, 1) ∧ decode cX9_bruise 63 = .ok (.bipush 8, 2) ∧ decode cX9_bruise 65 = .ok (.imul, 1) ∧ decode cX9_bruise 66 = .ok (.iload_n 2, 1) ∧ decode cX9_bruise 67 = .ok (.iadd, 1) := by decide +kernel
theorem dX9_bruise_59 : decode cX9_bruise 59 = .ok (.getfield 36, 3) := dGX9_99.1
theorem dX9_bruise_62 : decode cX9_bruise 62 = .ok (.iload_n 1, 1) := dGX9_99.2.1
theorem dX9_bruise_63 : decode cX9_bruise 63 = .ok (.bipush 8, 2) := dGX9_99.2.2.1
theorem dX9_bruise_65 : decode cX9_bruise 65 = .ok (.imul, 1) := dGX9_99.2.2.2.1
theorem dX9_bruise_66 : decode cX9_bruise 66 = .ok (.iload_n 2, 1) := dGX9_99.2.2.2.2.1
theorem dX9_bruise_67 : decode cX9_bruise 67 = .ok (.iadd, 1) := dGX9_99.2.2.2.2.2
theorem dGX9_100 : decode cX9_bruise 68 = .ok (.dup2, 1) ∧ decode cX9_bruise 69 = .ok (.iaload, 1) ∧ decode cX9_bruise 70 = .ok (.iconst 1, 1) ∧ decode cX9_bruise 71 = .ok (.iadd, 1) ∧ decode cX9_bruise 72 = .ok (.iastore, 1) ∧ decode cX9_bruise 73 = .ok (.aload_n 0, 1) := by decide +kernel
theorem dX9_bruise_68 : decode cX9_bruise 68 = .ok (.dup2, 1) := dGX9_100.1
theorem dX9_bruise_69 : decode cX9_bruise 69 = .ok (.iaload, 1) := dGX9_100.2.1
theorem dX9_bruise_70 : decode cX9_bruise 70 = .ok (.iconst 1, 1) := dGX9_100.2.2.1
theorem dX9_bruise_71 : decode cX9_bruise 71 = .ok (.iadd, 1) := dGX9_100.2.2.2.1
theorem dX9_bruise_72 : decode cX9_bruise 72 = .ok (.iastore, 1) := dGX9_100.2.2.2.2.1
theorem dX9_bruise_73 : decode cX9_bruise 73 = .ok (.aload_n 0, 1) := dGX9_100.2.2.2.2.2
theorem dGX9_101 : decode cX9_bruise 74 = .ok (.getfield 28, 3) ∧ decode cX9_bruise 77 = .ok (.getfield 150, 3) ∧ decode cX9_bruise 80 = .ok (.iload_n 2, 1) ∧ decode cX9_bruise 81 = .ok (.dup2, 1) ∧ decode cX9_bruise 82 = .ok (.iaload, 1) ∧ decode cX9_bruise 83 = .ok (.iconst 1, 1) := by decide +kernel
theorem dX9_bruise_74 : decode cX9_bruise 74 = .ok (.getfield 28, 3) := dGX9_101.1
theorem dX9_bruise_77 : decode cX9_bruise 77 = .ok (.getfield 150, 3) := dGX9_101.2.1
theorem dX9_bruise_80 : decode cX9_bruise 80 = .ok (.iload_n 2, 1) := dGX9_101.2.2.1
theorem dX9_bruise_81 : decode cX9_bruise 81 = .ok (.dup2, 1) := dGX9_101.2.2.2.1
theorem dX9_bruise_82 : decode cX9_bruise 82 = .ok (.iaload, 1) := dGX9_101.2.2.2.2.1
theorem dX9_bruise_83 : decode cX9_bruise 83 = .ok (.iconst 1, 1) := dGX9_101.2.2.2.2.2
theorem dGX9_102 : decode cX9_bruise 84 = .ok (.iadd, 1) ∧ decode cX9_bruise 85 = .ok (.iastore, 1) ∧ decode cX9_bruise 86 = .ok (.return_, 1) ∧ decode cX9_tell 0 = .ok (.aload_n 0, 1) ∧ decode cX9_tell 1 = .ok (.getfield 52, 3) ∧ decode cX9_tell 4 = .ok (.iconst 0, 1) := by decide +kernel
theorem dX9_bruise_84 : decode cX9_bruise 84 = .ok (.iadd, 1) := dGX9_102.1
theorem dX9_bruise_85 : decode cX9_bruise 85 = .ok (.iastore, 1) := dGX9_102.2.1
theorem dX9_bruise_86 : decode cX9_bruise 86 = .ok (.return_, 1) := dGX9_102.2.2.1
theorem dX9_tell_0 : decode cX9_tell 0 = .ok (.aload_n 0, 1) := dGX9_102.2.2.2.1
theorem dX9_tell_1 : decode cX9_tell 1 = .ok (.getfield 52, 3) := dGX9_102.2.2.2.2.1
theorem dX9_tell_4 : decode cX9_tell 4 = .ok (.iconst 0, 1) := dGX9_102.2.2.2.2.2
theorem dGX9_103 : decode cX9_tell 5 = .ok (.iload_n 1, 1) ∧ decode cX9_tell 6 = .ok (.iastore, 1) ∧ decode cX9_tell 7 = .ok (.aload_n 0, 1) ∧ decode cX9_tell 8 = .ok (.getfield 52, 3) ∧ decode cX9_tell 11 = .ok (.iconst 1, 1) ∧ decode cX9_tell 12 = .ok (.aload_n 0, 1) := by decide +kernel
theorem dX9_tell_5 : decode cX9_tell 5 = .ok (.iload_n 1, 1) := dGX9_103.1
theorem dX9_tell_6 : decode cX9_tell 6 = .ok (.iastore, 1) := dGX9_103.2.1
theorem dX9_tell_7 : decode cX9_tell 7 = .ok (.aload_n 0, 1) := dGX9_103.2.2.1
theorem dX9_tell_8 : decode cX9_tell 8 = .ok (.getfield 52, 3) := dGX9_103.2.2.2.1
theorem dX9_tell_11 : decode cX9_tell 11 = .ok (.iconst 1, 1) := dGX9_103.2.2.2.2.1
theorem dX9_tell_12 : decode cX9_tell 12 = .ok (.aload_n 0, 1) := dGX9_103.2.2.2.2.2
theorem dGX9_104 : decode cX9_tell 13 = .ok (.getfield 21, 3) ∧ decode cX9_tell 16 = .ok (.getfield 153, 3) ∧ decode cX9_tell 19 = .ok (.iload_n 1, 1) ∧ decode cX9_tell 20 = .ok (.iaload, 1) ∧ decode cX9_tell 21 = .ok (.iastore, 1) ∧ decode cX9_tell 22 = .ok (.aload_n 0, 1) := by decide +kernel
theorem dX9_tell_13 : decode cX9_tell 13 = .ok (.getfield 21, 3) := dGX9_104.1
theorem dX9_tell_16 : decode cX9_tell 16 = .ok (.getfield 153, 3) := dGX9_104.2.1
theorem dX9_tell_19 : decode cX9_tell 19 = .ok (.iload_n 1, 1) := dGX9_104.2.2.1
theorem dX9_tell_20 : decode cX9_tell 20 = .ok (.iaload, 1) := dGX9_104.2.2.2.1
theorem dX9_tell_21 : decode cX9_tell 21 = .ok (.iastore, 1) := dGX9_104.2.2.2.2.1
theorem dX9_tell_22 : decode cX9_tell 22 = .ok (.aload_n 0, 1) := dGX9_104.2.2.2.2.2
theorem dGX9_105 : decode cX9_tell 23 = .ok (.getfield 52, 3) ∧ decode cX9_tell 26 = .ok (.iconst 2, 1) ∧ decode cX9_tell 27 = .ok (.aload_n 0, 1) ∧ decode cX9_tell 28 = .ok (.getfield 21, 3) ∧ decode cX9_tell 31 = .ok (.iload_n 1, 1) ∧ decode cX9_tell 32 = .ok (.invokevirtual 156, 3) := by decide +kernel
theorem dX9_tell_23 : decode cX9_tell 23 = .ok (.getfield 52, 3) := dGX9_105.1
theorem dX9_tell_26 : decode cX9_tell 26 = .ok (.iconst 2, 1) := dGX9_105.2.1
theorem dX9_tell_27 : decode cX9_tell 27 = .ok (.aload_n 0, 1) := dGX9_105.2.2.1
theorem dX9_tell_28 : decode cX9_tell 28 = .ok (.getfield 21, 3) := dGX9_105.2.2.2.1
theorem dX9_tell_31 : decode cX9_tell 31 = .ok (.iload_n 1, 1) := dGX9_105.2.2.2.2.1
theorem dX9_tell_32 : decode cX9_tell 32 = .ok (.invokevirtual 156, 3) := dGX9_105.2.2.2.2.2
theorem dGX9_106 : decode cX9_tell 35 = .ok (.iastore, 1) ∧ decode cX9_tell 36 = .ok (.aload_n 0, 1) ∧ decode cX9_tell 37 = .ok (.getfield 52, 3) ∧ decode cX9_tell 40 = .ok (.iconst 3, 1) ∧ decode cX9_tell 41 = .ok (.aload_n 0, 1) ∧ decode cX9_tell 42 = .ok (.getfield 21, 3) := by decide +kernel
theorem dX9_tell_35 : decode cX9_tell 35 = .ok (.iastore, 1) := dGX9_106.1
theorem dX9_tell_36 : decode cX9_tell 36 = .ok (.aload_n 0, 1) := dGX9_106.2.1
theorem dX9_tell_37 : decode cX9_tell 37 = .ok (.getfield 52, 3) := dGX9_106.2.2.1
theorem dX9_tell_40 : decode cX9_tell 40 = .ok (.iconst 3, 1) := dGX9_106.2.2.2.1
theorem dX9_tell_41 : decode cX9_tell 41 = .ok (.aload_n 0, 1) := dGX9_106.2.2.2.2.1
theorem dX9_tell_42 : decode cX9_tell 42 = .ok (.getfield 21, 3) := dGX9_106.2.2.2.2.2
theorem dGX9_107 : decode cX9_tell 45 = .ok (.getfield 75, 3) ∧ decode cX9_tell 48 = .ok (.iload_n 1, 1) ∧ decode cX9_tell 49 = .ok (.iaload, 1) ∧ decode cX9_tell 50 = .ok (.iastore, 1) ∧ decode cX9_tell 51 = .ok (.aload_n 0, 1) ∧ decode cX9_tell 52 = .ok (.getfield 52, 3) := by decide +kernel
theorem dX9_tell_45 : decode cX9_tell 45 = .ok (.getfield 75, 3) := dGX9_107.1
theorem dX9_tell_48 : decode cX9_tell 48 = .ok (.iload_n 1, 1) := dGX9_107.2.1
theorem dX9_tell_49 : decode cX9_tell 49 = .ok (.iaload, 1) := dGX9_107.2.2.1
theorem dX9_tell_50 : decode cX9_tell 50 = .ok (.iastore, 1) := dGX9_107.2.2.2.1
theorem dX9_tell_51 : decode cX9_tell 51 = .ok (.aload_n 0, 1) := dGX9_107.2.2.2.2.1
theorem dX9_tell_52 : decode cX9_tell 52 = .ok (.getfield 52, 3) := dGX9_107.2.2.2.2.2
theorem dGX9_108 : decode cX9_tell 55 = .ok (.iconst 4, 1) ∧ decode cX9_tell 56 = .ok (.iload_n 2, 1) ∧ decode cX9_tell 57 = .ok (.iastore, 1) ∧ decode cX9_tell 58 = .ok (.aload_n 0, 1) ∧ decode cX9_tell 59 = .ok (.getfield 52, 3) ∧ decode cX9_tell 62 = .ok (.iconst 5, 1) := by decide +kernel
theorem dX9_tell_55 : decode cX9_tell 55 = .ok (.iconst 4, 1) := dGX9_108.1
theorem dX9_tell_56 : decode cX9_tell 56 = .ok (.iload_n 2, 1) := dGX9_108.2.1
theorem dX9_tell_57 : decode cX9_tell 57 = .ok (.iastore, 1) := dGX9_108.2.2.1
theorem dX9_tell_58 : decode cX9_tell 58 = .ok (.aload_n 0, 1) := dGX9_108.2.2.2.1
theorem dX9_tell_59 : decode cX9_tell 59 = .ok (.getfield 52, 3) := dGX9_108.2.2.2.2.1
theorem dX9_tell_62 : decode cX9_tell 62 = .ok (.iconst 5, 1) := dGX9_108.2.2.2.2.2
theorem dGX9_109 : decode cX9_tell 63 = .ok (.aload_n 0, 1) ∧ decode cX9_tell 64 = .ok (.getfield 12, 3) ∧ decode cX9_tell 67 = .ok (.getfield 111, 3) ∧ decode cX9_tell 70 = .ok (.iload_n 2, 1) ∧ decode cX9_tell 71 = .ok (.iaload, 1) ∧ decode cX9_tell 72 = .ok (.iastore, 1) := by decide +kernel
theorem dX9_tell_63 : decode cX9_tell 63 = .ok (.aload_n 0, 1) := dGX9_109.1
theorem dX9_tell_64 : decode cX9_tell 64 = .ok (.getfield 12, 3) := dGX9_109.2.1
theorem dX9_tell_67 : decode cX9_tell 67 = .ok (.getfield 111, 3) := dGX9_109.2.2.1
theorem dX9_tell_70 : decode cX9_tell 70 = .ok (.iload_n 2, 1) := dGX9_109.2.2.2.1
theorem dX9_tell_71 : decode cX9_tell 71 = .ok (.iaload, 1) := dGX9_109.2.2.2.2.1
theorem dX9_tell_72 : decode cX9_tell 72 = .ok (.iastore, 1) := dGX9_109.2.2.2.2.2
theorem dGX9_110 : decode cX9_tell 73 = .ok (.aload_n 0, 1) ∧ decode cX9_tell 74 = .ok (.getfield 52, 3) ∧ decode cX9_tell 77 = .ok (.bipush 6, 2) ∧ decode cX9_tell 79 = .ok (.aload_n 0, 1) ∧ decode cX9_tell 80 = .ok (.getfield 12, 3) ∧ decode cX9_tell 83 = .ok (.getfield 159, 3) := by decide +kernel
theorem dX9_tell_73 : decode cX9_tell 73 = .ok (.aload_n 0, 1) := dGX9_110.1
theorem dX9_tell_74 : decode cX9_tell 74 = .ok (.getfield 52, 3) := dGX9_110.2.1
theorem dX9_tell_77 : decode cX9_tell 77 = .ok (.bipush 6, 2) := dGX9_110.2.2.1
theorem dX9_tell_79 : decode cX9_tell 79 = .ok (.aload_n 0, 1) := dGX9_110.2.2.2.1
theorem dX9_tell_80 : decode cX9_tell 80 = .ok (.getfield 12, 3) := dGX9_110.2.2.2.2.1
theorem dX9_tell_83 : decode cX9_tell 83 = .ok (.getfield 159, 3) := dGX9_110.2.2.2.2.2
theorem dGX9_111 : decode cX9_tell 86 = .ok (.iload_n 2, 1) ∧ decode cX9_tell 87 = .ok (.iaload, 1) ∧ decode cX9_tell 88 = .ok (.iastore, 1) ∧ decode cX9_tell 89 = .ok (.aload_n 0, 1) ∧ decode cX9_tell 90 = .ok (.getfield 52, 3) ∧ decode cX9_tell 93 = .ok (.bipush 7, 2) := by decide +kernel
theorem dX9_tell_86 : decode cX9_tell 86 = .ok (.iload_n 2, 1) := dGX9_111.1
theorem dX9_tell_87 : decode cX9_tell 87 = .ok (.iaload, 1) := dGX9_111.2.1
theorem dX9_tell_88 : decode cX9_tell 88 = .ok (.iastore, 1) := dGX9_111.2.2.1
theorem dX9_tell_89 : decode cX9_tell 89 = .ok (.aload_n 0, 1) := dGX9_111.2.2.2.1
theorem dX9_tell_90 : decode cX9_tell 90 = .ok (.getfield 52, 3) := dGX9_111.2.2.2.2.1
theorem dX9_tell_93 : decode cX9_tell 93 = .ok (.bipush 7, 2) := dGX9_111.2.2.2.2.2
theorem dGX9_112 : decode cX9_tell 95 = .ok (.aload_n 0, 1) ∧ decode cX9_tell 96 = .ok (.getfield 42, 3) ∧ decode cX9_tell 99 = .ok (.iastore, 1) ∧ decode cX9_tell 100 = .ok (.aload_n 0, 1) ∧ decode cX9_tell 101 = .ok (.getfield 52, 3) ∧ decode cX9_tell 104 = .ok (.bipush 8, 2) := by decide +kernel
theorem dX9_tell_95 : decode cX9_tell 95 = .ok (.aload_n 0, 1) := dGX9_112.1
theorem dX9_tell_96 : decode cX9_tell 96 = .ok (.getfield 42, 3) := dGX9_112.2.1
theorem dX9_tell_99 : decode cX9_tell 99 = .ok (.iastore, 1) := dGX9_112.2.2.1
theorem dX9_tell_100 : decode cX9_tell 100 = .ok (.aload_n 0, 1) := dGX9_112.2.2.2.1
theorem dX9_tell_101 : decode cX9_tell 101 = .ok (.getfield 52, 3) := dGX9_112.2.2.2.2.1
theorem dX9_tell_104 : decode cX9_tell 104 = .ok (.bipush 8, 2) := dGX9_112.2.2.2.2.2
theorem dGX9_113 : decode cX9_tell 106 = .ok (.iload_n 3, 1) ∧ decode cX9_tell 107 = .ok (.iastore, 1) ∧ decode cX9_tell 108 = .ok (.aload_n 0, 1) ∧ decode cX9_tell 109 = .ok (.getfield 52, 3) ∧ decode cX9_tell 112 = .ok (.bipush 9, 2) ∧ decode cX9_tell 114 = .ok (.iconst 0, 1) := by decide +kernel
theorem dX9_tell_106 : decode cX9_tell 106 = .ok (.iload_n 3, 1) := dGX9_113.1
theorem dX9_tell_107 : decode cX9_tell 107 = .ok (.iastore, 1) := dGX9_113.2.1
theorem dX9_tell_108 : decode cX9_tell 108 = .ok (.aload_n 0, 1) := dGX9_113.2.2.1
theorem dX9_tell_109 : decode cX9_tell 109 = .ok (.getfield 52, 3) := dGX9_113.2.2.2.1
theorem dX9_tell_112 : decode cX9_tell 112 = .ok (.bipush 9, 2) := dGX9_113.2.2.2.2.1
theorem dX9_tell_114 : decode cX9_tell 114 = .ok (.iconst 0, 1) := dGX9_113.2.2.2.2.2
theorem dGX9_114 : decode cX9_tell 115 = .ok (.iastore, 1) ∧ decode cX9_tell 116 = .ok (.aload_n 0, 1) ∧ decode cX9_tell 117 = .ok (.getfield 52, 3) ∧ decode cX9_tell 120 = .ok (.bipush 10, 2) ∧ decode cX9_tell 122 = .ok (.iconst 0, 1) ∧ decode cX9_tell 123 = .ok (.iastore, 1) := by decide +kernel
theorem dX9_tell_115 : decode cX9_tell 115 = .ok (.iastore, 1) := dGX9_114.1
theorem dX9_tell_116 : decode cX9_tell 116 = .ok (.aload_n 0, 1) := dGX9_114.2.1
theorem dX9_tell_117 : decode cX9_tell 117 = .ok (.getfield 52, 3) := dGX9_114.2.2.1
theorem dX9_tell_120 : decode cX9_tell 120 = .ok (.bipush 10, 2) := dGX9_114.2.2.2.1
theorem dX9_tell_122 : decode cX9_tell 122 = .ok (.iconst 0, 1) := dGX9_114.2.2.2.2.1
theorem dX9_tell_123 : decode cX9_tell 123 = .ok (.iastore, 1) := dGX9_114.2.2.2.2.2
theorem dGX9_115 : decode cX9_tell 124 = .ok (.aload_n 0, 1) ∧ decode cX9_tell 125 = .ok (.getfield 52, 3) ∧ decode cX9_tell 128 = .ok (.bipush 11, 2) ∧ decode cX9_tell 130 = .ok (.iconst 0, 1) ∧ decode cX9_tell 131 = .ok (.iastore, 1) ∧ decode cX9_tell 132 = .ok (.return_, 1) := by decide +kernel
theorem dX9_tell_124 : decode cX9_tell 124 = .ok (.aload_n 0, 1) := dGX9_115.1
theorem dX9_tell_125 : decode cX9_tell 125 = .ok (.getfield 52, 3) := dGX9_115.2.1
theorem dX9_tell_128 : decode cX9_tell 128 = .ok (.bipush 11, 2) := dGX9_115.2.2.1
theorem dX9_tell_130 : decode cX9_tell 130 = .ok (.iconst 0, 1) := dGX9_115.2.2.2.1
theorem dX9_tell_131 : decode cX9_tell 131 = .ok (.iastore, 1) := dGX9_115.2.2.2.2.1
theorem dX9_tell_132 : decode cX9_tell 132 = .ok (.return_, 1) := dGX9_115.2.2.2.2.2
theorem dGX9_116 : decode cX9_tellMaster 0 = .ok (.aload_n 0, 1) ∧ decode cX9_tellMaster 1 = .ok (.getfield 52, 3) ∧ decode cX9_tellMaster 4 = .ok (.iconst 2, 1) ∧ decode cX9_tellMaster 5 = .ok (.aload_n 0, 1) ∧ decode cX9_tellMaster 6 = .ok (.getfield 21, 3) ∧ decode cX9_tellMaster 9 = .ok (.getfield 147, 3) := by decide +kernel
theorem dX9_tellMaster_0 : decode cX9_tellMaster 0 = .ok (.aload_n 0, 1) := dGX9_116.1
theorem dX9_tellMaster_1 : decode cX9_tellMaster 1 = .ok (.getfield 52, 3) := dGX9_116.2.1
theorem dX9_tellMaster_4 : decode cX9_tellMaster 4 = .ok (.iconst 2, 1) := dGX9_116.2.2.1
theorem dX9_tellMaster_5 : decode cX9_tellMaster 5 = .ok (.aload_n 0, 1) := dGX9_116.2.2.2.1
theorem dX9_tellMaster_6 : decode cX9_tellMaster 6 = .ok (.getfield 21, 3) := dGX9_116.2.2.2.2.1
theorem dX9_tellMaster_9 : decode cX9_tellMaster 9 = .ok (.getfield 147, 3) := dGX9_116.2.2.2.2.2
theorem dGX9_117 : decode cX9_tellMaster 12 = .ok (.iload_n 1, 1) ∧ decode cX9_tellMaster 13 = .ok (.iconst 5, 1) ∧ decode cX9_tellMaster 14 = .ok (.imul, 1) ∧ decode cX9_tellMaster 15 = .ok (.aload_n 0, 1) ∧ decode cX9_tellMaster 16 = .ok (.getfield 28, 3) ∧ decode cX9_tellMaster 19 = .ok (.getfield 144, 3) := by decide +kernel
theorem dX9_tellMaster_12 : decode cX9_tellMaster 12 = .ok (.iload_n 1, 1) := dGX9_117.1
theorem dX9_tellMaster_13 : decode cX9_tellMaster 13 = .ok (.iconst 5, 1) := dGX9_117.2.1
theorem dX9_tellMaster_14 : decode cX9_tellMaster 14 = .ok (.imul, 1) := dGX9_117.2.2.1
theorem dX9_tellMaster_15 : decode cX9_tellMaster 15 = .ok (.aload_n 0, 1) := dGX9_117.2.2.2.1
theorem dX9_tellMaster_16 : decode cX9_tellMaster 16 = .ok (.getfield 28, 3) := dGX9_117.2.2.2.2.1
theorem dX9_tellMaster_19 : decode cX9_tellMaster 19 = .ok (.getfield 144, 3) := dGX9_117.2.2.2.2.2
theorem dGX9_118 : decode cX9_tellMaster 22 = .ok (.iload_n 2, 1) ∧ decode cX9_tellMaster 23 = .ok (.iaload, 1) ∧ decode cX9_tellMaster 24 = .ok (.iadd, 1) ∧ decode cX9_tellMaster 25 = .ok (.iaload, 1) ∧ decode cX9_tellMaster 26 = .ok (.iastore, 1) ∧ decode cX9_tellMaster 27 = .ok (.aload_n 0, 1) := by decide +kernel
theorem dX9_tellMaster_22 : decode cX9_tellMaster 22 = .ok (.iload_n 2, 1) := dGX9_118.1
theorem dX9_tellMaster_23 : decode cX9_tellMaster 23 = .ok (.iaload, 1) := dGX9_118.2.1
theorem dX9_tellMaster_24 : decode cX9_tellMaster 24 = .ok (.iadd, 1) := dGX9_118.2.2.1
theorem dX9_tellMaster_25 : decode cX9_tellMaster 25 = .ok (.iaload, 1) := dGX9_118.2.2.2.1
theorem dX9_tellMaster_26 : decode cX9_tellMaster 26 = .ok (.iastore, 1) := dGX9_118.2.2.2.2.1
theorem dX9_tellMaster_27 : decode cX9_tellMaster 27 = .ok (.aload_n 0, 1) := dGX9_118.2.2.2.2.2
theorem dGX9_119 : decode cX9_tellMaster 28 = .ok (.getfield 52, 3) ∧ decode cX9_tellMaster 31 = .ok (.bipush 9, 2) ∧ decode cX9_tellMaster 33 = .ok (.iload_n 2, 1) ∧ decode cX9_tellMaster 34 = .ok (.iastore, 1) ∧ decode cX9_tellMaster 35 = .ok (.aload_n 0, 1) ∧ decode cX9_tellMaster 36 = .ok (.getfield 52, 3) := by decide +kernel
theorem dX9_tellMaster_28 : decode cX9_tellMaster 28 = .ok (.getfield 52, 3) := dGX9_119.1
theorem dX9_tellMaster_31 : decode cX9_tellMaster 31 = .ok (.bipush 9, 2) := dGX9_119.2.1
theorem dX9_tellMaster_33 : decode cX9_tellMaster 33 = .ok (.iload_n 2, 1) := dGX9_119.2.2.1
theorem dX9_tellMaster_34 : decode cX9_tellMaster 34 = .ok (.iastore, 1) := dGX9_119.2.2.2.1
theorem dX9_tellMaster_35 : decode cX9_tellMaster 35 = .ok (.aload_n 0, 1) := dGX9_119.2.2.2.2.1
theorem dX9_tellMaster_36 : decode cX9_tellMaster 36 = .ok (.getfield 52, 3) := dGX9_119.2.2.2.2.2
theorem dGX9_120 : decode cX9_tellMaster 39 = .ok (.bipush 10, 2) ∧ decode cX9_tellMaster 41 = .ok (.aload_n 0, 1) ∧ decode cX9_tellMaster 42 = .ok (.getfield 28, 3) ∧ decode cX9_tellMaster 45 = .ok (.getfield 144, 3) ∧ decode cX9_tellMaster 48 = .ok (.iload_n 2, 1) ∧ decode cX9_tellMaster 49 = .ok (.iaload, 1) := by decide +kernel
theorem dX9_tellMaster_39 : decode cX9_tellMaster 39 = .ok (.bipush 10, 2) := dGX9_120.1
theorem dX9_tellMaster_41 : decode cX9_tellMaster 41 = .ok (.aload_n 0, 1) := dGX9_120.2.1
theorem dX9_tellMaster_42 : decode cX9_tellMaster 42 = .ok (.getfield 28, 3) := dGX9_120.2.2.1
theorem dX9_tellMaster_45 : decode cX9_tellMaster 45 = .ok (.getfield 144, 3) := dGX9_120.2.2.2.1
theorem dX9_tellMaster_48 : decode cX9_tellMaster 48 = .ok (.iload_n 2, 1) := dGX9_120.2.2.2.2.1
theorem dX9_tellMaster_49 : decode cX9_tellMaster 49 = .ok (.iaload, 1) := dGX9_120.2.2.2.2.2
theorem dGX9_121 : decode cX9_tellMaster 50 = .ok (.iastore, 1) ∧ decode cX9_tellMaster 51 = .ok (.aload_n 0, 1) ∧ decode cX9_tellMaster 52 = .ok (.getfield 52, 3) ∧ decode cX9_tellMaster 55 = .ok (.bipush 11, 2) ∧ decode cX9_tellMaster 57 = .ok (.aload_n 0, 1) ∧ decode cX9_tellMaster 58 = .ok (.getfield 28, 3) := by decide +kernel
theorem dX9_tellMaster_50 : decode cX9_tellMaster 50 = .ok (.iastore, 1) := dGX9_121.1
theorem dX9_tellMaster_51 : decode cX9_tellMaster 51 = .ok (.aload_n 0, 1) := dGX9_121.2.1
theorem dX9_tellMaster_52 : decode cX9_tellMaster 52 = .ok (.getfield 52, 3) := dGX9_121.2.2.1
theorem dX9_tellMaster_55 : decode cX9_tellMaster 55 = .ok (.bipush 11, 2) := dGX9_121.2.2.2.1
theorem dX9_tellMaster_57 : decode cX9_tellMaster 57 = .ok (.aload_n 0, 1) := dGX9_121.2.2.2.2.1
theorem dX9_tellMaster_58 : decode cX9_tellMaster 58 = .ok (.getfield 28, 3) := dGX9_121.2.2.2.2.2
theorem dGX9_122 : decode cX9_tellMaster 61 = .ok (.getfield 150, 3) ∧ decode cX9_tellMaster 64 = .ok (.iload_n 2, 1) ∧ decode cX9_tellMaster 65 = .ok (.iaload, 1) ∧ decode cX9_tellMaster 66 = .ok (.iastore, 1) ∧ decode cX9_tellMaster 67 = .ok (.return_, 1) := by decide +kernel
theorem dX9_tellMaster_61 : decode cX9_tellMaster 61 = .ok (.getfield 150, 3) := dGX9_122.1
theorem dX9_tellMaster_64 : decode cX9_tellMaster 64 = .ok (.iload_n 2, 1) := dGX9_122.2.1
theorem dX9_tellMaster_65 : decode cX9_tellMaster 65 = .ok (.iaload, 1) := dGX9_122.2.2.1
theorem dX9_tellMaster_66 : decode cX9_tellMaster 66 = .ok (.iastore, 1) := dGX9_122.2.2.2.1
theorem dX9_tellMaster_67 : decode cX9_tellMaster 67 = .ok (.return_, 1) := dGX9_122.2.2.2.2
theorem dGX10_0 : decode cX10_init 0 = .ok (.aload_n 0, 1) ∧ decode cX10_init 1 = .ok (.invokespecial 3, 3) ∧ decode cX10_init 4 = .ok (.aload_n 0, 1) ∧ decode cX10_init 5 = .ok (.iconst 0, 1) ∧ decode cX10_init 6 = .ok (.putfield 9, 3) ∧ decode cX10_init 9 = .ok (.aload_n 0, 1) := by decide +kernel
theorem dX10_init_0 : decode cX10_init 0 = .ok (.aload_n 0, 1) := dGX10_0.1
theorem dX10_init_1 : decode cX10_init 1 = .ok (.invokespecial 3, 3) := dGX10_0.2.1
theorem dX10_init_4 : decode cX10_init 4 = .ok (.aload_n 0, 1) := dGX10_0.2.2.1
theorem dX10_init_5 : decode cX10_init 5 = .ok (.iconst 0, 1) := dGX10_0.2.2.2.1
theorem dX10_init_6 : decode cX10_init 6 = .ok (.putfield 9, 3) := dGX10_0.2.2.2.2.1
theorem dX10_init_9 : decode cX10_init 9 = .ok (.aload_n 0, 1) := dGX10_0.2.2.2.2.2
theorem dGX10_1 : decode cX10_init 10 = .ok (.sipush 220, 3) ∧ decode cX10_init 13 = .ok (.newarray .int, 2) ∧ decode cX10_init 15 = .ok (.putfield 15, 3) ∧ decode cX10_init 18 = .ok (.return_, 1) ∧ decode cX10_append 0 = .ok (.bipush 24, 2) ∧ decode cX10_append 2 = .ok (.istore_n 2, 1) := by decide +kernel
theorem dX10_init_10 : decode cX10_init 10 = .ok (.sipush 220, 3) := dGX10_1.1
theorem dX10_init_13 : decode cX10_init 13 = .ok (.newarray .int, 2) := dGX10_1.2.1
theorem dX10_init_15 : decode cX10_init 15 = .ok (.putfield 15, 3) := dGX10_1.2.2.1
theorem dX10_init_18 : decode cX10_init 18 = .ok (.return_, 1) := dGX10_1.2.2.2.1
theorem dX10_append_0 : decode cX10_append 0 = .ok (.bipush 24, 2) := dGX10_1.2.2.2.2.1
theorem dX10_append_2 : decode cX10_append 2 = .ok (.istore_n 2, 1) := dGX10_1.2.2.2.2.2
theorem dGX10_2 : decode cX10_append 3 = .ok (.iload_n 2, 1) ∧ decode cX10_append 4 = .ok (.ifCond .lt 45, 3) ∧ decode cX10_append 7 = .ok (.aload_n 0, 1) ∧ decode cX10_append 8 = .ok (.getfield 9, 3) ∧ decode cX10_append 11 = .ok (.sipush 220, 3) ∧ decode cX10_append 14 = .ok (.if_icmp .ge 35, 3) := by decide +kernel
theorem dX10_append_3 : decode cX10_append 3 = .ok (.iload_n 2, 1) := dGX10_2.1
theorem dX10_append_4 : decode cX10_append 4 = .ok (.ifCond .lt 45, 3) := dGX10_2.2.1
theorem dX10_append_7 : decode cX10_append 7 = .ok (.aload_n 0, 1) := dGX10_2.2.2.1
theorem dX10_append_8 : decode cX10_append 8 = .ok (.getfield 9, 3) := dGX10_2.2.2.2.1
theorem dX10_append_11 : decode cX10_append 11 = .ok (.sipush 220, 3) := dGX10_2.2.2.2.2.1
theorem dX10_append_14 : decode cX10_append 14 = .ok (.if_icmp .ge 35, 3) := dGX10_2.2.2.2.2.2
theorem dGX10_3 : decode cX10_append 17 = .ok (.aload_n 0, 1) ∧ decode cX10_append 18 = .ok (.getfield 15, 3) ∧ decode cX10_append 21 = .ok (.aload_n 0, 1) ∧ decode cX10_append 22 = .ok (.getfield 9, 3) ∧ decode cX10_append 25 = .ok (.iload_n 1, 1) ∧ decode cX10_append 26 = .ok (.iload_n 2, 1) := by decide +kernel
theorem dX10_append_17 : decode cX10_append 17 = .ok (.aload_n 0, 1) := dGX10_3.1
theorem dX10_append_18 : decode cX10_append 18 = .ok (.getfield 15, 3) := dGX10_3.2.1
theorem dX10_append_21 : decode cX10_append 21 = .ok (.aload_n 0, 1) := dGX10_3.2.2.1
theorem dX10_append_22 : decode cX10_append 22 = .ok (.getfield 9, 3) := dGX10_3.2.2.2.1
theorem dX10_append_25 : decode cX10_append 25 = .ok (.iload_n 1, 1) := dGX10_3.2.2.2.2.1
theorem dX10_append_26 : decode cX10_append 26 = .ok (.iload_n 2, 1) := dGX10_3.2.2.2.2.2
theorem dGX10_4 : decode cX10_append 27 = .ok (.ishr, 1) ∧ decode cX10_append 28 = .ok (.sipush 255, 3) ∧ decode cX10_append 31 = .ok (.iand, 1) ∧ decode cX10_append 32 = .ok (.iastore, 1) ∧ decode cX10_append 33 = .ok (.aload_n 0, 1) ∧ decode cX10_append 34 = .ok (.dup, 1) := by decide +kernel
theorem dX10_append_27 : decode cX10_append 27 = .ok (.ishr, 1) := dGX10_4.1
theorem dX10_append_28 : decode cX10_append 28 = .ok (.sipush 255, 3) := dGX10_4.2.1
theorem dX10_append_31 : decode cX10_append 31 = .ok (.iand, 1) := dGX10_4.2.2.1
theorem dX10_append_32 : decode cX10_append 32 = .ok (.iastore, 1) := dGX10_4.2.2.2.1
theorem dX10_append_33 : decode cX10_append 33 = .ok (.aload_n 0, 1) := dGX10_4.2.2.2.2.1
theorem dX10_append_34 : decode cX10_append 34 = .ok (.dup, 1) := dGX10_4.2.2.2.2.2
theorem dGX10_5 : decode cX10_append 35 = .ok (.getfield 9, 3) ∧ decode cX10_append 38 = .ok (.iconst 1, 1) ∧ decode cX10_append 39 = .ok (.iadd, 1) ∧ decode cX10_append 40 = .ok (.putfield 9, 3) ∧ decode cX10_append 43 = .ok (.iinc 2 (-8), 3) ∧ decode cX10_append 46 = .ok (.goto (-43), 3) := by decide +kernel
theorem dX10_append_35 : decode cX10_append 35 = .ok (.getfield 9, 3) := dGX10_5.1
theorem dX10_append_38 : decode cX10_append 38 = .ok (.iconst 1, 1) := dGX10_5.2.1
theorem dX10_append_39 : decode cX10_append 39 = .ok (.iadd, 1) := dGX10_5.2.2.1
theorem dX10_append_40 : decode cX10_append 40 = .ok (.putfield 9, 3) := dGX10_5.2.2.2.1
theorem dX10_append_43 : decode cX10_append 43 = .ok (.iinc 2 (-8), 3) := dGX10_5.2.2.2.2.1
theorem dX10_append_46 : decode cX10_append 46 = .ok (.goto (-43), 3) := dGX10_5.2.2.2.2.2
theorem dGX10_6 : decode cX10_append 49 = .ok (.return_, 1) ∧ decode cX10_byteAt 0 = .ok (.iload_n 1, 1) ∧ decode cX10_byteAt 1 = .ok (.ifCond .lt 19, 3) ∧ decode cX10_byteAt 4 = .ok (.iload_n 1, 1) ∧ decode cX10_byteAt 5 = .ok (.sipush 220, 3) ∧ decode cX10_byteAt 8 = .ok (.if_icmp .ge 12, 3) := by decide +kernel
theorem dX10_append_49 : decode cX10_append 49 = .ok (.return_, 1) := dGX10_6.1
theorem dX10_byteAt_0 : decode cX10_byteAt 0 = .ok (.iload_n 1, 1) := dGX10_6.2.1
theorem dX10_byteAt_1 : decode cX10_byteAt 1 = .ok (.ifCond .lt 19, 3) := dGX10_6.2.2.1
theorem dX10_byteAt_4 : decode cX10_byteAt 4 = .ok (.iload_n 1, 1) := dGX10_6.2.2.2.1
theorem dX10_byteAt_5 : decode cX10_byteAt 5 = .ok (.sipush 220, 3) := dGX10_6.2.2.2.2.1
theorem dX10_byteAt_8 : decode cX10_byteAt 8 = .ok (.if_icmp .ge 12, 3) := dGX10_6.2.2.2.2.2
theorem dGX10_7 : decode cX10_byteAt 11 = .ok (.aload_n 0, 1) ∧ decode cX10_byteAt 12 = .ok (.getfield 15, 3) ∧ decode cX10_byteAt 15 = .ok (.iload_n 1, 1) ∧ decode cX10_byteAt 16 = .ok (.iaload, 1) ∧ decode cX10_byteAt 17 = .ok (.goto 4, 3) ∧ decode cX10_byteAt 20 = .ok (.iconst 0, 1) := by decide +kernel
theorem dX10_byteAt_11 : decode cX10_byteAt 11 = .ok (.aload_n 0, 1) := dGX10_7.1
theorem dX10_byteAt_12 : decode cX10_byteAt 12 = .ok (.getfield 15, 3) := dGX10_7.2.1
theorem dX10_byteAt_15 : decode cX10_byteAt 15 = .ok (.iload_n 1, 1) := dGX10_7.2.2.1
theorem dX10_byteAt_16 : decode cX10_byteAt 16 = .ok (.iaload, 1) := dGX10_7.2.2.2.1
theorem dX10_byteAt_17 : decode cX10_byteAt 17 = .ok (.goto 4, 3) := dGX10_7.2.2.2.2.1
theorem dX10_byteAt_20 : decode cX10_byteAt 20 = .ok (.iconst 0, 1) := dGX10_7.2.2.2.2.2
theorem dGX10_8 : decode cX10_byteAt 21 = .ok (.ireturn, 1) ∧ decode cX10_numberAt 0 = .ok (.iconst 0, 1) ∧ decode cX10_numberAt 1 = .ok (.istore_n 2, 1) ∧ decode cX10_numberAt 2 = .ok (.iconst 0, 1) ∧ decode cX10_numberAt 3 = .ok (.istore_n 3, 1) ∧ decode cX10_numberAt 4 = .ok (.iload_n 3, 1) := by decide +kernel
theorem dX10_byteAt_21 : decode cX10_byteAt 21 = .ok (.ireturn, 1) := dGX10_8.1
theorem dX10_numberAt_0 : decode cX10_numberAt 0 = .ok (.iconst 0, 1) := dGX10_8.2.1
theorem dX10_numberAt_1 : decode cX10_numberAt 1 = .ok (.istore_n 2, 1) := dGX10_8.2.2.1
theorem dX10_numberAt_2 : decode cX10_numberAt 2 = .ok (.iconst 0, 1) := dGX10_8.2.2.2.1
theorem dX10_numberAt_3 : decode cX10_numberAt 3 = .ok (.istore_n 3, 1) := dGX10_8.2.2.2.2.1
theorem dX10_numberAt_4 : decode cX10_numberAt 4 = .ok (.iload_n 3, 1) := dGX10_8.2.2.2.2.2
theorem dGX10_9 : decode cX10_numberAt 5 = .ok (.iconst 4, 1) ∧ decode cX10_numberAt 6 = .ok (.if_icmp .ge 22, 3) ∧ decode cX10_numberAt 9 = .ok (.iload_n 2, 1) ∧ decode cX10_numberAt 10 = .ok (.bipush 8, 2) ∧ decode cX10_numberAt 12 = .ok (.ishl, 1) ∧ decode cX10_numberAt 13 = .ok (.aload_n 0, 1) := by decide +kernel
theorem dX10_numberAt_5 : decode cX10_numberAt 5 = .ok (.iconst 4, 1) := dGX10_9.1
theorem dX10_numberAt_6 : decode cX10_numberAt 6 = .ok (.if_icmp .ge 22, 3) := dGX10_9.2.1
theorem dX10_numberAt_9 : decode cX10_numberAt 9 = .ok (.iload_n 2, 1) := dGX10_9.2.2.1
theorem dX10_numberAt_10 : decode cX10_numberAt 10 = .ok (.bipush 8, 2) := dGX10_9.2.2.2.1
theorem dX10_numberAt_12 : decode cX10_numberAt 12 = .ok (.ishl, 1) := dGX10_9.2.2.2.2.1
theorem dX10_numberAt_13 : decode cX10_numberAt 13 = .ok (.aload_n 0, 1) := dGX10_9.2.2.2.2.2
theorem dGX10_10 : decode cX10_numberAt 14 = .ok (.iload_n 1, 1) ∧ decode cX10_numberAt 15 = .ok (.iload_n 3, 1) ∧ decode cX10_numberAt 16 = .ok (.iadd, 1) ∧ decode cX10_numberAt 17 = .ok (.invokevirtual 19, 3) ∧ decode cX10_numberAt 20 = .ok (.ior, 1) ∧ decode cX10_numberAt 21 = .ok (.istore_n 2, 1) := by decide +kernel
theorem dX10_numberAt_14 : decode cX10_numberAt 14 = .ok (.iload_n 1, 1) := dGX10_10.1
theorem dX10_numberAt_15 : decode cX10_numberAt 15 = .ok (.iload_n 3, 1) := dGX10_10.2.1
theorem dX10_numberAt_16 : decode cX10_numberAt 16 = .ok (.iadd, 1) := dGX10_10.2.2.1
theorem dX10_numberAt_17 : decode cX10_numberAt 17 = .ok (.invokevirtual 19, 3) := dGX10_10.2.2.2.1
theorem dX10_numberAt_20 : decode cX10_numberAt 20 = .ok (.ior, 1) := dGX10_10.2.2.2.2.1
theorem dX10_numberAt_21 : decode cX10_numberAt 21 = .ok (.istore_n 2, 1) := dGX10_10.2.2.2.2.2
theorem dGX10_11 : decode cX10_numberAt 22 = .ok (.iinc 3 1, 3) ∧ decode cX10_numberAt 25 = .ok (.goto (-21), 3) ∧ decode cX10_numberAt 28 = .ok (.iload_n 2, 1) ∧ decode cX10_numberAt 29 = .ok (.ireturn, 1) ∧ decode cX10_copyFrom 0 = .ok (.aload_n 0, 1) ∧ decode cX10_copyFrom 1 = .ok (.aload_n 1, 1) := by decide +kernel
theorem dX10_numberAt_22 : decode cX10_numberAt 22 = .ok (.iinc 3 1, 3) := dGX10_11.1
theorem dX10_numberAt_25 : decode cX10_numberAt 25 = .ok (.goto (-21), 3) := dGX10_11.2.1
theorem dX10_numberAt_28 : decode cX10_numberAt 28 = .ok (.iload_n 2, 1) := dGX10_11.2.2.1
theorem dX10_numberAt_29 : decode cX10_numberAt 29 = .ok (.ireturn, 1) := dGX10_11.2.2.2.1
theorem dX10_copyFrom_0 : decode cX10_copyFrom 0 = .ok (.aload_n 0, 1) := dGX10_11.2.2.2.2.1
theorem dX10_copyFrom_1 : decode cX10_copyFrom 1 = .ok (.aload_n 1, 1) := dGX10_11.2.2.2.2.2
theorem dGX10_12 : decode cX10_copyFrom 2 = .ok (.getfield 9, 3) ∧ decode cX10_copyFrom 5 = .ok (.putfield 9, 3) ∧ decode cX10_copyFrom 8 = .ok (.aload_n 1, 1) ∧ decode cX10_copyFrom 9 = .ok (.getfield 15, 3) ∧ decode cX10_copyFrom 12 = .ok (.iconst 0, 1) ∧ decode cX10_copyFrom 13 = .ok (.aload_n 0, 1) := by decide +kernel
theorem dX10_copyFrom_2 : decode cX10_copyFrom 2 = .ok (.getfield 9, 3) := dGX10_12.1
theorem dX10_copyFrom_5 : decode cX10_copyFrom 5 = .ok (.putfield 9, 3) := dGX10_12.2.1
theorem dX10_copyFrom_8 : decode cX10_copyFrom 8 = .ok (.aload_n 1, 1) := dGX10_12.2.2.1
theorem dX10_copyFrom_9 : decode cX10_copyFrom 9 = .ok (.getfield 15, 3) := dGX10_12.2.2.2.1
theorem dX10_copyFrom_12 : decode cX10_copyFrom 12 = .ok (.iconst 0, 1) := dGX10_12.2.2.2.2.1
theorem dX10_copyFrom_13 : decode cX10_copyFrom 13 = .ok (.aload_n 0, 1) := dGX10_12.2.2.2.2.2
theorem dGX10_13 : decode cX10_copyFrom 14 = .ok (.getfield 15, 3) ∧ decode cX10_copyFrom 17 = .ok (.iconst 0, 1) ∧ decode cX10_copyFrom 18 = .ok (.sipush 220, 3) ∧ decode cX10_copyFrom 21 = .ok (.invokestatic 23, 3) ∧ decode cX10_copyFrom 24 = .ok (.return_, 1) := by decide +kernel
theorem dX10_copyFrom_14 : decode cX10_copyFrom 14 = .ok (.getfield 15, 3) := dGX10_13.1
theorem dX10_copyFrom_17 : decode cX10_copyFrom 17 = .ok (.iconst 0, 1) := dGX10_13.2.1
theorem dX10_copyFrom_18 : decode cX10_copyFrom 18 = .ok (.sipush 220, 3) := dGX10_13.2.2.1
theorem dX10_copyFrom_21 : decode cX10_copyFrom 21 = .ok (.invokestatic 23, 3) := dGX10_13.2.2.2.1
theorem dX10_copyFrom_24 : decode cX10_copyFrom 24 = .ok (.return_, 1) := dGX10_13.2.2.2.2
