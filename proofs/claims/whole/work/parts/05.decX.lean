theorem dX0_init_0 : decode cX0_init 0 = .ok (.aload_n 0, 1) := by decide +kernel
theorem dX0_init_1 : decode cX0_init 1 = .ok (.invokespecial 3, 3) := by decide +kernel
theorem dX0_init_4 : decode cX0_init 4 = .ok (.aload_n 0, 1) := by decide +kernel
theorem dX0_init_5 : decode cX0_init 5 = .ok (.bipush 12, 2) := by decide +kernel
theorem dX0_init_7 : decode cX0_init 7 = .ok (.newarray .int, 2) := by decide +kernel
theorem dX0_init_9 : decode cX0_init 9 = .ok (.putfield 9, 3) := by decide +kernel
theorem dX0_init_12 : decode cX0_init 12 = .ok (.aload_n 0, 1) := by decide +kernel
theorem dX0_init_13 : decode cX0_init 13 = .ok (.new 15, 3) := by decide +kernel
theorem dX0_init_16 : decode cX0_init 16 = .ok (.dup, 1) := by decide +kernel
theorem dX0_init_17 : decode cX0_init 17 = .ok (.invokespecial 17, 3) := by decide +kernel
theorem dX0_init_20 : decode cX0_init 20 = .ok (.putfield 18, 3) := by decide +kernel
theorem dX0_init_23 : decode cX0_init 23 = .ok (.return_, 1) := by decide +kernel
theorem dX0_takeLeafProof_0 : decode cX0_takeLeafProof 0 = .ok (.aload_n 0, 1) := by decide +kernel
theorem dX0_takeLeafProof_1 : decode cX0_takeLeafProof 1 = .ok (.getfield 18, 3) := by decide +kernel
theorem dX0_takeLeafProof_4 : decode cX0_takeLeafProof 4 = .ok (.iload_n 2, 1) := by decide +kernel
theorem dX0_takeLeafProof_5 : decode cX0_takeLeafProof 5 = .ok (.iload_n 3, 1) := by decide +kernel
theorem dX0_takeLeafProof_6 : decode cX0_takeLeafProof 6 = .ok (.invokevirtual 22, 3) := by decide +kernel
theorem dX0_takeLeafProof_9 : decode cX0_takeLeafProof 9 = .ok (.aload_n 0, 1) := by decide +kernel
theorem dX0_takeLeafProof_10 : decode cX0_takeLeafProof 10 = .ok (.aload_n 1, 1) := by decide +kernel
theorem dX0_takeLeafProof_11 : decode cX0_takeLeafProof 11 = .ok (.invokevirtual 26, 3) := by decide +kernel
theorem dX0_takeLeafProof_14 : decode cX0_takeLeafProof 14 = .ok (.return_, 1) := by decide +kernel
theorem dX0_takeGrowthProof_0 : decode cX0_takeGrowthProof 0 = .ok (.aload_n 0, 1) := by decide +kernel
theorem dX0_takeGrowthProof_1 : decode cX0_takeGrowthProof 1 = .ok (.getfield 18, 3) := by decide +kernel
theorem dX0_takeGrowthProof_4 : decode cX0_takeGrowthProof 4 = .ok (.iload_n 2, 1) := by decide +kernel
theorem dX0_takeGrowthProof_5 : decode cX0_takeGrowthProof 5 = .ok (.iload_n 3, 1) := by decide +kernel
theorem dX0_takeGrowthProof_6 : decode cX0_takeGrowthProof 6 = .ok (.invokevirtual 30, 3) := by decide +kernel
theorem dX0_takeGrowthProof_9 : decode cX0_takeGrowthProof 9 = .ok (.aload_n 0, 1) := by decide +kernel
theorem dX0_takeGrowthProof_10 : decode cX0_takeGrowthProof 10 = .ok (.aload_n 1, 1) := by decide +kernel
theorem dX0_takeGrowthProof_11 : decode cX0_takeGrowthProof 11 = .ok (.invokevirtual 26, 3) := by decide +kernel
theorem dX0_takeGrowthProof_14 : decode cX0_takeGrowthProof 14 = .ok (.return_, 1) := by decide +kernel
theorem dX0_takeRoots_0 : decode cX0_takeRoots 0 = .ok (.aload_n 0, 1) := by decide +kernel
theorem dX0_takeRoots_1 : decode cX0_takeRoots 1 = .ok (.aload_n 0, 1) := by decide +kernel
theorem dX0_takeRoots_2 : decode cX0_takeRoots 2 = .ok (.getfield 18, 3) := by decide +kernel
theorem dX0_takeRoots_5 : decode cX0_takeRoots 5 = .ok (.getfield 33, 3) := by decide +kernel
theorem dX0_takeRoots_8 : decode cX0_takeRoots 8 = .ok (.putfield 37, 3) := by decide +kernel
theorem dX0_takeRoots_11 : decode cX0_takeRoots 11 = .ok (.iconst 0, 1) := by decide +kernel
theorem dX0_takeRoots_12 : decode cX0_takeRoots 12 = .ok (.istore_n 2, 1) := by decide +kernel
theorem dX0_takeRoots_13 : decode cX0_takeRoots 13 = .ok (.iload_n 2, 1) := by decide +kernel
theorem dX0_takeRoots_14 : decode cX0_takeRoots 14 = .ok (.aload_n 0, 1) := by decide +kernel
theorem dX0_takeRoots_15 : decode cX0_takeRoots 15 = .ok (.getfield 37, 3) := by decide +kernel
theorem dX0_takeRoots_18 : decode cX0_takeRoots 18 = .ok (.if_icmp .ge 33, 3) := by decide +kernel
theorem dX0_takeRoots_21 : decode cX0_takeRoots 21 = .ok (.iload_n 2, 1) := by decide +kernel
theorem dX0_takeRoots_22 : decode cX0_takeRoots 22 = .ok (.aload_n 0, 1) := by decide +kernel
theorem dX0_takeRoots_23 : decode cX0_takeRoots 23 = .ok (.getfield 9, 3) := by decide +kernel
theorem dX0_takeRoots_26 : decode cX0_takeRoots 26 = .ok (.arraylength, 1) := by decide +kernel
theorem dX0_takeRoots_27 : decode cX0_takeRoots 27 = .ok (.if_icmp .ge 24, 3) := by decide +kernel
theorem dX0_takeRoots_30 : decode cX0_takeRoots 30 = .ok (.aload_n 0, 1) := by decide +kernel
theorem dX0_takeRoots_31 : decode cX0_takeRoots 31 = .ok (.getfield 9, 3) := by decide +kernel
theorem dX0_takeRoots_34 : decode cX0_takeRoots 34 = .ok (.iload_n 2, 1) := by decide +kernel
theorem dX0_takeRoots_35 : decode cX0_takeRoots 35 = .ok (.aload_n 0, 1) := by decide +kernel
theorem dX0_takeRoots_36 : decode cX0_takeRoots 36 = .ok (.getfield 18, 3) := by decide +kernel
theorem dX0_takeRoots_39 : decode cX0_takeRoots 39 = .ok (.aload_n 1, 1) := by decide +kernel
theorem dX0_takeRoots_40 : decode cX0_takeRoots 40 = .ok (.iload_n 2, 1) := by decide +kernel
theorem dX0_takeRoots_41 : decode cX0_takeRoots 41 = .ok (.invokevirtual 40, 3) := by decide +kernel
theorem dX0_takeRoots_44 : decode cX0_takeRoots 44 = .ok (.iastore, 1) := by decide +kernel
theorem dX0_takeRoots_45 : decode cX0_takeRoots 45 = .ok (.iinc 2 1, 3) := by decide +kernel
theorem dX0_takeRoots_48 : decode cX0_takeRoots 48 = .ok (.goto (-35), 3) := by decide +kernel
theorem dX0_takeRoots_51 : decode cX0_takeRoots 51 = .ok (.return_, 1) := by decide +kernel
theorem dX0_takeKeyProof_0 : decode cX0_takeKeyProof 0 = .ok (.aload_n 0, 1) := by decide +kernel
theorem dX0_takeKeyProof_1 : decode cX0_takeKeyProof 1 = .ok (.bipush 6, 2) := by decide +kernel
theorem dX0_takeKeyProof_3 : decode cX0_takeKeyProof 3 = .ok (.putfield 37, 3) := by decide +kernel
theorem dX0_takeKeyProof_6 : decode cX0_takeKeyProof 6 = .ok (.iconst 0, 1) := by decide +kernel
theorem dX0_takeKeyProof_7 : decode cX0_takeKeyProof 7 = .ok (.istore_n 3, 1) := by decide +kernel
theorem dX0_takeKeyProof_8 : decode cX0_takeKeyProof 8 = .ok (.iload_n 3, 1) := by decide +kernel
theorem dX0_takeKeyProof_9 : decode cX0_takeKeyProof 9 = .ok (.bipush 6, 2) := by decide +kernel
theorem dX0_takeKeyProof_11 : decode cX0_takeKeyProof 11 = .ok (.if_icmp .ge 30, 3) := by decide +kernel
theorem dX0_takeKeyProof_14 : decode cX0_takeKeyProof 14 = .ok (.iload_n 3, 1) := by decide +kernel
theorem dX0_takeKeyProof_15 : decode cX0_takeKeyProof 15 = .ok (.aload_n 0, 1) := by decide +kernel
theorem dX0_takeKeyProof_16 : decode cX0_takeKeyProof 16 = .ok (.getfield 9, 3) := by decide +kernel
theorem dX0_takeKeyProof_19 : decode cX0_takeKeyProof 19 = .ok (.arraylength, 1) := by decide +kernel
theorem dX0_takeKeyProof_20 : decode cX0_takeKeyProof 20 = .ok (.if_icmp .ge 21, 3) := by decide +kernel
theorem dX0_takeKeyProof_23 : decode cX0_takeKeyProof 23 = .ok (.aload_n 0, 1) := by decide +kernel
theorem dX0_takeKeyProof_24 : decode cX0_takeKeyProof 24 = .ok (.getfield 9, 3) := by decide +kernel
theorem dX0_takeKeyProof_27 : decode cX0_takeKeyProof 27 = .ok (.iload_n 3, 1) := by decide +kernel
theorem dX0_takeKeyProof_28 : decode cX0_takeKeyProof 28 = .ok (.aload_n 1, 1) := by decide +kernel
theorem dX0_takeKeyProof_29 : decode cX0_takeKeyProof 29 = .ok (.iload_n 2, 1) := by decide +kernel
theorem dX0_takeKeyProof_30 : decode cX0_takeKeyProof 30 = .ok (.iload_n 3, 1) := by decide +kernel
theorem dX0_takeKeyProof_31 : decode cX0_takeKeyProof 31 = .ok (.invokevirtual 44, 3) := by decide +kernel
theorem dX0_takeKeyProof_34 : decode cX0_takeKeyProof 34 = .ok (.iastore, 1) := by decide +kernel
theorem dX0_takeKeyProof_35 : decode cX0_takeKeyProof 35 = .ok (.iinc 3 1, 3) := by decide +kernel
theorem dX0_takeKeyProof_38 : decode cX0_takeKeyProof 38 = .ok (.goto (-30), 3) := by decide +kernel
theorem dX0_takeKeyProof_41 : decode cX0_takeKeyProof 41 = .ok (.return_, 1) := by decide +kernel
theorem dX0_read_0 : decode cX0_read 0 = .ok (.iload_n 1, 1) := by decide +kernel
theorem dX0_read_1 : decode cX0_read 1 = .ok (.ifCond .lt 29, 3) := by decide +kernel
theorem dX0_read_4 : decode cX0_read 4 = .ok (.iload_n 1, 1) := by decide +kernel
theorem dX0_read_5 : decode cX0_read 5 = .ok (.aload_n 0, 1) := by decide +kernel
theorem dX0_read_6 : decode cX0_read 6 = .ok (.getfield 37, 3) := by decide +kernel
theorem dX0_read_9 : decode cX0_read 9 = .ok (.if_icmp .ge 21, 3) := by decide +kernel
theorem dX0_read_12 : decode cX0_read 12 = .ok (.iload_n 1, 1) := by decide +kernel
theorem dX0_read_13 : decode cX0_read 13 = .ok (.aload_n 0, 1) := by decide +kernel
theorem dX0_read_14 : decode cX0_read 14 = .ok (.getfield 9, 3) := by decide +kernel
theorem dX0_read_17 : decode cX0_read 17 = .ok (.arraylength, 1) := by decide +kernel
theorem dX0_read_18 : decode cX0_read 18 = .ok (.if_icmp .ge 12, 3) := by decide +kernel
theorem dX0_read_21 : decode cX0_read 21 = .ok (.aload_n 0, 1) := by decide +kernel
theorem dX0_read_22 : decode cX0_read 22 = .ok (.getfield 9, 3) := by decide +kernel
theorem dX0_read_25 : decode cX0_read 25 = .ok (.iload_n 1, 1) := by decide +kernel
theorem dX0_read_26 : decode cX0_read 26 = .ok (.iaload, 1) := by decide +kernel
theorem dX0_read_27 : decode cX0_read 27 = .ok (.goto 4, 3) := by decide +kernel
theorem dX0_read_30 : decode cX0_read 30 = .ok (.iconst 0, 1) := by decide +kernel
theorem dX0_read_31 : decode cX0_read 31 = .ok (.ireturn, 1) := by decide +kernel
theorem dX0_write_0 : decode cX0_write 0 = .ok (.iload_n 1, 1) := by decide +kernel
theorem dX0_write_1 : decode cX0_write 1 = .ok (.ifCond .lt 20, 3) := by decide +kernel
theorem dX0_write_4 : decode cX0_write 4 = .ok (.iload_n 1, 1) := by decide +kernel
theorem dX0_write_5 : decode cX0_write 5 = .ok (.aload_n 0, 1) := by decide +kernel
theorem dX0_write_6 : decode cX0_write 6 = .ok (.getfield 37, 3) := by decide +kernel
theorem dX0_write_9 : decode cX0_write 9 = .ok (.if_icmp .gt 12, 3) := by decide +kernel
theorem dX0_write_12 : decode cX0_write 12 = .ok (.iload_n 1, 1) := by decide +kernel
theorem dX0_write_13 : decode cX0_write 13 = .ok (.aload_n 0, 1) := by decide +kernel
theorem dX0_write_14 : decode cX0_write 14 = .ok (.getfield 9, 3) := by decide +kernel
theorem dX0_write_17 : decode cX0_write 17 = .ok (.arraylength, 1) := by decide +kernel
theorem dX0_write_18 : decode cX0_write 18 = .ok (.if_icmp .lt 4, 3) := by decide +kernel
theorem dX0_write_21 : decode cX0_write 21 = .ok (.return_, 1) := by decide +kernel
theorem dX0_write_22 : decode cX0_write 22 = .ok (.aload_n 0, 1) := by decide +kernel
theorem dX0_write_23 : decode cX0_write 23 = .ok (.getfield 9, 3) := by decide +kernel
theorem dX0_write_26 : decode cX0_write 26 = .ok (.iload_n 1, 1) := by decide +kernel
theorem dX0_write_27 : decode cX0_write 27 = .ok (.iload_n 2, 1) := by decide +kernel
theorem dX0_write_28 : decode cX0_write 28 = .ok (.iastore, 1) := by decide +kernel
theorem dX0_write_29 : decode cX0_write 29 = .ok (.aload_n 0, 1) := by decide +kernel
theorem dX0_write_30 : decode cX0_write 30 = .ok (.iload_n 1, 1) := by decide +kernel
theorem dX0_write_31 : decode cX0_write 31 = .ok (.aload_n 0, 1) := by decide +kernel
theorem dX0_write_32 : decode cX0_write 32 = .ok (.getfield 37, 3) := by decide +kernel
theorem dX0_write_35 : decode cX0_write 35 = .ok (.if_icmp .ne 12, 3) := by decide +kernel
theorem dX0_write_38 : decode cX0_write 38 = .ok (.aload_n 0, 1) := by decide +kernel
theorem dX0_write_39 : decode cX0_write 39 = .ok (.getfield 37, 3) := by decide +kernel
theorem dX0_write_42 : decode cX0_write 42 = .ok (.iconst 1, 1) := by decide +kernel
theorem dX0_write_43 : decode cX0_write 43 = .ok (.iadd, 1) := by decide +kernel
theorem dX0_write_44 : decode cX0_write 44 = .ok (.goto 7, 3) := by decide +kernel
theorem dX0_write_47 : decode cX0_write 47 = .ok (.aload_n 0, 1) := by decide +kernel
theorem dX0_write_48 : decode cX0_write 48 = .ok (.getfield 37, 3) := by decide +kernel
theorem dX0_write_51 : decode cX0_write 51 = .ok (.putfield 37, 3) := by decide +kernel
theorem dX0_write_54 : decode cX0_write 54 = .ok (.return_, 1) := by decide +kernel
theorem dX0_dropLast_0 : decode cX0_dropLast 0 = .ok (.aload_n 0, 1) := by decide +kernel
theorem dX0_dropLast_1 : decode cX0_dropLast 1 = .ok (.aload_n 0, 1) := by decide +kernel
theorem dX0_dropLast_2 : decode cX0_dropLast 2 = .ok (.getfield 37, 3) := by decide +kernel
theorem dX0_dropLast_5 : decode cX0_dropLast 5 = .ok (.iconst 1, 1) := by decide +kernel
theorem dX0_dropLast_6 : decode cX0_dropLast 6 = .ok (.isub, 1) := by decide +kernel
theorem dX0_dropLast_7 : decode cX0_dropLast 7 = .ok (.invokevirtual 50, 3) := by decide +kernel
theorem dX0_dropLast_10 : decode cX0_dropLast 10 = .ok (.istore_n 1, 1) := by decide +kernel
theorem dX0_dropLast_11 : decode cX0_dropLast 11 = .ok (.aload_n 0, 1) := by decide +kernel
theorem dX0_dropLast_12 : decode cX0_dropLast 12 = .ok (.aload_n 0, 1) := by decide +kernel
theorem dX0_dropLast_13 : decode cX0_dropLast 13 = .ok (.getfield 37, 3) := by decide +kernel
theorem dX0_dropLast_16 : decode cX0_dropLast 16 = .ok (.ifCond .le 12, 3) := by decide +kernel
theorem dX0_dropLast_19 : decode cX0_dropLast 19 = .ok (.aload_n 0, 1) := by decide +kernel
theorem dX0_dropLast_20 : decode cX0_dropLast 20 = .ok (.getfield 37, 3) := by decide +kernel
theorem dX0_dropLast_23 : decode cX0_dropLast 23 = .ok (.iconst 1, 1) := by decide +kernel
theorem dX0_dropLast_24 : decode cX0_dropLast 24 = .ok (.isub, 1) := by decide +kernel
theorem dX0_dropLast_25 : decode cX0_dropLast 25 = .ok (.goto 4, 3) := by decide +kernel
theorem dX0_dropLast_28 : decode cX0_dropLast 28 = .ok (.iconst 0, 1) := by decide +kernel
theorem dX0_dropLast_29 : decode cX0_dropLast 29 = .ok (.putfield 37, 3) := by decide +kernel
theorem dX0_dropLast_32 : decode cX0_dropLast 32 = .ok (.iload_n 1, 1) := by decide +kernel
theorem dX0_dropLast_33 : decode cX0_dropLast 33 = .ok (.ireturn, 1) := by decide +kernel
theorem dX0_provesLeaf_0 : decode cX0_provesLeaf 0 = .ok (.aload_n 0, 1) := by decide +kernel
theorem dX0_provesLeaf_1 : decode cX0_provesLeaf 1 = .ok (.getfield 18, 3) := by decide +kernel
theorem dX0_provesLeaf_4 : decode cX0_provesLeaf 4 = .ok (.iload_n 2, 1) := by decide +kernel
theorem dX0_provesLeaf_5 : decode cX0_provesLeaf 5 = .ok (.iload_n 3, 1) := by decide +kernel
theorem dX0_provesLeaf_6 : decode cX0_provesLeaf 6 = .ok (.invokevirtual 22, 3) := by decide +kernel
theorem dX0_provesLeaf_9 : decode cX0_provesLeaf 9 = .ok (.aload_n 0, 1) := by decide +kernel
theorem dX0_provesLeaf_10 : decode cX0_provesLeaf 10 = .ok (.getfield 37, 3) := by decide +kernel
theorem dX0_provesLeaf_13 : decode cX0_provesLeaf 13 = .ok (.aload_n 0, 1) := by decide +kernel
theorem dX0_provesLeaf_14 : decode cX0_provesLeaf 14 = .ok (.getfield 18, 3) := by decide +kernel
theorem dX0_provesLeaf_17 : decode cX0_provesLeaf 17 = .ok (.getfield 33, 3) := by decide +kernel
theorem dX0_provesLeaf_20 : decode cX0_provesLeaf 20 = .ok (.if_icmp .eq 5, 3) := by decide +kernel
theorem dX0_provesLeaf_23 : decode cX0_provesLeaf 23 = .ok (.iconst 0, 1) := by decide +kernel
theorem dX0_provesLeaf_24 : decode cX0_provesLeaf 24 = .ok (.ireturn, 1) := by decide +kernel
theorem dX0_provesLeaf_25 : decode cX0_provesLeaf 25 = .ok (.iload_n 1, 1) := by decide +kernel
theorem dX0_provesLeaf_26 : decode cX0_provesLeaf 26 = .ok (.invokestatic 54, 3) := by decide +kernel
theorem dX0_provesLeaf_29 : decode cX0_provesLeaf 29 = .ok (.istore 5, 2) := by decide +kernel
theorem dX0_provesLeaf_31 : decode cX0_provesLeaf 31 = .ok (.iconst 0, 1) := by decide +kernel
theorem dX0_provesLeaf_32 : decode cX0_provesLeaf 32 = .ok (.istore 6, 2) := by decide +kernel
theorem dX0_provesLeaf_34 : decode cX0_provesLeaf 34 = .ok (.iload 6, 2) := by decide +kernel
theorem dX0_provesLeaf_36 : decode cX0_provesLeaf 36 = .ok (.aload_n 0, 1) := by decide +kernel
theorem dX0_provesLeaf_37 : decode cX0_provesLeaf 37 = .ok (.getfield 37, 3) := by decide +kernel
theorem dX0_provesLeaf_40 : decode cX0_provesLeaf 40 = .ok (.if_icmp .ge 48, 3) := by decide +kernel
theorem dX0_provesLeaf_43 : decode cX0_provesLeaf 43 = .ok (.aload_n 0, 1) := by decide +kernel
theorem dX0_provesLeaf_44 : decode cX0_provesLeaf 44 = .ok (.iload 6, 2) := by decide +kernel
theorem dX0_provesLeaf_46 : decode cX0_provesLeaf 46 = .ok (.invokevirtual 50, 3) := by decide +kernel
theorem dX0_provesLeaf_49 : decode cX0_provesLeaf 49 = .ok (.istore 7, 2) := by decide +kernel
theorem dX0_provesLeaf_51 : decode cX0_provesLeaf 51 = .ok (.aload_n 0, 1) := by decide +kernel
theorem dX0_provesLeaf_52 : decode cX0_provesLeaf 52 = .ok (.getfield 18, 3) := by decide +kernel
theorem dX0_provesLeaf_55 : decode cX0_provesLeaf 55 = .ok (.iload 6, 2) := by decide +kernel
theorem dX0_provesLeaf_57 : decode cX0_provesLeaf 57 = .ok (.invokevirtual 57, 3) := by decide +kernel
theorem dX0_provesLeaf_60 : decode cX0_provesLeaf 60 = .ok (.ifCond .eq 13, 3) := by decide +kernel
theorem dX0_provesLeaf_63 : decode cX0_provesLeaf 63 = .ok (.iload 7, 2) := by decide +kernel
theorem dX0_provesLeaf_65 : decode cX0_provesLeaf 65 = .ok (.iload 5, 2) := by decide +kernel
theorem dX0_provesLeaf_67 : decode cX0_provesLeaf 67 = .ok (.invokestatic 61, 3) := by decide +kernel
theorem dX0_provesLeaf_70 : decode cX0_provesLeaf 70 = .ok (.goto 10, 3) := by decide +kernel
theorem dX0_provesLeaf_73 : decode cX0_provesLeaf 73 = .ok (.iload 5, 2) := by decide +kernel
theorem dX0_provesLeaf_75 : decode cX0_provesLeaf 75 = .ok (.iload 7, 2) := by decide +kernel
theorem dX0_provesLeaf_77 : decode cX0_provesLeaf 77 = .ok (.invokestatic 61, 3) := by decide +kernel
theorem dX0_provesLeaf_80 : decode cX0_provesLeaf 80 = .ok (.istore 5, 2) := by decide +kernel
theorem dX0_provesLeaf_82 : decode cX0_provesLeaf 82 = .ok (.iinc 6 1, 3) := by decide +kernel
theorem dX0_provesLeaf_85 : decode cX0_provesLeaf 85 = .ok (.goto (-51), 3) := by decide +kernel
theorem dX0_provesLeaf_88 : decode cX0_provesLeaf 88 = .ok (.iload 5, 2) := by decide +kernel
theorem dX0_provesLeaf_90 : decode cX0_provesLeaf 90 = .ok (.iload 4, 2) := by decide +kernel
theorem dX0_provesLeaf_92 : decode cX0_provesLeaf 92 = .ok (.if_icmp .ne 7, 3) := by decide +kernel
theorem dX0_provesLeaf_95 : decode cX0_provesLeaf 95 = .ok (.iconst 1, 1) := by decide +kernel
theorem dX0_provesLeaf_96 : decode cX0_provesLeaf 96 = .ok (.goto 4, 3) := by decide +kernel
theorem dX0_provesLeaf_99 : decode cX0_provesLeaf 99 = .ok (.iconst 0, 1) := by decide +kernel
theorem dX0_provesLeaf_100 : decode cX0_provesLeaf 100 = .ok (.ireturn, 1) := by decide +kernel
theorem dX0_provesGrowth_0 : decode cX0_provesGrowth 0 = .ok (.aload_n 0, 1) := by decide +kernel
theorem dX0_provesGrowth_1 : decode cX0_provesGrowth 1 = .ok (.getfield 18, 3) := by decide +kernel
theorem dX0_provesGrowth_4 : decode cX0_provesGrowth 4 = .ok (.iload_n 1, 1) := by decide +kernel
theorem dX0_provesGrowth_5 : decode cX0_provesGrowth 5 = .ok (.iload_n 3, 1) := by decide +kernel
theorem dX0_provesGrowth_6 : decode cX0_provesGrowth 6 = .ok (.invokevirtual 30, 3) := by decide +kernel
theorem dX0_provesGrowth_9 : decode cX0_provesGrowth 9 = .ok (.aload_n 0, 1) := by decide +kernel
theorem dX0_provesGrowth_10 : decode cX0_provesGrowth 10 = .ok (.getfield 37, 3) := by decide +kernel
theorem dX0_provesGrowth_13 : decode cX0_provesGrowth 13 = .ok (.aload_n 0, 1) := by decide +kernel
theorem dX0_provesGrowth_14 : decode cX0_provesGrowth 14 = .ok (.getfield 18, 3) := by decide +kernel
theorem dX0_provesGrowth_17 : decode cX0_provesGrowth 17 = .ok (.getfield 33, 3) := by decide +kernel
theorem dX0_provesGrowth_20 : decode cX0_provesGrowth 20 = .ok (.if_icmp .eq 5, 3) := by decide +kernel
theorem dX0_provesGrowth_23 : decode cX0_provesGrowth 23 = .ok (.iconst 0, 1) := by decide +kernel
theorem dX0_provesGrowth_24 : decode cX0_provesGrowth 24 = .ok (.ireturn, 1) := by decide +kernel
theorem dX0_provesGrowth_25 : decode cX0_provesGrowth 25 = .ok (.aload_n 0, 1) := by decide +kernel
theorem dX0_provesGrowth_26 : decode cX0_provesGrowth 26 = .ok (.getfield 18, 3) := by decide +kernel
theorem dX0_provesGrowth_29 : decode cX0_provesGrowth 29 = .ok (.invokevirtual 64, 3) := by decide +kernel
theorem dX0_provesGrowth_32 : decode cX0_provesGrowth 32 = .ok (.istore 5, 2) := by decide +kernel
theorem dX0_provesGrowth_34 : decode cX0_provesGrowth 34 = .ok (.iload 5, 2) := by decide +kernel
theorem dX0_provesGrowth_36 : decode cX0_provesGrowth 36 = .ok (.ifCond .eq 7, 3) := by decide +kernel
theorem dX0_provesGrowth_39 : decode cX0_provesGrowth 39 = .ok (.iload_n 2, 1) := by decide +kernel
theorem dX0_provesGrowth_40 : decode cX0_provesGrowth 40 = .ok (.goto 8, 3) := by decide +kernel
theorem dX0_provesGrowth_43 : decode cX0_provesGrowth 43 = .ok (.aload_n 0, 1) := by decide +kernel
theorem dX0_provesGrowth_44 : decode cX0_provesGrowth 44 = .ok (.iconst 0, 1) := by decide +kernel
theorem dX0_provesGrowth_45 : decode cX0_provesGrowth 45 = .ok (.invokevirtual 50, 3) := by decide +kernel
theorem dX0_provesGrowth_48 : decode cX0_provesGrowth 48 = .ok (.istore 6, 2) := by decide +kernel
theorem dX0_provesGrowth_50 : decode cX0_provesGrowth 50 = .ok (.iload 6, 2) := by decide +kernel
theorem dX0_provesGrowth_52 : decode cX0_provesGrowth 52 = .ok (.istore 7, 2) := by decide +kernel
theorem dX0_provesGrowth_54 : decode cX0_provesGrowth 54 = .ok (.iload 5, 2) := by decide +kernel
theorem dX0_provesGrowth_56 : decode cX0_provesGrowth 56 = .ok (.ifCond .eq 7, 3) := by decide +kernel
theorem dX0_provesGrowth_59 : decode cX0_provesGrowth 59 = .ok (.iconst 0, 1) := by decide +kernel
theorem dX0_provesGrowth_60 : decode cX0_provesGrowth 60 = .ok (.goto 4, 3) := by decide +kernel
theorem dX0_provesGrowth_63 : decode cX0_provesGrowth 63 = .ok (.iconst 1, 1) := by decide +kernel
theorem dX0_provesGrowth_64 : decode cX0_provesGrowth 64 = .ok (.istore 8, 2) := by decide +kernel
theorem dX0_provesGrowth_66 : decode cX0_provesGrowth 66 = .ok (.iload 8, 2) := by decide +kernel
theorem dX0_provesGrowth_68 : decode cX0_provesGrowth 68 = .ok (.aload_n 0, 1) := by decide +kernel
theorem dX0_provesGrowth_69 : decode cX0_provesGrowth 69 = .ok (.getfield 37, 3) := by decide +kernel
theorem dX0_provesGrowth_72 : decode cX0_provesGrowth 72 = .ok (.if_icmp .ge 71, 3) := by decide +kernel
theorem dX0_provesGrowth_75 : decode cX0_provesGrowth 75 = .ok (.aload_n 0, 1) := by decide +kernel
theorem dX0_provesGrowth_76 : decode cX0_provesGrowth 76 = .ok (.iload 8, 2) := by decide +kernel
theorem dX0_provesGrowth_78 : decode cX0_provesGrowth 78 = .ok (.invokevirtual 50, 3) := by decide +kernel
theorem dX0_provesGrowth_81 : decode cX0_provesGrowth 81 = .ok (.istore 9, 2) := by decide +kernel
theorem dX0_provesGrowth_83 : decode cX0_provesGrowth 83 = .ok (.aload_n 0, 1) := by decide +kernel
theorem dX0_provesGrowth_84 : decode cX0_provesGrowth 84 = .ok (.getfield 18, 3) := by decide +kernel
theorem dX0_provesGrowth_87 : decode cX0_provesGrowth 87 = .ok (.iload 8, 2) := by decide +kernel
theorem dX0_provesGrowth_89 : decode cX0_provesGrowth 89 = .ok (.invokevirtual 57, 3) := by decide +kernel
theorem dX0_provesGrowth_92 : decode cX0_provesGrowth 92 = .ok (.istore 10, 2) := by decide +kernel
theorem dX0_provesGrowth_94 : decode cX0_provesGrowth 94 = .ok (.iload 10, 2) := by decide +kernel
theorem dX0_provesGrowth_96 : decode cX0_provesGrowth 96 = .ok (.ifCond .eq 13, 3) := by decide +kernel
theorem dX0_provesGrowth_99 : decode cX0_provesGrowth 99 = .ok (.iload 9, 2) := by decide +kernel
theorem dX0_provesGrowth_101 : decode cX0_provesGrowth 101 = .ok (.iload 6, 2) := by decide +kernel
theorem dX0_provesGrowth_103 : decode cX0_provesGrowth 103 = .ok (.invokestatic 61, 3) := by decide +kernel
theorem dX0_provesGrowth_106 : decode cX0_provesGrowth 106 = .ok (.goto 5, 3) := by decide +kernel
theorem dX0_provesGrowth_109 : decode cX0_provesGrowth 109 = .ok (.iload 6, 2) := by decide +kernel
theorem dX0_provesGrowth_111 : decode cX0_provesGrowth 111 = .ok (.istore 6, 2) := by decide +kernel
theorem dX0_provesGrowth_113 : decode cX0_provesGrowth 113 = .ok (.iload 10, 2) := by decide +kernel
theorem dX0_provesGrowth_115 : decode cX0_provesGrowth 115 = .ok (.ifCond .eq 13, 3) := by decide +kernel
theorem dX0_provesGrowth_118 : decode cX0_provesGrowth 118 = .ok (.iload 9, 2) := by decide +kernel
theorem dX0_provesGrowth_120 : decode cX0_provesGrowth 120 = .ok (.iload 7, 2) := by decide +kernel
theorem dX0_provesGrowth_122 : decode cX0_provesGrowth 122 = .ok (.invokestatic 61, 3) := by decide +kernel
theorem dX0_provesGrowth_125 : decode cX0_provesGrowth 125 = .ok (.goto 10, 3) := by decide +kernel
theorem dX0_provesGrowth_128 : decode cX0_provesGrowth 128 = .ok (.iload 7, 2) := by decide +kernel
theorem dX0_provesGrowth_130 : decode cX0_provesGrowth 130 = .ok (.iload 9, 2) := by decide +kernel
theorem dX0_provesGrowth_132 : decode cX0_provesGrowth 132 = .ok (.invokestatic 61, 3) := by decide +kernel
theorem dX0_provesGrowth_135 : decode cX0_provesGrowth 135 = .ok (.istore 7, 2) := by decide +kernel
theorem dX0_provesGrowth_137 : decode cX0_provesGrowth 137 = .ok (.iinc 8 1, 3) := by decide +kernel
theorem dX0_provesGrowth_140 : decode cX0_provesGrowth 140 = .ok (.goto (-74), 3) := by decide +kernel
theorem dX0_provesGrowth_143 : decode cX0_provesGrowth 143 = .ok (.iload 6, 2) := by decide +kernel
theorem dX0_provesGrowth_145 : decode cX0_provesGrowth 145 = .ok (.iload_n 2, 1) := by decide +kernel
theorem dX0_provesGrowth_146 : decode cX0_provesGrowth 146 = .ok (.if_icmp .ne 14, 3) := by decide +kernel
theorem dX0_provesGrowth_149 : decode cX0_provesGrowth 149 = .ok (.iload 7, 2) := by decide +kernel
theorem dX0_provesGrowth_151 : decode cX0_provesGrowth 151 = .ok (.iload 4, 2) := by decide +kernel
theorem dX0_provesGrowth_153 : decode cX0_provesGrowth 153 = .ok (.if_icmp .ne 7, 3) := by decide +kernel
theorem dX0_provesGrowth_156 : decode cX0_provesGrowth 156 = .ok (.iconst 1, 1) := by decide +kernel
theorem dX0_provesGrowth_157 : decode cX0_provesGrowth 157 = .ok (.goto 4, 3) := by decide +kernel
theorem dX0_provesGrowth_160 : decode cX0_provesGrowth 160 = .ok (.iconst 0, 1) := by decide +kernel
theorem dX0_provesGrowth_161 : decode cX0_provesGrowth 161 = .ok (.ireturn, 1) := by decide +kernel
theorem dX0_provesKey_0 : decode cX0_provesKey 0 = .ok (.aload_n 0, 1) := by decide +kernel
theorem dX0_provesKey_1 : decode cX0_provesKey 1 = .ok (.getfield 37, 3) := by decide +kernel
theorem dX0_provesKey_4 : decode cX0_provesKey 4 = .ok (.bipush 6, 2) := by decide +kernel
theorem dX0_provesKey_6 : decode cX0_provesKey 6 = .ok (.if_icmp .eq 5, 3) := by decide +kernel
theorem dX0_provesKey_9 : decode cX0_provesKey 9 = .ok (.iconst 0, 1) := by decide +kernel
theorem dX0_provesKey_10 : decode cX0_provesKey 10 = .ok (.ireturn, 1) := by decide +kernel
theorem dX0_provesKey_11 : decode cX0_provesKey 11 = .ok (.iload_n 2, 1) := by decide +kernel
theorem dX0_provesKey_12 : decode cX0_provesKey 12 = .ok (.invokestatic 68, 3) := by decide +kernel
theorem dX0_provesKey_15 : decode cX0_provesKey 15 = .ok (.istore 4, 2) := by decide +kernel
theorem dX0_provesKey_17 : decode cX0_provesKey 17 = .ok (.iconst 0, 1) := by decide +kernel
theorem dX0_provesKey_18 : decode cX0_provesKey 18 = .ok (.istore 5, 2) := by decide +kernel
theorem dX0_provesKey_20 : decode cX0_provesKey 20 = .ok (.iload 5, 2) := by decide +kernel
theorem dX0_provesKey_22 : decode cX0_provesKey 22 = .ok (.bipush 6, 2) := by decide +kernel
theorem dX0_provesKey_24 : decode cX0_provesKey 24 = .ok (.if_icmp .ge 58, 3) := by decide +kernel
theorem dX0_provesKey_27 : decode cX0_provesKey 27 = .ok (.aload_n 0, 1) := by decide +kernel
theorem dX0_provesKey_28 : decode cX0_provesKey 28 = .ok (.iload 5, 2) := by decide +kernel
theorem dX0_provesKey_30 : decode cX0_provesKey 30 = .ok (.invokevirtual 50, 3) := by decide +kernel
theorem dX0_provesKey_33 : decode cX0_provesKey 33 = .ok (.istore 6, 2) := by decide +kernel
theorem dX0_provesKey_35 : decode cX0_provesKey 35 = .ok (.iload_n 1, 1) := by decide +kernel
theorem dX0_provesKey_36 : decode cX0_provesKey 36 = .ok (.iload 5, 2) := by decide +kernel
theorem dX0_provesKey_38 : decode cX0_provesKey 38 = .ok (.ishr, 1) := by decide +kernel
theorem dX0_provesKey_39 : decode cX0_provesKey 39 = .ok (.iconst 1, 1) := by decide +kernel
theorem dX0_provesKey_40 : decode cX0_provesKey 40 = .ok (.iand, 1) := by decide +kernel
theorem dX0_provesKey_41 : decode cX0_provesKey 41 = .ok (.iconst 1, 1) := by decide +kernel
theorem dX0_provesKey_42 : decode cX0_provesKey 42 = .ok (.if_icmp .ne 7, 3) := by decide +kernel
theorem dX0_provesKey_45 : decode cX0_provesKey 45 = .ok (.iconst 1, 1) := by decide +kernel
theorem dX0_provesKey_46 : decode cX0_provesKey 46 = .ok (.goto 4, 3) := by decide +kernel
theorem dX0_provesKey_49 : decode cX0_provesKey 49 = .ok (.iconst 0, 1) := by decide +kernel
theorem dX0_provesKey_50 : decode cX0_provesKey 50 = .ok (.istore 7, 2) := by decide +kernel
theorem dX0_provesKey_52 : decode cX0_provesKey 52 = .ok (.iload 7, 2) := by decide +kernel
theorem dX0_provesKey_54 : decode cX0_provesKey 54 = .ok (.ifCond .eq 13, 3) := by decide +kernel
theorem dX0_provesKey_57 : decode cX0_provesKey 57 = .ok (.iload 6, 2) := by decide +kernel
theorem dX0_provesKey_59 : decode cX0_provesKey 59 = .ok (.iload 4, 2) := by decide +kernel
theorem dX0_provesKey_61 : decode cX0_provesKey 61 = .ok (.invokestatic 71, 3) := by decide +kernel
theorem dX0_provesKey_64 : decode cX0_provesKey 64 = .ok (.goto 10, 3) := by decide +kernel
theorem dX0_provesKey_67 : decode cX0_provesKey 67 = .ok (.iload 4, 2) := by decide +kernel
theorem dX0_provesKey_69 : decode cX0_provesKey 69 = .ok (.iload 6, 2) := by decide +kernel
theorem dX0_provesKey_71 : decode cX0_provesKey 71 = .ok (.invokestatic 71, 3) := by decide +kernel
theorem dX0_provesKey_74 : decode cX0_provesKey 74 = .ok (.istore 4, 2) := by decide +kernel
theorem dX0_provesKey_76 : decode cX0_provesKey 76 = .ok (.iinc 5 1, 3) := by decide +kernel
theorem dX0_provesKey_79 : decode cX0_provesKey 79 = .ok (.goto (-59), 3) := by decide +kernel
theorem dX0_provesKey_82 : decode cX0_provesKey 82 = .ok (.iload 4, 2) := by decide +kernel
theorem dX0_provesKey_84 : decode cX0_provesKey 84 = .ok (.iload_n 3, 1) := by decide +kernel
theorem dX0_provesKey_85 : decode cX0_provesKey 85 = .ok (.if_icmp .ne 7, 3) := by decide +kernel
theorem dX0_provesKey_88 : decode cX0_provesKey 88 = .ok (.iconst 1, 1) := by decide +kernel
theorem dX0_provesKey_89 : decode cX0_provesKey 89 = .ok (.goto 4, 3) := by decide +kernel
theorem dX0_provesKey_92 : decode cX0_provesKey 92 = .ok (.iconst 0, 1) := by decide +kernel
theorem dX0_provesKey_93 : decode cX0_provesKey 93 = .ok (.ireturn, 1) := by decide +kernel
theorem dX1_init_0 : decode cX1_init 0 = .ok (.aload_n 0, 1) := by decide +kernel
theorem dX1_init_1 : decode cX1_init 1 = .ok (.invokespecial 3, 3) := by decide +kernel
theorem dX1_init_4 : decode cX1_init 4 = .ok (.aload_n 0, 1) := by decide +kernel
theorem dX1_init_5 : decode cX1_init 5 = .ok (.bipush 64, 2) := by decide +kernel
theorem dX1_init_7 : decode cX1_init 7 = .ok (.newarray .int, 2) := by decide +kernel
theorem dX1_init_9 : decode cX1_init 9 = .ok (.putfield 9, 3) := by decide +kernel
theorem dX1_init_12 : decode cX1_init 12 = .ok (.aload_n 0, 1) := by decide +kernel
theorem dX1_init_13 : decode cX1_init 13 = .ok (.sipush 128, 3) := by decide +kernel
theorem dX1_init_16 : decode cX1_init 16 = .ok (.newarray .int, 2) := by decide +kernel
theorem dX1_init_18 : decode cX1_init 18 = .ok (.putfield 15, 3) := by decide +kernel
theorem dX1_init_21 : decode cX1_init 21 = .ok (.iconst 0, 1) := by decide +kernel
theorem dX1_init_22 : decode cX1_init 22 = .ok (.istore_n 1, 1) := by decide +kernel
theorem dX1_init_23 : decode cX1_init 23 = .ok (.iload_n 1, 1) := by decide +kernel
theorem dX1_init_24 : decode cX1_init 24 = .ok (.aload_n 0, 1) := by decide +kernel
theorem dX1_init_25 : decode cX1_init 25 = .ok (.getfield 9, 3) := by decide +kernel
theorem dX1_init_28 : decode cX1_init 28 = .ok (.arraylength, 1) := by decide +kernel
theorem dX1_init_29 : decode cX1_init 29 = .ok (.if_icmp .ge 16, 3) := by decide +kernel
theorem dX1_init_32 : decode cX1_init 32 = .ok (.aload_n 0, 1) := by decide +kernel
theorem dX1_init_33 : decode cX1_init 33 = .ok (.getfield 9, 3) := by decide +kernel
theorem dX1_init_36 : decode cX1_init 36 = .ok (.iload_n 1, 1) := by decide +kernel
theorem dX1_init_37 : decode cX1_init 37 = .ok (.iconst (-1), 1) := by decide +kernel
theorem dX1_init_38 : decode cX1_init 38 = .ok (.iastore, 1) := by decide +kernel
theorem dX1_init_39 : decode cX1_init 39 = .ok (.iinc 1 1, 3) := by decide +kernel
theorem dX1_init_42 : decode cX1_init 42 = .ok (.goto (-19), 3) := by decide +kernel
theorem dX1_init_45 : decode cX1_init 45 = .ok (.return_, 1) := by decide +kernel
theorem dX1_valueAt_0 : decode cX1_valueAt 0 = .ok (.iload_n 1, 1) := by decide +kernel
theorem dX1_valueAt_1 : decode cX1_valueAt 1 = .ok (.ifCond .lt 21, 3) := by decide +kernel
theorem dX1_valueAt_4 : decode cX1_valueAt 4 = .ok (.iload_n 1, 1) := by decide +kernel
theorem dX1_valueAt_5 : decode cX1_valueAt 5 = .ok (.aload_n 0, 1) := by decide +kernel
theorem dX1_valueAt_6 : decode cX1_valueAt 6 = .ok (.getfield 9, 3) := by decide +kernel
theorem dX1_valueAt_9 : decode cX1_valueAt 9 = .ok (.arraylength, 1) := by decide +kernel
theorem dX1_valueAt_10 : decode cX1_valueAt 10 = .ok (.if_icmp .ge 12, 3) := by decide +kernel
theorem dX1_valueAt_13 : decode cX1_valueAt 13 = .ok (.aload_n 0, 1) := by decide +kernel
theorem dX1_valueAt_14 : decode cX1_valueAt 14 = .ok (.getfield 9, 3) := by decide +kernel
theorem dX1_valueAt_17 : decode cX1_valueAt 17 = .ok (.iload_n 1, 1) := by decide +kernel
theorem dX1_valueAt_18 : decode cX1_valueAt 18 = .ok (.iaload, 1) := by decide +kernel
theorem dX1_valueAt_19 : decode cX1_valueAt 19 = .ok (.goto 4, 3) := by decide +kernel
theorem dX1_valueAt_22 : decode cX1_valueAt 22 = .ok (.iconst (-1), 1) := by decide +kernel
theorem dX1_valueAt_23 : decode cX1_valueAt 23 = .ok (.ireturn, 1) := by decide +kernel
theorem dX1_replace_0 : decode cX1_replace 0 = .ok (.iload_n 1, 1) := by decide +kernel
theorem dX1_replace_1 : decode cX1_replace 1 = .ok (.ifCond .lt 9, 3) := by decide +kernel
theorem dX1_replace_4 : decode cX1_replace 4 = .ok (.iload_n 1, 1) := by decide +kernel
theorem dX1_replace_5 : decode cX1_replace 5 = .ok (.bipush 64, 2) := by decide +kernel
theorem dX1_replace_7 : decode cX1_replace 7 = .ok (.if_icmp .lt 5, 3) := by decide +kernel
theorem dX1_replace_10 : decode cX1_replace 10 = .ok (.iconst (-1), 1) := by decide +kernel
theorem dX1_replace_11 : decode cX1_replace 11 = .ok (.ireturn, 1) := by decide +kernel
theorem dX1_replace_12 : decode cX1_replace 12 = .ok (.aload_n 0, 1) := by decide +kernel
theorem dX1_replace_13 : decode cX1_replace 13 = .ok (.getfield 9, 3) := by decide +kernel
theorem dX1_replace_16 : decode cX1_replace 16 = .ok (.iload_n 1, 1) := by decide +kernel
theorem dX1_replace_17 : decode cX1_replace 17 = .ok (.iaload, 1) := by decide +kernel
theorem dX1_replace_18 : decode cX1_replace 18 = .ok (.istore_n 3, 1) := by decide +kernel
theorem dX1_replace_19 : decode cX1_replace 19 = .ok (.aload_n 0, 1) := by decide +kernel
theorem dX1_replace_20 : decode cX1_replace 20 = .ok (.getfield 9, 3) := by decide +kernel
theorem dX1_replace_23 : decode cX1_replace 23 = .ok (.iload_n 1, 1) := by decide +kernel
theorem dX1_replace_24 : decode cX1_replace 24 = .ok (.iload_n 2, 1) := by decide +kernel
theorem dX1_replace_25 : decode cX1_replace 25 = .ok (.iastore, 1) := by decide +kernel
theorem dX1_replace_26 : decode cX1_replace 26 = .ok (.bipush 64, 2) := by decide +kernel
theorem dX1_replace_28 : decode cX1_replace 28 = .ok (.iload_n 1, 1) := by decide +kernel
theorem dX1_replace_29 : decode cX1_replace 29 = .ok (.iadd, 1) := by decide +kernel
theorem dX1_replace_30 : decode cX1_replace 30 = .ok (.istore 4, 2) := by decide +kernel
theorem dX1_replace_32 : decode cX1_replace 32 = .ok (.aload_n 0, 1) := by decide +kernel
theorem dX1_replace_33 : decode cX1_replace 33 = .ok (.getfield 15, 3) := by decide +kernel
theorem dX1_replace_36 : decode cX1_replace 36 = .ok (.iload 4, 2) := by decide +kernel
theorem dX1_replace_38 : decode cX1_replace 38 = .ok (.iload_n 2, 1) := by decide +kernel
theorem dX1_replace_39 : decode cX1_replace 39 = .ok (.invokestatic 18, 3) := by decide +kernel
theorem dX1_replace_42 : decode cX1_replace 42 = .ok (.iastore, 1) := by decide +kernel
theorem dX1_replace_43 : decode cX1_replace 43 = .ok (.iconst 0, 1) := by decide +kernel
theorem dX1_replace_44 : decode cX1_replace 44 = .ok (.istore 5, 2) := by decide +kernel
theorem dX1_replace_46 : decode cX1_replace 46 = .ok (.iload 5, 2) := by decide +kernel
theorem dX1_replace_48 : decode cX1_replace 48 = .ok (.bipush 6, 2) := by decide +kernel
theorem dX1_replace_50 : decode cX1_replace 50 = .ok (.if_icmp .ge 45, 3) := by decide +kernel
theorem dX1_replace_53 : decode cX1_replace 53 = .ok (.iload 4, 2) := by decide +kernel
theorem dX1_replace_55 : decode cX1_replace 55 = .ok (.iconst 1, 1) := by decide +kernel
theorem dX1_replace_56 : decode cX1_replace 56 = .ok (.ishr, 1) := by decide +kernel
theorem dX1_replace_57 : decode cX1_replace 57 = .ok (.istore 4, 2) := by decide +kernel
theorem dX1_replace_59 : decode cX1_replace 59 = .ok (.aload_n 0, 1) := by decide +kernel
theorem dX1_replace_60 : decode cX1_replace 60 = .ok (.getfield 15, 3) := by decide +kernel
theorem dX1_replace_63 : decode cX1_replace 63 = .ok (.iload 4, 2) := by decide +kernel
theorem dX1_replace_65 : decode cX1_replace 65 = .ok (.aload_n 0, 1) := by decide +kernel
theorem dX1_replace_66 : decode cX1_replace 66 = .ok (.getfield 15, 3) := by decide +kernel
theorem dX1_replace_69 : decode cX1_replace 69 = .ok (.iconst 2, 1) := by decide +kernel
theorem dX1_replace_70 : decode cX1_replace 70 = .ok (.iload 4, 2) := by decide +kernel
theorem dX1_replace_72 : decode cX1_replace 72 = .ok (.imul, 1) := by decide +kernel
theorem dX1_replace_73 : decode cX1_replace 73 = .ok (.iaload, 1) := by decide +kernel
theorem dX1_replace_74 : decode cX1_replace 74 = .ok (.aload_n 0, 1) := by decide +kernel
theorem dX1_replace_75 : decode cX1_replace 75 = .ok (.getfield 15, 3) := by decide +kernel
theorem dX1_replace_78 : decode cX1_replace 78 = .ok (.iconst 2, 1) := by decide +kernel
theorem dX1_replace_79 : decode cX1_replace 79 = .ok (.iload 4, 2) := by decide +kernel
theorem dX1_replace_81 : decode cX1_replace 81 = .ok (.imul, 1) := by decide +kernel
theorem dX1_replace_82 : decode cX1_replace 82 = .ok (.iconst 1, 1) := by decide +kernel
theorem dX1_replace_83 : decode cX1_replace 83 = .ok (.iadd, 1) := by decide +kernel
theorem dX1_replace_84 : decode cX1_replace 84 = .ok (.iaload, 1) := by decide +kernel
theorem dX1_replace_85 : decode cX1_replace 85 = .ok (.invokestatic 22, 3) := by decide +kernel
theorem dX1_replace_88 : decode cX1_replace 88 = .ok (.iastore, 1) := by decide +kernel
theorem dX1_replace_89 : decode cX1_replace 89 = .ok (.iinc 5 1, 3) := by decide +kernel
theorem dX1_replace_92 : decode cX1_replace 92 = .ok (.goto (-46), 3) := by decide +kernel
theorem dX1_replace_95 : decode cX1_replace 95 = .ok (.iload_n 3, 1) := by decide +kernel
theorem dX1_replace_96 : decode cX1_replace 96 = .ok (.ireturn, 1) := by decide +kernel
theorem dX1_sumBeside_0 : decode cX1_sumBeside 0 = .ok (.iload_n 1, 1) := by decide +kernel
theorem dX1_sumBeside_1 : decode cX1_sumBeside 1 = .ok (.ifCond .lt 19, 3) := by decide +kernel
theorem dX1_sumBeside_4 : decode cX1_sumBeside 4 = .ok (.iload_n 1, 1) := by decide +kernel
theorem dX1_sumBeside_5 : decode cX1_sumBeside 5 = .ok (.bipush 64, 2) := by decide +kernel
theorem dX1_sumBeside_7 : decode cX1_sumBeside 7 = .ok (.if_icmp .ge 13, 3) := by decide +kernel
theorem dX1_sumBeside_10 : decode cX1_sumBeside 10 = .ok (.iload_n 2, 1) := by decide +kernel
theorem dX1_sumBeside_11 : decode cX1_sumBeside 11 = .ok (.ifCond .lt 9, 3) := by decide +kernel
theorem dX1_sumBeside_14 : decode cX1_sumBeside 14 = .ok (.iload_n 2, 1) := by decide +kernel
theorem dX1_sumBeside_15 : decode cX1_sumBeside 15 = .ok (.bipush 6, 2) := by decide +kernel
theorem dX1_sumBeside_17 : decode cX1_sumBeside 17 = .ok (.if_icmp .lt 5, 3) := by decide +kernel
theorem dX1_sumBeside_20 : decode cX1_sumBeside 20 = .ok (.iconst 0, 1) := by decide +kernel
theorem dX1_sumBeside_21 : decode cX1_sumBeside 21 = .ok (.ireturn, 1) := by decide +kernel
theorem dX1_sumBeside_22 : decode cX1_sumBeside 22 = .ok (.aload_n 0, 1) := by decide +kernel
theorem dX1_sumBeside_23 : decode cX1_sumBeside 23 = .ok (.getfield 15, 3) := by decide +kernel
theorem dX1_sumBeside_26 : decode cX1_sumBeside 26 = .ok (.bipush 64, 2) := by decide +kernel
theorem dX1_sumBeside_28 : decode cX1_sumBeside 28 = .ok (.iload_n 1, 1) := by decide +kernel
theorem dX1_sumBeside_29 : decode cX1_sumBeside 29 = .ok (.iadd, 1) := by decide +kernel
theorem dX1_sumBeside_30 : decode cX1_sumBeside 30 = .ok (.iload_n 2, 1) := by decide +kernel
theorem dX1_sumBeside_31 : decode cX1_sumBeside 31 = .ok (.ishr, 1) := by decide +kernel
theorem dX1_sumBeside_32 : decode cX1_sumBeside 32 = .ok (.iconst 1, 1) := by decide +kernel
theorem dX1_sumBeside_33 : decode cX1_sumBeside 33 = .ok (.ixor, 1) := by decide +kernel
theorem dX1_sumBeside_34 : decode cX1_sumBeside 34 = .ok (.iaload, 1) := by decide +kernel
theorem dX1_sumBeside_35 : decode cX1_sumBeside 35 = .ok (.ireturn, 1) := by decide +kernel
theorem dX1_rootSum_0 : decode cX1_rootSum 0 = .ok (.aload_n 0, 1) := by decide +kernel
theorem dX1_rootSum_1 : decode cX1_rootSum 1 = .ok (.getfield 15, 3) := by decide +kernel
theorem dX1_rootSum_4 : decode cX1_rootSum 4 = .ok (.iconst 1, 1) := by decide +kernel
theorem dX1_rootSum_5 : decode cX1_rootSum 5 = .ok (.iaload, 1) := by decide +kernel
theorem dX1_rootSum_6 : decode cX1_rootSum 6 = .ok (.ireturn, 1) := by decide +kernel
theorem dX2_init_0 : decode cX2_init 0 = .ok (.aload_n 0, 1) := by decide +kernel
theorem dX2_init_1 : decode cX2_init 1 = .ok (.invokespecial 3, 3) := by decide +kernel
theorem dX2_init_4 : decode cX2_init 4 = .ok (.aload_n 0, 1) := by decide +kernel
theorem dX2_init_5 : decode cX2_init 5 = .ok (.bipush 100, 2) := by decide +kernel
theorem dX2_init_7 : decode cX2_init 7 = .ok (.newarray .int, 2) := by decide +kernel
theorem dX2_init_9 : decode cX2_init 9 = .ok (.putfield 9, 3) := by decide +kernel
theorem dX2_init_12 : decode cX2_init 12 = .ok (.aload_n 0, 1) := by decide +kernel
theorem dX2_init_13 : decode cX2_init 13 = .ok (.sipush 256, 3) := by decide +kernel
theorem dX2_init_16 : decode cX2_init 16 = .ok (.newarray .int, 2) := by decide +kernel
theorem dX2_init_18 : decode cX2_init 18 = .ok (.putfield 15, 3) := by decide +kernel
theorem dX2_init_21 : decode cX2_init 21 = .ok (.return_, 1) := by decide +kernel
theorem dX2_add_0 : decode cX2_add 0 = .ok (.aload_n 0, 1) := by decide +kernel
theorem dX2_add_1 : decode cX2_add 1 = .ok (.getfield 18, 3) := by decide +kernel
theorem dX2_add_4 : decode cX2_add 4 = .ok (.ifCond .lt 15, 3) := by decide +kernel
theorem dX2_add_7 : decode cX2_add 7 = .ok (.aload_n 0, 1) := by decide +kernel
theorem dX2_add_8 : decode cX2_add 8 = .ok (.getfield 18, 3) := by decide +kernel
theorem dX2_add_11 : decode cX2_add 11 = .ok (.aload_n 0, 1) := by decide +kernel
theorem dX2_add_12 : decode cX2_add 12 = .ok (.getfield 9, 3) := by decide +kernel
theorem dX2_add_15 : decode cX2_add 15 = .ok (.arraylength, 1) := by decide +kernel
theorem dX2_add_16 : decode cX2_add 16 = .ok (.if_icmp .lt 4, 3) := by decide +kernel
theorem dX2_add_19 : decode cX2_add 19 = .ok (.return_, 1) := by decide +kernel
theorem dX2_add_20 : decode cX2_add 20 = .ok (.sipush 128, 3) := by decide +kernel
theorem dX2_add_23 : decode cX2_add 23 = .ok (.aload_n 0, 1) := by decide +kernel
theorem dX2_add_24 : decode cX2_add 24 = .ok (.getfield 18, 3) := by decide +kernel
theorem dX2_add_27 : decode cX2_add 27 = .ok (.iadd, 1) := by decide +kernel
theorem dX2_add_28 : decode cX2_add 28 = .ok (.istore_n 2, 1) := by decide +kernel
theorem dX2_add_29 : decode cX2_add 29 = .ok (.aload_n 0, 1) := by decide +kernel
theorem dX2_add_30 : decode cX2_add 30 = .ok (.getfield 9, 3) := by decide +kernel
theorem dX2_add_33 : decode cX2_add 33 = .ok (.aload_n 0, 1) := by decide +kernel
theorem dX2_add_34 : decode cX2_add 34 = .ok (.getfield 18, 3) := by decide +kernel
theorem dX2_add_37 : decode cX2_add 37 = .ok (.iload_n 1, 1) := by decide +kernel
theorem dX2_add_38 : decode cX2_add 38 = .ok (.iastore, 1) := by decide +kernel
theorem dX2_add_39 : decode cX2_add 39 = .ok (.aload_n 0, 1) := by decide +kernel
theorem dX2_add_40 : decode cX2_add 40 = .ok (.getfield 15, 3) := by decide +kernel
theorem dX2_add_43 : decode cX2_add 43 = .ok (.iload_n 2, 1) := by decide +kernel
theorem dX2_add_44 : decode cX2_add 44 = .ok (.iload_n 1, 1) := by decide +kernel
theorem dX2_add_45 : decode cX2_add 45 = .ok (.invokestatic 22, 3) := by decide +kernel
theorem dX2_add_48 : decode cX2_add 48 = .ok (.iastore, 1) := by decide +kernel
theorem dX2_add_49 : decode cX2_add 49 = .ok (.aload_n 0, 1) := by decide +kernel
theorem dX2_add_50 : decode cX2_add 50 = .ok (.dup, 1) := by decide +kernel
theorem dX2_add_51 : decode cX2_add 51 = .ok (.getfield 18, 3) := by decide +kernel
theorem dX2_add_54 : decode cX2_add 54 = .ok (.iconst 1, 1) := by decide +kernel
theorem dX2_add_55 : decode cX2_add 55 = .ok (.iadd, 1) := by decide +kernel
theorem dX2_add_56 : decode cX2_add 56 = .ok (.putfield 18, 3) := by decide +kernel
theorem dX2_add_59 : decode cX2_add 59 = .ok (.iconst 0, 1) := by decide +kernel
theorem dX2_add_60 : decode cX2_add 60 = .ok (.istore_n 3, 1) := by decide +kernel
theorem dX2_add_61 : decode cX2_add 61 = .ok (.iload_n 3, 1) := by decide +kernel
theorem dX2_add_62 : decode cX2_add 62 = .ok (.bipush 7, 2) := by decide +kernel
theorem dX2_add_64 : decode cX2_add 64 = .ok (.if_icmp .ge 45, 3) := by decide +kernel
theorem dX2_add_67 : decode cX2_add 67 = .ok (.iload_n 2, 1) := by decide +kernel
theorem dX2_add_68 : decode cX2_add 68 = .ok (.iconst 1, 1) := by decide +kernel
theorem dX2_add_69 : decode cX2_add 69 = .ok (.iand, 1) := by decide +kernel
theorem dX2_add_70 : decode cX2_add 70 = .ok (.iconst 1, 1) := by decide +kernel
theorem dX2_add_71 : decode cX2_add 71 = .ok (.if_icmp .ne 38, 3) := by decide +kernel
theorem dX2_add_74 : decode cX2_add 74 = .ok (.aload_n 0, 1) := by decide +kernel
theorem dX2_add_75 : decode cX2_add 75 = .ok (.getfield 15, 3) := by decide +kernel
theorem dX2_add_78 : decode cX2_add 78 = .ok (.iload_n 2, 1) := by decide +kernel
theorem dX2_add_79 : decode cX2_add 79 = .ok (.iconst 1, 1) := by decide +kernel
theorem dX2_add_80 : decode cX2_add 80 = .ok (.ishr, 1) := by decide +kernel
theorem dX2_add_81 : decode cX2_add 81 = .ok (.aload_n 0, 1) := by decide +kernel
theorem dX2_add_82 : decode cX2_add 82 = .ok (.getfield 15, 3) := by decide +kernel
theorem dX2_add_85 : decode cX2_add 85 = .ok (.iload_n 2, 1) := by decide +kernel
theorem dX2_add_86 : decode cX2_add 86 = .ok (.iconst 1, 1) := by decide +kernel
theorem dX2_add_87 : decode cX2_add 87 = .ok (.isub, 1) := by decide +kernel
theorem dX2_add_88 : decode cX2_add 88 = .ok (.iaload, 1) := by decide +kernel
theorem dX2_add_89 : decode cX2_add 89 = .ok (.aload_n 0, 1) := by decide +kernel
theorem dX2_add_90 : decode cX2_add 90 = .ok (.getfield 15, 3) := by decide +kernel
theorem dX2_add_93 : decode cX2_add 93 = .ok (.iload_n 2, 1) := by decide +kernel
theorem dX2_add_94 : decode cX2_add 94 = .ok (.iaload, 1) := by decide +kernel
theorem dX2_add_95 : decode cX2_add 95 = .ok (.invokestatic 26, 3) := by decide +kernel
theorem dX2_add_98 : decode cX2_add 98 = .ok (.iastore, 1) := by decide +kernel
theorem dX2_add_99 : decode cX2_add 99 = .ok (.iload_n 2, 1) := by decide +kernel
theorem dX2_add_100 : decode cX2_add 100 = .ok (.iconst 1, 1) := by decide +kernel
theorem dX2_add_101 : decode cX2_add 101 = .ok (.ishr, 1) := by decide +kernel
theorem dX2_add_102 : decode cX2_add 102 = .ok (.istore_n 2, 1) := by decide +kernel
theorem dX2_add_103 : decode cX2_add 103 = .ok (.iinc 3 1, 3) := by decide +kernel
theorem dX2_add_106 : decode cX2_add 106 = .ok (.goto (-45), 3) := by decide +kernel
theorem dX2_add_109 : decode cX2_add 109 = .ok (.return_, 1) := by decide +kernel
theorem dX2_valueAt_0 : decode cX2_valueAt 0 = .ok (.iload_n 1, 1) := by decide +kernel
theorem dX2_valueAt_1 : decode cX2_valueAt 1 = .ok (.ifCond .lt 29, 3) := by decide +kernel
theorem dX2_valueAt_4 : decode cX2_valueAt 4 = .ok (.iload_n 1, 1) := by decide +kernel
theorem dX2_valueAt_5 : decode cX2_valueAt 5 = .ok (.aload_n 0, 1) := by decide +kernel
theorem dX2_valueAt_6 : decode cX2_valueAt 6 = .ok (.getfield 18, 3) := by decide +kernel
theorem dX2_valueAt_9 : decode cX2_valueAt 9 = .ok (.if_icmp .ge 21, 3) := by decide +kernel
theorem dX2_valueAt_12 : decode cX2_valueAt 12 = .ok (.iload_n 1, 1) := by decide +kernel
theorem dX2_valueAt_13 : decode cX2_valueAt 13 = .ok (.aload_n 0, 1) := by decide +kernel
theorem dX2_valueAt_14 : decode cX2_valueAt 14 = .ok (.getfield 9, 3) := by decide +kernel
theorem dX2_valueAt_17 : decode cX2_valueAt 17 = .ok (.arraylength, 1) := by decide +kernel
theorem dX2_valueAt_18 : decode cX2_valueAt 18 = .ok (.if_icmp .ge 12, 3) := by decide +kernel
theorem dX2_valueAt_21 : decode cX2_valueAt 21 = .ok (.aload_n 0, 1) := by decide +kernel
theorem dX2_valueAt_22 : decode cX2_valueAt 22 = .ok (.getfield 9, 3) := by decide +kernel
theorem dX2_valueAt_25 : decode cX2_valueAt 25 = .ok (.iload_n 1, 1) := by decide +kernel
theorem dX2_valueAt_26 : decode cX2_valueAt 26 = .ok (.iaload, 1) := by decide +kernel
theorem dX2_valueAt_27 : decode cX2_valueAt 27 = .ok (.goto 4, 3) := by decide +kernel
theorem dX2_valueAt_30 : decode cX2_valueAt 30 = .ok (.iconst (-1), 1) := by decide +kernel
theorem dX2_valueAt_31 : decode cX2_valueAt 31 = .ok (.ireturn, 1) := by decide +kernel
theorem dX2_rootAt_0 : decode cX2_rootAt 0 = .ok (.aload_n 0, 1) := by decide +kernel
theorem dX2_rootAt_1 : decode cX2_rootAt 1 = .ok (.iconst 0, 1) := by decide +kernel
theorem dX2_rootAt_2 : decode cX2_rootAt 2 = .ok (.iload_n 1, 1) := by decide +kernel
theorem dX2_rootAt_3 : decode cX2_rootAt 3 = .ok (.invokevirtual 30, 3) := by decide +kernel
theorem dX2_rootAt_6 : decode cX2_rootAt 6 = .ok (.ireturn, 1) := by decide +kernel
theorem dX2_rootOfRow_0 : decode cX2_rootOfRow 0 = .ok (.iload_n 1, 1) := by decide +kernel
theorem dX2_rootOfRow_1 : decode cX2_rootOfRow 1 = .ok (.ifCond .lt 25, 3) := by decide +kernel
theorem dX2_rootOfRow_4 : decode cX2_rootOfRow 4 = .ok (.iload_n 2, 1) := by decide +kernel
theorem dX2_rootOfRow_5 : decode cX2_rootOfRow 5 = .ok (.ifCond .lt 21, 3) := by decide +kernel
theorem dX2_rootOfRow_8 : decode cX2_rootOfRow 8 = .ok (.iload_n 1, 1) := by decide +kernel
theorem dX2_rootOfRow_9 : decode cX2_rootOfRow 9 = .ok (.aload_n 0, 1) := by decide +kernel
theorem dX2_rootOfRow_10 : decode cX2_rootOfRow 10 = .ok (.getfield 18, 3) := by decide +kernel
theorem dX2_rootOfRow_13 : decode cX2_rootOfRow 13 = .ok (.if_icmp .gt 13, 3) := by decide +kernel
theorem dX2_rootOfRow_16 : decode cX2_rootOfRow 16 = .ok (.iload_n 2, 1) := by decide +kernel
theorem dX2_rootOfRow_17 : decode cX2_rootOfRow 17 = .ok (.aload_n 0, 1) := by decide +kernel
theorem dX2_rootOfRow_18 : decode cX2_rootOfRow 18 = .ok (.getfield 18, 3) := by decide +kernel
theorem dX2_rootOfRow_21 : decode cX2_rootOfRow 21 = .ok (.iload_n 1, 1) := by decide +kernel
theorem dX2_rootOfRow_22 : decode cX2_rootOfRow 22 = .ok (.isub, 1) := by decide +kernel
theorem dX2_rootOfRow_23 : decode cX2_rootOfRow 23 = .ok (.if_icmp .le 5, 3) := by decide +kernel
theorem dX2_rootOfRow_26 : decode cX2_rootOfRow 26 = .ok (.iconst 0, 1) := by decide +kernel
theorem dX2_rootOfRow_27 : decode cX2_rootOfRow 27 = .ok (.ireturn, 1) := by decide +kernel
theorem dX2_rootOfRow_28 : decode cX2_rootOfRow 28 = .ok (.iconst 0, 1) := by decide +kernel
theorem dX2_rootOfRow_29 : decode cX2_rootOfRow 29 = .ok (.istore_n 3, 1) := by decide +kernel
theorem dX2_rootOfRow_30 : decode cX2_rootOfRow 30 = .ok (.iload_n 1, 1) := by decide +kernel
theorem dX2_rootOfRow_31 : decode cX2_rootOfRow 31 = .ok (.iload_n 2, 1) := by decide +kernel
theorem dX2_rootOfRow_32 : decode cX2_rootOfRow 32 = .ok (.iadd, 1) := by decide +kernel
theorem dX2_rootOfRow_33 : decode cX2_rootOfRow 33 = .ok (.istore 4, 2) := by decide +kernel
theorem dX2_rootOfRow_35 : decode cX2_rootOfRow 35 = .ok (.iconst 0, 1) := by decide +kernel
theorem dX2_rootOfRow_36 : decode cX2_rootOfRow 36 = .ok (.istore 5, 2) := by decide +kernel
theorem dX2_rootOfRow_38 : decode cX2_rootOfRow 38 = .ok (.iload 5, 2) := by decide +kernel
theorem dX2_rootOfRow_40 : decode cX2_rootOfRow 40 = .ok (.bipush 7, 2) := by decide +kernel
theorem dX2_rootOfRow_42 : decode cX2_rootOfRow 42 = .ok (.if_icmp .ge 75, 3) := by decide +kernel
theorem dX2_rootOfRow_45 : decode cX2_rootOfRow 45 = .ok (.iload_n 2, 1) := by decide +kernel
theorem dX2_rootOfRow_46 : decode cX2_rootOfRow 46 = .ok (.iload 5, 2) := by decide +kernel
theorem dX2_rootOfRow_48 : decode cX2_rootOfRow 48 = .ok (.ishr, 1) := by decide +kernel
theorem dX2_rootOfRow_49 : decode cX2_rootOfRow 49 = .ok (.iconst 1, 1) := by decide +kernel
theorem dX2_rootOfRow_50 : decode cX2_rootOfRow 50 = .ok (.iand, 1) := by decide +kernel
theorem dX2_rootOfRow_51 : decode cX2_rootOfRow 51 = .ok (.iconst 1, 1) := by decide +kernel
theorem dX2_rootOfRow_52 : decode cX2_rootOfRow 52 = .ok (.if_icmp .ne 59, 3) := by decide +kernel
theorem dX2_rootOfRow_55 : decode cX2_rootOfRow 55 = .ok (.iload 4, 2) := by decide +kernel
theorem dX2_rootOfRow_57 : decode cX2_rootOfRow 57 = .ok (.iload_n 1, 1) := by decide +kernel
theorem dX2_rootOfRow_58 : decode cX2_rootOfRow 58 = .ok (.iload_n 2, 1) := by decide +kernel
theorem dX2_rootOfRow_59 : decode cX2_rootOfRow 59 = .ok (.iadd, 1) := by decide +kernel
theorem dX2_rootOfRow_60 : decode cX2_rootOfRow 60 = .ok (.if_icmp .ne 7, 3) := by decide +kernel
theorem dX2_rootOfRow_63 : decode cX2_rootOfRow 63 = .ok (.iconst 1, 1) := by decide +kernel
theorem dX2_rootOfRow_64 : decode cX2_rootOfRow 64 = .ok (.goto 4, 3) := by decide +kernel
theorem dX2_rootOfRow_67 : decode cX2_rootOfRow 67 = .ok (.iconst 0, 1) := by decide +kernel
theorem dX2_rootOfRow_68 : decode cX2_rootOfRow 68 = .ok (.istore 6, 2) := by decide +kernel
theorem dX2_rootOfRow_70 : decode cX2_rootOfRow 70 = .ok (.iload 4, 2) := by decide +kernel
theorem dX2_rootOfRow_72 : decode cX2_rootOfRow 72 = .ok (.iconst 1, 1) := by decide +kernel
theorem dX2_rootOfRow_73 : decode cX2_rootOfRow 73 = .ok (.iload 5, 2) := by decide +kernel
theorem dX2_rootOfRow_75 : decode cX2_rootOfRow 75 = .ok (.ishl, 1) := by decide +kernel
theorem dX2_rootOfRow_76 : decode cX2_rootOfRow 76 = .ok (.isub, 1) := by decide +kernel
theorem dX2_rootOfRow_77 : decode cX2_rootOfRow 77 = .ok (.istore 4, 2) := by decide +kernel
theorem dX2_rootOfRow_79 : decode cX2_rootOfRow 79 = .ok (.aload_n 0, 1) := by decide +kernel
theorem dX2_rootOfRow_80 : decode cX2_rootOfRow 80 = .ok (.sipush 128, 3) := by decide +kernel
theorem dX2_rootOfRow_83 : decode cX2_rootOfRow 83 = .ok (.iload 4, 2) := by decide +kernel
theorem dX2_rootOfRow_85 : decode cX2_rootOfRow 85 = .ok (.iadd, 1) := by decide +kernel
theorem dX2_rootOfRow_86 : decode cX2_rootOfRow 86 = .ok (.iload 5, 2) := by decide +kernel
theorem dX2_rootOfRow_88 : decode cX2_rootOfRow 88 = .ok (.ishr, 1) := by decide +kernel
theorem dX2_rootOfRow_89 : decode cX2_rootOfRow 89 = .ok (.invokevirtual 33, 3) := by decide +kernel
theorem dX2_rootOfRow_92 : decode cX2_rootOfRow 92 = .ok (.istore 7, 2) := by decide +kernel
theorem dX2_rootOfRow_94 : decode cX2_rootOfRow 94 = .ok (.iload 6, 2) := by decide +kernel
theorem dX2_rootOfRow_96 : decode cX2_rootOfRow 96 = .ok (.ifCond .eq 8, 3) := by decide +kernel
theorem dX2_rootOfRow_99 : decode cX2_rootOfRow 99 = .ok (.iload 7, 2) := by decide +kernel
theorem dX2_rootOfRow_101 : decode cX2_rootOfRow 101 = .ok (.goto 9, 3) := by decide +kernel
theorem dX2_rootOfRow_104 : decode cX2_rootOfRow 104 = .ok (.iload 7, 2) := by decide +kernel
theorem dX2_rootOfRow_106 : decode cX2_rootOfRow 106 = .ok (.iload_n 3, 1) := by decide +kernel
theorem dX2_rootOfRow_107 : decode cX2_rootOfRow 107 = .ok (.invokestatic 26, 3) := by decide +kernel
theorem dX2_rootOfRow_110 : decode cX2_rootOfRow 110 = .ok (.istore_n 3, 1) := by decide +kernel
theorem dX2_rootOfRow_111 : decode cX2_rootOfRow 111 = .ok (.iinc 5 1, 3) := by decide +kernel
theorem dX2_rootOfRow_114 : decode cX2_rootOfRow 114 = .ok (.goto (-76), 3) := by decide +kernel
theorem dX2_rootOfRow_117 : decode cX2_rootOfRow 117 = .ok (.iload_n 3, 1) := by decide +kernel
theorem dX2_rootOfRow_118 : decode cX2_rootOfRow 118 = .ok (.ireturn, 1) := by decide +kernel
theorem dX2_blockAt_0 : decode cX2_blockAt 0 = .ok (.iload_n 1, 1) := by decide +kernel
theorem dX2_blockAt_1 : decode cX2_blockAt 1 = .ok (.ifCond .lt 21, 3) := by decide +kernel
theorem dX2_blockAt_4 : decode cX2_blockAt 4 = .ok (.iload_n 1, 1) := by decide +kernel
theorem dX2_blockAt_5 : decode cX2_blockAt 5 = .ok (.aload_n 0, 1) := by decide +kernel
theorem dX2_blockAt_6 : decode cX2_blockAt 6 = .ok (.getfield 15, 3) := by decide +kernel
theorem dX2_blockAt_9 : decode cX2_blockAt 9 = .ok (.arraylength, 1) := by decide +kernel
theorem dX2_blockAt_10 : decode cX2_blockAt 10 = .ok (.if_icmp .ge 12, 3) := by decide +kernel
theorem dX2_blockAt_13 : decode cX2_blockAt 13 = .ok (.aload_n 0, 1) := by decide +kernel
theorem dX2_blockAt_14 : decode cX2_blockAt 14 = .ok (.getfield 15, 3) := by decide +kernel
theorem dX2_blockAt_17 : decode cX2_blockAt 17 = .ok (.iload_n 1, 1) := by decide +kernel
theorem dX2_blockAt_18 : decode cX2_blockAt 18 = .ok (.iaload, 1) := by decide +kernel
theorem dX2_blockAt_19 : decode cX2_blockAt 19 = .ok (.goto 4, 3) := by decide +kernel
theorem dX2_blockAt_22 : decode cX2_blockAt 22 = .ok (.iconst 0, 1) := by decide +kernel
theorem dX2_blockAt_23 : decode cX2_blockAt 23 = .ok (.ireturn, 1) := by decide +kernel
theorem dX2_rootFromValues_0 : decode cX2_rootFromValues 0 = .ok (.iload_n 1, 1) := by decide +kernel
theorem dX2_rootFromValues_1 : decode cX2_rootFromValues 1 = .ok (.iconst 1, 1) := by decide +kernel
theorem dX2_rootFromValues_2 : decode cX2_rootFromValues 2 = .ok (.if_icmp .lt 11, 3) := by decide +kernel
theorem dX2_rootFromValues_5 : decode cX2_rootFromValues 5 = .ok (.iload_n 1, 1) := by decide +kernel
theorem dX2_rootFromValues_6 : decode cX2_rootFromValues 6 = .ok (.aload_n 0, 1) := by decide +kernel
theorem dX2_rootFromValues_7 : decode cX2_rootFromValues 7 = .ok (.getfield 18, 3) := by decide +kernel
theorem dX2_rootFromValues_10 : decode cX2_rootFromValues 10 = .ok (.if_icmp .le 7, 3) := by decide +kernel
theorem dX2_rootFromValues_13 : decode cX2_rootFromValues 13 = .ok (.iconst 0, 1) := by decide +kernel
theorem dX2_rootFromValues_14 : decode cX2_rootFromValues 14 = .ok (.goto 13, 3) := by decide +kernel
theorem dX2_rootFromValues_17 : decode cX2_rootFromValues 17 = .ok (.aload_n 0, 1) := by decide +kernel
theorem dX2_rootFromValues_18 : decode cX2_rootFromValues 18 = .ok (.getfield 9, 3) := by decide +kernel
theorem dX2_rootFromValues_21 : decode cX2_rootFromValues 21 = .ok (.iconst 0, 1) := by decide +kernel
theorem dX2_rootFromValues_22 : decode cX2_rootFromValues 22 = .ok (.iload_n 1, 1) := by decide +kernel
theorem dX2_rootFromValues_23 : decode cX2_rootFromValues 23 = .ok (.iconst 0, 1) := by decide +kernel
theorem dX2_rootFromValues_24 : decode cX2_rootFromValues 24 = .ok (.invokestatic 36, 3) := by decide +kernel
theorem dX2_rootFromValues_27 : decode cX2_rootFromValues 27 = .ok (.ireturn, 1) := by decide +kernel
theorem dX2_rootAnewOf_0 : decode cX2_rootAnewOf 0 = .ok (.iload_n 3, 1) := by decide +kernel
theorem dX2_rootAnewOf_1 : decode cX2_rootAnewOf 1 = .ok (.bipush 7, 2) := by decide +kernel
theorem dX2_rootAnewOf_3 : decode cX2_rootAnewOf 3 = .ok (.if_icmp .gt 13, 3) := by decide +kernel
theorem dX2_rootAnewOf_6 : decode cX2_rootAnewOf 6 = .ok (.iload_n 1, 1) := by decide +kernel
theorem dX2_rootAnewOf_7 : decode cX2_rootAnewOf 7 = .ok (.ifCond .lt 9, 3) := by decide +kernel
theorem dX2_rootAnewOf_10 : decode cX2_rootAnewOf 10 = .ok (.iload_n 1, 1) := by decide +kernel
theorem dX2_rootAnewOf_11 : decode cX2_rootAnewOf 11 = .ok (.aload_n 0, 1) := by decide +kernel
theorem dX2_rootAnewOf_12 : decode cX2_rootAnewOf 12 = .ok (.arraylength, 1) := by decide +kernel
theorem dX2_rootAnewOf_13 : decode cX2_rootAnewOf 13 = .ok (.if_icmp .lt 5, 3) := by decide +kernel
theorem dX2_rootAnewOf_16 : decode cX2_rootAnewOf 16 = .ok (.iconst 0, 1) := by decide +kernel
theorem dX2_rootAnewOf_17 : decode cX2_rootAnewOf 17 = .ok (.ireturn, 1) := by decide +kernel
theorem dX2_rootAnewOf_18 : decode cX2_rootAnewOf 18 = .ok (.iload_n 2, 1) := by decide +kernel
theorem dX2_rootAnewOf_19 : decode cX2_rootAnewOf 19 = .ok (.iconst 1, 1) := by decide +kernel
theorem dX2_rootAnewOf_20 : decode cX2_rootAnewOf 20 = .ok (.if_icmp .gt 10, 3) := by decide +kernel
theorem dX2_rootAnewOf_23 : decode cX2_rootAnewOf 23 = .ok (.aload_n 0, 1) := by decide +kernel
theorem dX2_rootAnewOf_24 : decode cX2_rootAnewOf 24 = .ok (.iload_n 1, 1) := by decide +kernel
theorem dX2_rootAnewOf_25 : decode cX2_rootAnewOf 25 = .ok (.iaload, 1) := by decide +kernel
theorem dX2_rootAnewOf_26 : decode cX2_rootAnewOf 26 = .ok (.invokestatic 22, 3) := by decide +kernel
theorem dX2_rootAnewOf_29 : decode cX2_rootAnewOf 29 = .ok (.ireturn, 1) := by decide +kernel
theorem dX2_rootAnewOf_30 : decode cX2_rootAnewOf 30 = .ok (.iload_n 2, 1) := by decide +kernel
theorem dX2_rootAnewOf_31 : decode cX2_rootAnewOf 31 = .ok (.invokestatic 40, 3) := by decide +kernel
theorem dX2_rootAnewOf_34 : decode cX2_rootAnewOf 34 = .ok (.istore 4, 2) := by decide +kernel
theorem dX2_rootAnewOf_36 : decode cX2_rootAnewOf 36 = .ok (.aload_n 0, 1) := by decide +kernel
theorem dX2_rootAnewOf_37 : decode cX2_rootAnewOf 37 = .ok (.iload_n 1, 1) := by decide +kernel
theorem dX2_rootAnewOf_38 : decode cX2_rootAnewOf 38 = .ok (.iload 4, 2) := by decide +kernel
theorem dX2_rootAnewOf_40 : decode cX2_rootAnewOf 40 = .ok (.iload_n 3, 1) := by decide +kernel
theorem dX2_rootAnewOf_41 : decode cX2_rootAnewOf 41 = .ok (.iconst 1, 1) := by decide +kernel
theorem dX2_rootAnewOf_42 : decode cX2_rootAnewOf 42 = .ok (.iadd, 1) := by decide +kernel
theorem dX2_rootAnewOf_43 : decode cX2_rootAnewOf 43 = .ok (.invokestatic 36, 3) := by decide +kernel
theorem dX2_rootAnewOf_46 : decode cX2_rootAnewOf 46 = .ok (.aload_n 0, 1) := by decide +kernel
theorem dX2_rootAnewOf_47 : decode cX2_rootAnewOf 47 = .ok (.iload_n 1, 1) := by decide +kernel
theorem dX2_rootAnewOf_48 : decode cX2_rootAnewOf 48 = .ok (.iload 4, 2) := by decide +kernel
theorem dX2_rootAnewOf_50 : decode cX2_rootAnewOf 50 = .ok (.iadd, 1) := by decide +kernel
theorem dX2_rootAnewOf_51 : decode cX2_rootAnewOf 51 = .ok (.iload_n 2, 1) := by decide +kernel
theorem dX2_rootAnewOf_52 : decode cX2_rootAnewOf 52 = .ok (.iload 4, 2) := by decide +kernel
theorem dX2_rootAnewOf_54 : decode cX2_rootAnewOf 54 = .ok (.isub, 1) := by decide +kernel
theorem dX2_rootAnewOf_55 : decode cX2_rootAnewOf 55 = .ok (.iload_n 3, 1) := by decide +kernel
theorem dX2_rootAnewOf_56 : decode cX2_rootAnewOf 56 = .ok (.iconst 1, 1) := by decide +kernel
theorem dX2_rootAnewOf_57 : decode cX2_rootAnewOf 57 = .ok (.iadd, 1) := by decide +kernel
theorem dX2_rootAnewOf_58 : decode cX2_rootAnewOf 58 = .ok (.invokestatic 36, 3) := by decide +kernel
theorem dX2_rootAnewOf_61 : decode cX2_rootAnewOf 61 = .ok (.invokestatic 26, 3) := by decide +kernel
theorem dX2_rootAnewOf_64 : decode cX2_rootAnewOf 64 = .ok (.ireturn, 1) := by decide +kernel
theorem dX2_greatestPowerBelow_0 : decode cX2_greatestPowerBelow 0 = .ok (.iconst 1, 1) := by decide +kernel
theorem dX2_greatestPowerBelow_1 : decode cX2_greatestPowerBelow 1 = .ok (.istore_n 1, 1) := by decide +kernel
theorem dX2_greatestPowerBelow_2 : decode cX2_greatestPowerBelow 2 = .ok (.iconst 0, 1) := by decide +kernel
theorem dX2_greatestPowerBelow_3 : decode cX2_greatestPowerBelow 3 = .ok (.istore_n 2, 1) := by decide +kernel
theorem dX2_greatestPowerBelow_4 : decode cX2_greatestPowerBelow 4 = .ok (.iload_n 2, 1) := by decide +kernel
theorem dX2_greatestPowerBelow_5 : decode cX2_greatestPowerBelow 5 = .ok (.bipush 7, 2) := by decide +kernel
theorem dX2_greatestPowerBelow_7 : decode cX2_greatestPowerBelow 7 = .ok (.if_icmp .ge 20, 3) := by decide +kernel
theorem dX2_greatestPowerBelow_10 : decode cX2_greatestPowerBelow 10 = .ok (.iconst 2, 1) := by decide +kernel
theorem dX2_greatestPowerBelow_11 : decode cX2_greatestPowerBelow 11 = .ok (.iload_n 1, 1) := by decide +kernel
theorem dX2_greatestPowerBelow_12 : decode cX2_greatestPowerBelow 12 = .ok (.imul, 1) := by decide +kernel
theorem dX2_greatestPowerBelow_13 : decode cX2_greatestPowerBelow 13 = .ok (.iload_n 0, 1) := by decide +kernel
theorem dX2_greatestPowerBelow_14 : decode cX2_greatestPowerBelow 14 = .ok (.if_icmp .ge 13, 3) := by decide +kernel
theorem dX2_greatestPowerBelow_17 : decode cX2_greatestPowerBelow 17 = .ok (.iconst 2, 1) := by decide +kernel
theorem dX2_greatestPowerBelow_18 : decode cX2_greatestPowerBelow 18 = .ok (.iload_n 1, 1) := by decide +kernel
theorem dX2_greatestPowerBelow_19 : decode cX2_greatestPowerBelow 19 = .ok (.imul, 1) := by decide +kernel
theorem dX2_greatestPowerBelow_20 : decode cX2_greatestPowerBelow 20 = .ok (.istore_n 1, 1) := by decide +kernel
theorem dX2_greatestPowerBelow_21 : decode cX2_greatestPowerBelow 21 = .ok (.iinc 2 1, 3) := by decide +kernel
theorem dX2_greatestPowerBelow_24 : decode cX2_greatestPowerBelow 24 = .ok (.goto (-20), 3) := by decide +kernel
theorem dX2_greatestPowerBelow_27 : decode cX2_greatestPowerBelow 27 = .ok (.iload_n 1, 1) := by decide +kernel
theorem dX2_greatestPowerBelow_28 : decode cX2_greatestPowerBelow 28 = .ok (.ireturn, 1) := by decide +kernel
theorem dX3_init_0 : decode cX3_init 0 = .ok (.aload_n 0, 1) := by decide +kernel
theorem dX3_init_1 : decode cX3_init 1 = .ok (.invokespecial 3, 3) := by decide +kernel
theorem dX3_init_4 : decode cX3_init 4 = .ok (.aload_n 0, 1) := by decide +kernel
theorem dX3_init_5 : decode cX3_init 5 = .ok (.iconst (-1), 1) := by decide +kernel
theorem dX3_init_6 : decode cX3_init 6 = .ok (.putfield 9, 3) := by decide +kernel
theorem dX3_init_9 : decode cX3_init 9 = .ok (.aload_n 0, 1) := by decide +kernel
theorem dX3_init_10 : decode cX3_init 10 = .ok (.iconst (-1), 1) := by decide +kernel
theorem dX3_init_11 : decode cX3_init 11 = .ok (.putfield 15, 3) := by decide +kernel
theorem dX3_init_14 : decode cX3_init 14 = .ok (.aload_n 0, 1) := by decide +kernel
theorem dX3_init_15 : decode cX3_init 15 = .ok (.iconst (-1), 1) := by decide +kernel
theorem dX3_init_16 : decode cX3_init 16 = .ok (.putfield 18, 3) := by decide +kernel
theorem dX3_init_19 : decode cX3_init 19 = .ok (.return_, 1) := by decide +kernel
theorem dX3_look_0 : decode cX3_look 0 = .ok (.aload_n 0, 1) := by decide +kernel
theorem dX3_look_1 : decode cX3_look 1 = .ok (.getfield 21, 3) := by decide +kernel
theorem dX3_look_4 : decode cX3_look 4 = .ok (.ifnull 29, 3) := by decide +kernel
theorem dX3_look_7 : decode cX3_look 7 = .ok (.aload_n 1, 1) := by decide +kernel
theorem dX3_look_8 : decode cX3_look 8 = .ok (.getfield 25, 3) := by decide +kernel
theorem dX3_look_11 : decode cX3_look 11 = .ok (.aload_n 0, 1) := by decide +kernel
theorem dX3_look_12 : decode cX3_look 12 = .ok (.getfield 9, 3) := by decide +kernel
theorem dX3_look_15 : decode cX3_look 15 = .ok (.if_icmp .lt 22, 3) := by decide +kernel
theorem dX3_look_18 : decode cX3_look 18 = .ok (.aload_n 1, 1) := by decide +kernel
theorem dX3_look_19 : decode cX3_look 19 = .ok (.aload_n 0, 1) := by decide +kernel
theorem dX3_look_20 : decode cX3_look 20 = .ok (.getfield 9, 3) := by decide +kernel
theorem dX3_look_23 : decode cX3_look 23 = .ok (.invokevirtual 30, 3) := by decide +kernel
theorem dX3_look_26 : decode cX3_look 26 = .ok (.aload_n 0, 1) := by decide +kernel
theorem dX3_look_27 : decode cX3_look 27 = .ok (.getfield 15, 3) := by decide +kernel
theorem dX3_look_30 : decode cX3_look 30 = .ok (.if_icmp .ne 7, 3) := by decide +kernel
theorem dX3_look_33 : decode cX3_look 33 = .ok (.iconst 1, 1) := by decide +kernel
theorem dX3_look_34 : decode cX3_look 34 = .ok (.goto 4, 3) := by decide +kernel
theorem dX3_look_37 : decode cX3_look 37 = .ok (.iconst 0, 1) := by decide +kernel
theorem dX3_look_38 : decode cX3_look 38 = .ok (.istore_n 2, 1) := by decide +kernel
theorem dX3_look_39 : decode cX3_look 39 = .ok (.iload_n 2, 1) := by decide +kernel
theorem dX3_look_40 : decode cX3_look 40 = .ok (.ifCond .eq 36, 3) := by decide +kernel
theorem dX3_look_43 : decode cX3_look 43 = .ok (.aload_n 0, 1) := by decide +kernel
theorem dX3_look_44 : decode cX3_look 44 = .ok (.aload_n 1, 1) := by decide +kernel
theorem dX3_look_45 : decode cX3_look 45 = .ok (.invokevirtual 34, 3) := by decide +kernel
theorem dX3_look_48 : decode cX3_look 48 = .ok (.aload_n 0, 1) := by decide +kernel
theorem dX3_look_49 : decode cX3_look 49 = .ok (.aload_n 1, 1) := by decide +kernel
theorem dX3_look_50 : decode cX3_look 50 = .ok (.putfield 21, 3) := by decide +kernel
theorem dX3_look_53 : decode cX3_look 53 = .ok (.aload_n 0, 1) := by decide +kernel
theorem dX3_look_54 : decode cX3_look 54 = .ok (.aload_n 1, 1) := by decide +kernel
theorem dX3_look_55 : decode cX3_look 55 = .ok (.getfield 25, 3) := by decide +kernel
theorem dX3_look_58 : decode cX3_look 58 = .ok (.putfield 9, 3) := by decide +kernel
theorem dX3_look_61 : decode cX3_look 61 = .ok (.aload_n 0, 1) := by decide +kernel
theorem dX3_look_62 : decode cX3_look 62 = .ok (.aload_n 1, 1) := by decide +kernel
theorem dX3_look_63 : decode cX3_look 63 = .ok (.aload_n 0, 1) := by decide +kernel
theorem dX3_look_64 : decode cX3_look 64 = .ok (.getfield 9, 3) := by decide +kernel
theorem dX3_look_67 : decode cX3_look 67 = .ok (.invokevirtual 30, 3) := by decide +kernel
theorem dX3_look_70 : decode cX3_look 70 = .ok (.putfield 15, 3) := by decide +kernel
theorem dX3_look_73 : decode cX3_look 73 = .ok (.goto 8, 3) := by decide +kernel
theorem dX3_look_76 : decode cX3_look 76 = .ok (.aload_n 0, 1) := by decide +kernel
theorem dX3_look_77 : decode cX3_look 77 = .ok (.iconst 1, 1) := by decide +kernel
theorem dX3_look_78 : decode cX3_look 78 = .ok (.putfield 38, 3) := by decide +kernel
theorem dX3_look_81 : decode cX3_look 81 = .ok (.iload_n 2, 1) := by decide +kernel
theorem dX3_look_82 : decode cX3_look 82 = .ok (.ireturn, 1) := by decide +kernel
theorem dX3_countNew_0 : decode cX3_countNew 0 = .ok (.aload_n 0, 1) := by decide +kernel
theorem dX3_countNew_1 : decode cX3_countNew 1 = .ok (.getfield 18, 3) := by decide +kernel
theorem dX3_countNew_4 : decode cX3_countNew 4 = .ok (.iconst (-1), 1) := by decide +kernel
theorem dX3_countNew_5 : decode cX3_countNew 5 = .ok (.if_icmp .ne 4, 3) := by decide +kernel
theorem dX3_countNew_8 : decode cX3_countNew 8 = .ok (.return_, 1) := by decide +kernel
theorem dX3_countNew_9 : decode cX3_countNew 9 = .ok (.aload_n 0, 1) := by decide +kernel
theorem dX3_countNew_10 : decode cX3_countNew 10 = .ok (.getfield 21, 3) := by decide +kernel
theorem dX3_countNew_13 : decode cX3_countNew 13 = .ok (.ifnonnull 7, 3) := by decide +kernel
theorem dX3_countNew_16 : decode cX3_countNew 16 = .ok (.iconst 0, 1) := by decide +kernel
theorem dX3_countNew_17 : decode cX3_countNew 17 = .ok (.goto 7, 3) := by decide +kernel
theorem dX3_countNew_20 : decode cX3_countNew 20 = .ok (.aload_n 0, 1) := by decide +kernel
theorem dX3_countNew_21 : decode cX3_countNew 21 = .ok (.getfield 9, 3) := by decide +kernel
theorem dX3_countNew_24 : decode cX3_countNew 24 = .ok (.istore_n 2, 1) := by decide +kernel
theorem dX3_countNew_25 : decode cX3_countNew 25 = .ok (.iload_n 2, 1) := by decide +kernel
theorem dX3_countNew_26 : decode cX3_countNew 26 = .ok (.aload_n 1, 1) := by decide +kernel
theorem dX3_countNew_27 : decode cX3_countNew 27 = .ok (.getfield 25, 3) := by decide +kernel
theorem dX3_countNew_30 : decode cX3_countNew 30 = .ok (.if_icmp .ge 31, 3) := by decide +kernel
theorem dX3_countNew_33 : decode cX3_countNew 33 = .ok (.aload_n 1, 1) := by decide +kernel
theorem dX3_countNew_34 : decode cX3_countNew 34 = .ok (.iload_n 2, 1) := by decide +kernel
theorem dX3_countNew_35 : decode cX3_countNew 35 = .ok (.invokevirtual 42, 3) := by decide +kernel
theorem dX3_countNew_38 : decode cX3_countNew 38 = .ok (.aload_n 0, 1) := by decide +kernel
theorem dX3_countNew_39 : decode cX3_countNew 39 = .ok (.getfield 18, 3) := by decide +kernel
theorem dX3_countNew_42 : decode cX3_countNew 42 = .ok (.if_icmp .ne 13, 3) := by decide +kernel
theorem dX3_countNew_45 : decode cX3_countNew 45 = .ok (.aload_n 0, 1) := by decide +kernel
theorem dX3_countNew_46 : decode cX3_countNew 46 = .ok (.dup, 1) := by decide +kernel
theorem dX3_countNew_47 : decode cX3_countNew 47 = .ok (.getfield 45, 3) := by decide +kernel
theorem dX3_countNew_50 : decode cX3_countNew 50 = .ok (.iconst 1, 1) := by decide +kernel
theorem dX3_countNew_51 : decode cX3_countNew 51 = .ok (.iadd, 1) := by decide +kernel
theorem dX3_countNew_52 : decode cX3_countNew 52 = .ok (.putfield 45, 3) := by decide +kernel
theorem dX3_countNew_55 : decode cX3_countNew 55 = .ok (.iinc 2 1, 3) := by decide +kernel
theorem dX3_countNew_58 : decode cX3_countNew 58 = .ok (.goto (-33), 3) := by decide +kernel
theorem dX3_countNew_61 : decode cX3_countNew 61 = .ok (.return_, 1) := by decide +kernel
theorem dX3_fits_0 : decode cX3_fits 0 = .ok (.aload_n 0, 1) := by decide +kernel
theorem dX3_fits_1 : decode cX3_fits 1 = .ok (.getfield 21, 3) := by decide +kernel
theorem dX3_fits_4 : decode cX3_fits 4 = .ok (.ifnull 10, 3) := by decide +kernel
theorem dX3_fits_7 : decode cX3_fits 7 = .ok (.aload_n 1, 1) := by decide +kernel
theorem dX3_fits_8 : decode cX3_fits 8 = .ok (.getfield 21, 3) := by decide +kernel
theorem dX3_fits_11 : decode cX3_fits 11 = .ok (.ifnonnull 5, 3) := by decide +kernel
theorem dX3_fits_14 : decode cX3_fits 14 = .ok (.iconst 1, 1) := by decide +kernel
theorem dX3_fits_15 : decode cX3_fits 15 = .ok (.ireturn, 1) := by decide +kernel
theorem dX3_fits_16 : decode cX3_fits 16 = .ok (.aload_n 0, 1) := by decide +kernel
theorem dX3_fits_17 : decode cX3_fits 17 = .ok (.getfield 9, 3) := by decide +kernel
theorem dX3_fits_20 : decode cX3_fits 20 = .ok (.aload_n 1, 1) := by decide +kernel
theorem dX3_fits_21 : decode cX3_fits 21 = .ok (.getfield 9, 3) := by decide +kernel
theorem dX3_fits_24 : decode cX3_fits 24 = .ok (.if_icmp .lt 29, 3) := by decide +kernel
theorem dX3_fits_27 : decode cX3_fits 27 = .ok (.aload_n 0, 1) := by decide +kernel
theorem dX3_fits_28 : decode cX3_fits 28 = .ok (.getfield 21, 3) := by decide +kernel
theorem dX3_fits_31 : decode cX3_fits 31 = .ok (.aload_n 1, 1) := by decide +kernel
theorem dX3_fits_32 : decode cX3_fits 32 = .ok (.getfield 9, 3) := by decide +kernel
theorem dX3_fits_35 : decode cX3_fits 35 = .ok (.invokevirtual 30, 3) := by decide +kernel
theorem dX3_fits_38 : decode cX3_fits 38 = .ok (.aload_n 1, 1) := by decide +kernel
theorem dX3_fits_39 : decode cX3_fits 39 = .ok (.getfield 15, 3) := by decide +kernel
theorem dX3_fits_42 : decode cX3_fits 42 = .ok (.if_icmp .ne 7, 3) := by decide +kernel
theorem dX3_fits_45 : decode cX3_fits 45 = .ok (.iconst 1, 1) := by decide +kernel
theorem dX3_fits_46 : decode cX3_fits 46 = .ok (.goto 30, 3) := by decide +kernel
theorem dX3_fits_49 : decode cX3_fits 49 = .ok (.iconst 0, 1) := by decide +kernel
theorem dX3_fits_50 : decode cX3_fits 50 = .ok (.goto 26, 3) := by decide +kernel
theorem dX3_fits_53 : decode cX3_fits 53 = .ok (.aload_n 1, 1) := by decide +kernel
theorem dX3_fits_54 : decode cX3_fits 54 = .ok (.getfield 21, 3) := by decide +kernel
theorem dX3_fits_57 : decode cX3_fits 57 = .ok (.aload_n 0, 1) := by decide +kernel
theorem dX3_fits_58 : decode cX3_fits 58 = .ok (.getfield 9, 3) := by decide +kernel
theorem dX3_fits_61 : decode cX3_fits 61 = .ok (.invokevirtual 30, 3) := by decide +kernel
theorem dX3_fits_64 : decode cX3_fits 64 = .ok (.aload_n 0, 1) := by decide +kernel
theorem dX3_fits_65 : decode cX3_fits 65 = .ok (.getfield 15, 3) := by decide +kernel
theorem dX3_fits_68 : decode cX3_fits 68 = .ok (.if_icmp .ne 7, 3) := by decide +kernel
theorem dX3_fits_71 : decode cX3_fits 71 = .ok (.iconst 1, 1) := by decide +kernel
theorem dX3_fits_72 : decode cX3_fits 72 = .ok (.goto 4, 3) := by decide +kernel
theorem dX3_fits_75 : decode cX3_fits 75 = .ok (.iconst 0, 1) := by decide +kernel
theorem dX3_fits_76 : decode cX3_fits 76 = .ok (.ireturn, 1) := by decide +kernel
theorem dX4_init_0 : decode cX4_init 0 = .ok (.aload_n 0, 1) := by decide +kernel
theorem dX4_init_1 : decode cX4_init 1 = .ok (.invokespecial 3, 3) := by decide +kernel
theorem dX4_init_4 : decode cX4_init 4 = .ok (.aload_n 0, 1) := by decide +kernel
theorem dX4_init_5 : decode cX4_init 5 = .ok (.bipush 12, 2) := by decide +kernel
theorem dX4_init_7 : decode cX4_init 7 = .ok (.newarray .int, 2) := by decide +kernel
theorem dX4_init_9 : decode cX4_init 9 = .ok (.putfield 9, 3) := by decide +kernel
theorem dX4_init_12 : decode cX4_init 12 = .ok (.aload_n 0, 1) := by decide +kernel
theorem dX4_init_13 : decode cX4_init 13 = .ok (.bipush 12, 2) := by decide +kernel
theorem dX4_init_15 : decode cX4_init 15 = .ok (.newarray .int, 2) := by decide +kernel
theorem dX4_init_17 : decode cX4_init 17 = .ok (.putfield 15, 3) := by decide +kernel
theorem dX4_init_20 : decode cX4_init 20 = .ok (.aload_n 0, 1) := by decide +kernel
theorem dX4_init_21 : decode cX4_init 21 = .ok (.bipush 12, 2) := by decide +kernel
theorem dX4_init_23 : decode cX4_init 23 = .ok (.newarray .boolean, 2) := by decide +kernel
theorem dX4_init_25 : decode cX4_init 25 = .ok (.putfield 18, 3) := by decide +kernel
theorem dX4_init_28 : decode cX4_init 28 = .ok (.return_, 1) := by decide +kernel
theorem dX4_leadToLeaf_0 : decode cX4_leadToLeaf 0 = .ok (.aload_n 0, 1) := by decide +kernel
theorem dX4_leadToLeaf_1 : decode cX4_leadToLeaf 1 = .ok (.iload_n 1, 1) := by decide +kernel
theorem dX4_leadToLeaf_2 : decode cX4_leadToLeaf 2 = .ok (.iload_n 2, 1) := by decide +kernel
theorem dX4_leadToLeaf_3 : decode cX4_leadToLeaf 3 = .ok (.invokevirtual 22, 3) := by decide +kernel
theorem dX4_leadToLeaf_6 : decode cX4_leadToLeaf 6 = .ok (.iconst 0, 1) := by decide +kernel
theorem dX4_leadToLeaf_7 : decode cX4_leadToLeaf 7 = .ok (.istore_n 3, 1) := by decide +kernel
theorem dX4_leadToLeaf_8 : decode cX4_leadToLeaf 8 = .ok (.iload_n 3, 1) := by decide +kernel
theorem dX4_leadToLeaf_9 : decode cX4_leadToLeaf 9 = .ok (.bipush 12, 2) := by decide +kernel
theorem dX4_leadToLeaf_11 : decode cX4_leadToLeaf 11 = .ok (.if_icmp .ge 21, 3) := by decide +kernel
theorem dX4_leadToLeaf_14 : decode cX4_leadToLeaf 14 = .ok (.aload_n 0, 1) := by decide +kernel
theorem dX4_leadToLeaf_15 : decode cX4_leadToLeaf 15 = .ok (.getfield 26, 3) := by decide +kernel
theorem dX4_leadToLeaf_18 : decode cX4_leadToLeaf 18 = .ok (.iconst 1, 1) := by decide +kernel
theorem dX4_leadToLeaf_19 : decode cX4_leadToLeaf 19 = .ok (.if_icmp .le 13, 3) := by decide +kernel
theorem dX4_leadToLeaf_22 : decode cX4_leadToLeaf 22 = .ok (.aload_n 0, 1) := by decide +kernel
theorem dX4_leadToLeaf_23 : decode cX4_leadToLeaf 23 = .ok (.invokevirtual 30, 3) := by decide +kernel
theorem dX4_leadToLeaf_26 : decode cX4_leadToLeaf 26 = .ok (.iinc 3 1, 3) := by decide +kernel
theorem dX4_leadToLeaf_29 : decode cX4_leadToLeaf 29 = .ok (.goto (-21), 3) := by decide +kernel
theorem dX4_leadToLeaf_32 : decode cX4_leadToLeaf 32 = .ok (.return_, 1) := by decide +kernel
theorem dX4_leadToGrowth_0 : decode cX4_leadToGrowth 0 = .ok (.aload_n 0, 1) := by decide +kernel
theorem dX4_leadToGrowth_1 : decode cX4_leadToGrowth 1 = .ok (.iload_n 1, 1) := by decide +kernel
theorem dX4_leadToGrowth_2 : decode cX4_leadToGrowth 2 = .ok (.iconst 1, 1) := by decide +kernel
theorem dX4_leadToGrowth_3 : decode cX4_leadToGrowth 3 = .ok (.isub, 1) := by decide +kernel
theorem dX4_leadToGrowth_4 : decode cX4_leadToGrowth 4 = .ok (.iload_n 2, 1) := by decide +kernel
theorem dX4_leadToGrowth_5 : decode cX4_leadToGrowth 5 = .ok (.invokevirtual 22, 3) := by decide +kernel
theorem dX4_leadToGrowth_8 : decode cX4_leadToGrowth 8 = .ok (.iconst 0, 1) := by decide +kernel
theorem dX4_leadToGrowth_9 : decode cX4_leadToGrowth 9 = .ok (.istore_n 3, 1) := by decide +kernel
theorem dX4_leadToGrowth_10 : decode cX4_leadToGrowth 10 = .ok (.iload_n 3, 1) := by decide +kernel
theorem dX4_leadToGrowth_11 : decode cX4_leadToGrowth 11 = .ok (.bipush 12, 2) := by decide +kernel
theorem dX4_leadToGrowth_13 : decode cX4_leadToGrowth 13 = .ok (.if_icmp .ge 26, 3) := by decide +kernel
theorem dX4_leadToGrowth_16 : decode cX4_leadToGrowth 16 = .ok (.aload_n 0, 1) := by decide +kernel
theorem dX4_leadToGrowth_17 : decode cX4_leadToGrowth 17 = .ok (.getfield 33, 3) := by decide +kernel
theorem dX4_leadToGrowth_20 : decode cX4_leadToGrowth 20 = .ok (.aload_n 0, 1) := by decide +kernel
theorem dX4_leadToGrowth_21 : decode cX4_leadToGrowth 21 = .ok (.getfield 26, 3) := by decide +kernel
theorem dX4_leadToGrowth_24 : decode cX4_leadToGrowth 24 = .ok (.iconst 1, 1) := by decide +kernel
theorem dX4_leadToGrowth_25 : decode cX4_leadToGrowth 25 = .ok (.isub, 1) := by decide +kernel
theorem dX4_leadToGrowth_26 : decode cX4_leadToGrowth 26 = .ok (.if_icmp .ge 13, 3) := by decide +kernel
theorem dX4_leadToGrowth_29 : decode cX4_leadToGrowth 29 = .ok (.aload_n 0, 1) := by decide +kernel
theorem dX4_leadToGrowth_30 : decode cX4_leadToGrowth 30 = .ok (.invokevirtual 30, 3) := by decide +kernel
theorem dX4_leadToGrowth_33 : decode cX4_leadToGrowth 33 = .ok (.iinc 3 1, 3) := by decide +kernel
theorem dX4_leadToGrowth_36 : decode cX4_leadToGrowth 36 = .ok (.goto (-26), 3) := by decide +kernel
theorem dX4_leadToGrowth_39 : decode cX4_leadToGrowth 39 = .ok (.aload_n 0, 1) := by decide +kernel
theorem dX4_leadToGrowth_40 : decode cX4_leadToGrowth 40 = .ok (.invokevirtual 36, 3) := by decide +kernel
theorem dX4_leadToGrowth_43 : decode cX4_leadToGrowth 43 = .ok (.ifCond .ne 16, 3) := by decide +kernel
theorem dX4_leadToGrowth_46 : decode cX4_leadToGrowth 46 = .ok (.aload_n 0, 1) := by decide +kernel
theorem dX4_leadToGrowth_47 : decode cX4_leadToGrowth 47 = .ok (.aload_n 0, 1) := by decide +kernel
theorem dX4_leadToGrowth_48 : decode cX4_leadToGrowth 48 = .ok (.getfield 40, 3) := by decide +kernel
theorem dX4_leadToGrowth_51 : decode cX4_leadToGrowth 51 = .ok (.aload_n 0, 1) := by decide +kernel
theorem dX4_leadToGrowth_52 : decode cX4_leadToGrowth 52 = .ok (.getfield 26, 3) := by decide +kernel
theorem dX4_leadToGrowth_55 : decode cX4_leadToGrowth 55 = .ok (.iconst 0, 1) := by decide +kernel
theorem dX4_leadToGrowth_56 : decode cX4_leadToGrowth 56 = .ok (.invokevirtual 43, 3) := by decide +kernel
theorem dX4_leadToGrowth_59 : decode cX4_leadToGrowth 59 = .ok (.return_, 1) := by decide +kernel
theorem dX4_endsInTrust_0 : decode cX4_endsInTrust 0 = .ok (.aload_n 0, 1) := by decide +kernel
theorem dX4_endsInTrust_1 : decode cX4_endsInTrust 1 = .ok (.getfield 40, 3) := by decide +kernel
theorem dX4_endsInTrust_4 : decode cX4_endsInTrust 4 = .ok (.ifCond .ne 7, 3) := by decide +kernel
theorem dX4_endsInTrust_7 : decode cX4_endsInTrust 7 = .ok (.iconst 1, 1) := by decide +kernel
theorem dX4_endsInTrust_8 : decode cX4_endsInTrust 8 = .ok (.goto 4, 3) := by decide +kernel
theorem dX4_endsInTrust_11 : decode cX4_endsInTrust 11 = .ok (.iconst 0, 1) := by decide +kernel
theorem dX4_endsInTrust_12 : decode cX4_endsInTrust 12 = .ok (.ireturn, 1) := by decide +kernel
theorem dX4_begin_0 : decode cX4_begin 0 = .ok (.aload_n 0, 1) := by decide +kernel
theorem dX4_begin_1 : decode cX4_begin 1 = .ok (.iconst 0, 1) := by decide +kernel
theorem dX4_begin_2 : decode cX4_begin 2 = .ok (.putfield 47, 3) := by decide +kernel
theorem dX4_begin_5 : decode cX4_begin 5 = .ok (.aload_n 0, 1) := by decide +kernel
theorem dX4_begin_6 : decode cX4_begin 6 = .ok (.iconst 0, 1) := by decide +kernel
theorem dX4_begin_7 : decode cX4_begin 7 = .ok (.putfield 40, 3) := by decide +kernel
theorem dX4_begin_10 : decode cX4_begin 10 = .ok (.aload_n 0, 1) := by decide +kernel
theorem dX4_begin_11 : decode cX4_begin 11 = .ok (.iload_n 2, 1) := by decide +kernel
theorem dX4_begin_12 : decode cX4_begin 12 = .ok (.putfield 26, 3) := by decide +kernel
theorem dX4_begin_15 : decode cX4_begin 15 = .ok (.aload_n 0, 1) := by decide +kernel
theorem dX4_begin_16 : decode cX4_begin 16 = .ok (.iload_n 1, 1) := by decide +kernel
theorem dX4_begin_17 : decode cX4_begin 17 = .ok (.putfield 33, 3) := by decide +kernel
theorem dX4_begin_20 : decode cX4_begin 20 = .ok (.return_, 1) := by decide +kernel
theorem dX4_goDown_0 : decode cX4_goDown 0 = .ok (.aload_n 0, 1) := by decide +kernel
theorem dX4_goDown_1 : decode cX4_goDown 1 = .ok (.getfield 26, 3) := by decide +kernel
theorem dX4_goDown_4 : decode cX4_goDown 4 = .ok (.invokestatic 50, 3) := by decide +kernel
theorem dX4_goDown_7 : decode cX4_goDown 7 = .ok (.istore_n 1, 1) := by decide +kernel
theorem dX4_goDown_8 : decode cX4_goDown 8 = .ok (.aload_n 0, 1) := by decide +kernel
theorem dX4_goDown_9 : decode cX4_goDown 9 = .ok (.getfield 33, 3) := by decide +kernel
theorem dX4_goDown_12 : decode cX4_goDown 12 = .ok (.iload_n 1, 1) := by decide +kernel
theorem dX4_goDown_13 : decode cX4_goDown 13 = .ok (.if_icmp .ge 28, 3) := by decide +kernel
theorem dX4_goDown_16 : decode cX4_goDown 16 = .ok (.aload_n 0, 1) := by decide +kernel
theorem dX4_goDown_17 : decode cX4_goDown 17 = .ok (.aload_n 0, 1) := by decide +kernel
theorem dX4_goDown_18 : decode cX4_goDown 18 = .ok (.getfield 40, 3) := by decide +kernel
theorem dX4_goDown_21 : decode cX4_goDown 21 = .ok (.iload_n 1, 1) := by decide +kernel
theorem dX4_goDown_22 : decode cX4_goDown 22 = .ok (.iadd, 1) := by decide +kernel
theorem dX4_goDown_23 : decode cX4_goDown 23 = .ok (.aload_n 0, 1) := by decide +kernel
theorem dX4_goDown_24 : decode cX4_goDown 24 = .ok (.getfield 26, 3) := by decide +kernel
theorem dX4_goDown_27 : decode cX4_goDown 27 = .ok (.iload_n 1, 1) := by decide +kernel
theorem dX4_goDown_28 : decode cX4_goDown 28 = .ok (.isub, 1) := by decide +kernel
theorem dX4_goDown_29 : decode cX4_goDown 29 = .ok (.iconst 0, 1) := by decide +kernel
theorem dX4_goDown_30 : decode cX4_goDown 30 = .ok (.invokevirtual 43, 3) := by decide +kernel
theorem dX4_goDown_33 : decode cX4_goDown 33 = .ok (.aload_n 0, 1) := by decide +kernel
theorem dX4_goDown_34 : decode cX4_goDown 34 = .ok (.iload_n 1, 1) := by decide +kernel
theorem dX4_goDown_35 : decode cX4_goDown 35 = .ok (.putfield 26, 3) := by decide +kernel
theorem dX4_goDown_38 : decode cX4_goDown 38 = .ok (.goto 43, 3) := by decide +kernel
theorem dX4_goDown_41 : decode cX4_goDown 41 = .ok (.aload_n 0, 1) := by decide +kernel
theorem dX4_goDown_42 : decode cX4_goDown 42 = .ok (.aload_n 0, 1) := by decide +kernel
theorem dX4_goDown_43 : decode cX4_goDown 43 = .ok (.getfield 40, 3) := by decide +kernel
theorem dX4_goDown_46 : decode cX4_goDown 46 = .ok (.iload_n 1, 1) := by decide +kernel
theorem dX4_goDown_47 : decode cX4_goDown 47 = .ok (.iconst 1, 1) := by decide +kernel
theorem dX4_goDown_48 : decode cX4_goDown 48 = .ok (.invokevirtual 43, 3) := by decide +kernel
theorem dX4_goDown_51 : decode cX4_goDown 51 = .ok (.aload_n 0, 1) := by decide +kernel
theorem dX4_goDown_52 : decode cX4_goDown 52 = .ok (.dup, 1) := by decide +kernel
theorem dX4_goDown_53 : decode cX4_goDown 53 = .ok (.getfield 40, 3) := by decide +kernel
theorem dX4_goDown_56 : decode cX4_goDown 56 = .ok (.iload_n 1, 1) := by decide +kernel
theorem dX4_goDown_57 : decode cX4_goDown 57 = .ok (.iadd, 1) := by decide +kernel
theorem dX4_goDown_58 : decode cX4_goDown 58 = .ok (.putfield 40, 3) := by decide +kernel
theorem dX4_goDown_61 : decode cX4_goDown 61 = .ok (.aload_n 0, 1) := by decide +kernel
theorem dX4_goDown_62 : decode cX4_goDown 62 = .ok (.dup, 1) := by decide +kernel
theorem dX4_goDown_63 : decode cX4_goDown 63 = .ok (.getfield 26, 3) := by decide +kernel
theorem dX4_goDown_66 : decode cX4_goDown 66 = .ok (.iload_n 1, 1) := by decide +kernel
theorem dX4_goDown_67 : decode cX4_goDown 67 = .ok (.isub, 1) := by decide +kernel
theorem dX4_goDown_68 : decode cX4_goDown 68 = .ok (.putfield 26, 3) := by decide +kernel
theorem dX4_goDown_71 : decode cX4_goDown 71 = .ok (.aload_n 0, 1) := by decide +kernel
theorem dX4_goDown_72 : decode cX4_goDown 72 = .ok (.dup, 1) := by decide +kernel
theorem dX4_goDown_73 : decode cX4_goDown 73 = .ok (.getfield 33, 3) := by decide +kernel
theorem dX4_goDown_76 : decode cX4_goDown 76 = .ok (.iload_n 1, 1) := by decide +kernel
theorem dX4_goDown_77 : decode cX4_goDown 77 = .ok (.isub, 1) := by decide +kernel
theorem dX4_goDown_78 : decode cX4_goDown 78 = .ok (.putfield 33, 3) := by decide +kernel
theorem dX4_goDown_81 : decode cX4_goDown 81 = .ok (.return_, 1) := by decide +kernel
theorem dX4_leaveBeside_0 : decode cX4_leaveBeside 0 = .ok (.aload_n 0, 1) := by decide +kernel
theorem dX4_leaveBeside_1 : decode cX4_leaveBeside 1 = .ok (.getfield 47, 3) := by decide +kernel
theorem dX4_leaveBeside_4 : decode cX4_leaveBeside 4 = .ok (.ifCond .lt 12, 3) := by decide +kernel
theorem dX4_leaveBeside_7 : decode cX4_leaveBeside 7 = .ok (.aload_n 0, 1) := by decide +kernel
theorem dX4_leaveBeside_8 : decode cX4_leaveBeside 8 = .ok (.getfield 47, 3) := by decide +kernel
theorem dX4_leaveBeside_11 : decode cX4_leaveBeside 11 = .ok (.bipush 12, 2) := by decide +kernel
theorem dX4_leaveBeside_13 : decode cX4_leaveBeside 13 = .ok (.if_icmp .lt 4, 3) := by decide +kernel
theorem dX4_leaveBeside_16 : decode cX4_leaveBeside 16 = .ok (.return_, 1) := by decide +kernel
theorem dX4_leaveBeside_17 : decode cX4_leaveBeside 17 = .ok (.aload_n 0, 1) := by decide +kernel
theorem dX4_leaveBeside_18 : decode cX4_leaveBeside 18 = .ok (.getfield 9, 3) := by decide +kernel
theorem dX4_leaveBeside_21 : decode cX4_leaveBeside 21 = .ok (.aload_n 0, 1) := by decide +kernel
theorem dX4_leaveBeside_22 : decode cX4_leaveBeside 22 = .ok (.getfield 47, 3) := by decide +kernel
theorem dX4_leaveBeside_25 : decode cX4_leaveBeside 25 = .ok (.iload_n 1, 1) := by decide +kernel
theorem dX4_leaveBeside_26 : decode cX4_leaveBeside 26 = .ok (.iastore, 1) := by decide +kernel
theorem dX4_leaveBeside_27 : decode cX4_leaveBeside 27 = .ok (.aload_n 0, 1) := by decide +kernel
theorem dX4_leaveBeside_28 : decode cX4_leaveBeside 28 = .ok (.getfield 15, 3) := by decide +kernel
theorem dX4_leaveBeside_31 : decode cX4_leaveBeside 31 = .ok (.aload_n 0, 1) := by decide +kernel
theorem dX4_leaveBeside_32 : decode cX4_leaveBeside 32 = .ok (.getfield 47, 3) := by decide +kernel
theorem dX4_leaveBeside_35 : decode cX4_leaveBeside 35 = .ok (.iload_n 2, 1) := by decide +kernel
theorem dX4_leaveBeside_36 : decode cX4_leaveBeside 36 = .ok (.iastore, 1) := by decide +kernel
theorem dX4_leaveBeside_37 : decode cX4_leaveBeside 37 = .ok (.aload_n 0, 1) := by decide +kernel
theorem dX4_leaveBeside_38 : decode cX4_leaveBeside 38 = .ok (.getfield 18, 3) := by decide +kernel
theorem dX4_leaveBeside_41 : decode cX4_leaveBeside 41 = .ok (.aload_n 0, 1) := by decide +kernel
theorem dX4_leaveBeside_42 : decode cX4_leaveBeside 42 = .ok (.getfield 47, 3) := by decide +kernel
theorem dX4_leaveBeside_45 : decode cX4_leaveBeside 45 = .ok (.iload_n 3, 1) := by decide +kernel
theorem dX4_leaveBeside_46 : decode cX4_leaveBeside 46 = .ok (.bastore, 1) := by decide +kernel
theorem dX4_leaveBeside_47 : decode cX4_leaveBeside 47 = .ok (.aload_n 0, 1) := by decide +kernel
theorem dX4_leaveBeside_48 : decode cX4_leaveBeside 48 = .ok (.dup, 1) := by decide +kernel
theorem dX4_leaveBeside_49 : decode cX4_leaveBeside 49 = .ok (.getfield 47, 3) := by decide +kernel
theorem dX4_leaveBeside_52 : decode cX4_leaveBeside 52 = .ok (.iconst 1, 1) := by decide +kernel
theorem dX4_leaveBeside_53 : decode cX4_leaveBeside 53 = .ok (.iadd, 1) := by decide +kernel
theorem dX4_leaveBeside_54 : decode cX4_leaveBeside 54 = .ok (.putfield 47, 3) := by decide +kernel
theorem dX4_leaveBeside_57 : decode cX4_leaveBeside 57 = .ok (.return_, 1) := by decide +kernel
theorem dX4_rootOfPlace_0 : decode cX4_rootOfPlace 0 = .ok (.aload_n 0, 1) := by decide +kernel
theorem dX4_rootOfPlace_1 : decode cX4_rootOfPlace 1 = .ok (.getfield 47, 3) := by decide +kernel
theorem dX4_rootOfPlace_4 : decode cX4_rootOfPlace 4 = .ok (.iconst 1, 1) := by decide +kernel
theorem dX4_rootOfPlace_5 : decode cX4_rootOfPlace 5 = .ok (.isub, 1) := by decide +kernel
theorem dX4_rootOfPlace_6 : decode cX4_rootOfPlace 6 = .ok (.iload_n 2, 1) := by decide +kernel
theorem dX4_rootOfPlace_7 : decode cX4_rootOfPlace 7 = .ok (.isub, 1) := by decide +kernel
theorem dX4_rootOfPlace_8 : decode cX4_rootOfPlace 8 = .ok (.istore_n 3, 1) := by decide +kernel
theorem dX4_rootOfPlace_9 : decode cX4_rootOfPlace 9 = .ok (.iload_n 3, 1) := by decide +kernel
theorem dX4_rootOfPlace_10 : decode cX4_rootOfPlace 10 = .ok (.ifCond .lt 28, 3) := by decide +kernel
theorem dX4_rootOfPlace_13 : decode cX4_rootOfPlace 13 = .ok (.iload_n 3, 1) := by decide +kernel
theorem dX4_rootOfPlace_14 : decode cX4_rootOfPlace 14 = .ok (.bipush 12, 2) := by decide +kernel
theorem dX4_rootOfPlace_16 : decode cX4_rootOfPlace 16 = .ok (.if_icmp .ge 22, 3) := by decide +kernel
theorem dX4_rootOfPlace_19 : decode cX4_rootOfPlace 19 = .ok (.aload_n 1, 1) := by decide +kernel
theorem dX4_rootOfPlace_20 : decode cX4_rootOfPlace 20 = .ok (.aload_n 0, 1) := by decide +kernel
theorem dX4_rootOfPlace_21 : decode cX4_rootOfPlace 21 = .ok (.getfield 9, 3) := by decide +kernel
theorem dX4_rootOfPlace_24 : decode cX4_rootOfPlace 24 = .ok (.iload_n 3, 1) := by decide +kernel
theorem dX4_rootOfPlace_25 : decode cX4_rootOfPlace 25 = .ok (.iaload, 1) := by decide +kernel
theorem dX4_rootOfPlace_26 : decode cX4_rootOfPlace 26 = .ok (.aload_n 0, 1) := by decide +kernel
theorem dX4_rootOfPlace_27 : decode cX4_rootOfPlace 27 = .ok (.getfield 15, 3) := by decide +kernel
theorem dX4_rootOfPlace_30 : decode cX4_rootOfPlace 30 = .ok (.iload_n 3, 1) := by decide +kernel
theorem dX4_rootOfPlace_31 : decode cX4_rootOfPlace 31 = .ok (.iaload, 1) := by decide +kernel
theorem dX4_rootOfPlace_32 : decode cX4_rootOfPlace 32 = .ok (.invokevirtual 56, 3) := by decide +kernel
theorem dX4_rootOfPlace_35 : decode cX4_rootOfPlace 35 = .ok (.goto 4, 3) := by decide +kernel
theorem dX4_rootOfPlace_38 : decode cX4_rootOfPlace 38 = .ok (.iconst 0, 1) := by decide +kernel
theorem dX4_rootOfPlace_39 : decode cX4_rootOfPlace 39 = .ok (.ireturn, 1) := by decide +kernel
theorem dX4_isFirstAt_0 : decode cX4_isFirstAt 0 = .ok (.aload_n 0, 1) := by decide +kernel
theorem dX4_isFirstAt_1 : decode cX4_isFirstAt 1 = .ok (.getfield 47, 3) := by decide +kernel
theorem dX4_isFirstAt_4 : decode cX4_isFirstAt 4 = .ok (.iconst 1, 1) := by decide +kernel
theorem dX4_isFirstAt_5 : decode cX4_isFirstAt 5 = .ok (.isub, 1) := by decide +kernel
theorem dX4_isFirstAt_6 : decode cX4_isFirstAt 6 = .ok (.iload_n 1, 1) := by decide +kernel
theorem dX4_isFirstAt_7 : decode cX4_isFirstAt 7 = .ok (.isub, 1) := by decide +kernel
theorem dX4_isFirstAt_8 : decode cX4_isFirstAt 8 = .ok (.istore_n 2, 1) := by decide +kernel
theorem dX4_isFirstAt_9 : decode cX4_isFirstAt 9 = .ok (.iload_n 2, 1) := by decide +kernel
theorem dX4_isFirstAt_10 : decode cX4_isFirstAt 10 = .ok (.ifCond .lt 22, 3) := by decide +kernel
theorem dX4_isFirstAt_13 : decode cX4_isFirstAt 13 = .ok (.iload_n 2, 1) := by decide +kernel
theorem dX4_isFirstAt_14 : decode cX4_isFirstAt 14 = .ok (.bipush 12, 2) := by decide +kernel
theorem dX4_isFirstAt_16 : decode cX4_isFirstAt 16 = .ok (.if_icmp .ge 16, 3) := by decide +kernel
theorem dX4_isFirstAt_19 : decode cX4_isFirstAt 19 = .ok (.aload_n 0, 1) := by decide +kernel
theorem dX4_isFirstAt_20 : decode cX4_isFirstAt 20 = .ok (.getfield 18, 3) := by decide +kernel
theorem dX4_isFirstAt_23 : decode cX4_isFirstAt 23 = .ok (.iload_n 2, 1) := by decide +kernel
theorem dX4_isFirstAt_24 : decode cX4_isFirstAt 24 = .ok (.baload, 1) := by decide +kernel
theorem dX4_isFirstAt_25 : decode cX4_isFirstAt 25 = .ok (.ifCond .eq 7, 3) := by decide +kernel
theorem dX4_isFirstAt_28 : decode cX4_isFirstAt 28 = .ok (.iconst 1, 1) := by decide +kernel
theorem dX4_isFirstAt_29 : decode cX4_isFirstAt 29 = .ok (.goto 4, 3) := by decide +kernel
theorem dX4_isFirstAt_32 : decode cX4_isFirstAt 32 = .ok (.iconst 0, 1) := by decide +kernel
theorem dX4_isFirstAt_33 : decode cX4_isFirstAt 33 = .ok (.ireturn, 1) := by decide +kernel
theorem dX5_init_0 : decode cX5_init 0 = .ok (.aload_n 0, 1) := by decide +kernel
theorem dX5_init_1 : decode cX5_init 1 = .ok (.invokespecial 1, 3) := by decide +kernel
theorem dX5_init_4 : decode cX5_init 4 = .ok (.aload_n 0, 1) := by decide +kernel
theorem dX5_init_5 : decode cX5_init 5 = .ok (.iconst 3, 1) := by decide +kernel
theorem dX5_init_6 : decode cX5_init 6 = .ok (.anewarray 9, 3) := by decide +kernel
theorem dX5_init_9 : decode cX5_init 9 = .ok (.putfield 11, 3) := by decide +kernel
theorem dX5_init_12 : decode cX5_init 12 = .ok (.aload_n 0, 1) := by decide +kernel
theorem dX5_init_13 : decode cX5_init 13 = .ok (.iconst 4, 1) := by decide +kernel
theorem dX5_init_14 : decode cX5_init 14 = .ok (.anewarray 15, 3) := by decide +kernel
theorem dX5_init_17 : decode cX5_init 17 = .ok (.putfield 17, 3) := by decide +kernel
theorem dX5_init_20 : decode cX5_init 20 = .ok (.aload_n 0, 1) := by decide +kernel
theorem dX5_init_21 : decode cX5_init 21 = .ok (.new 21, 3) := by decide +kernel
theorem dX5_init_24 : decode cX5_init 24 = .ok (.dup, 1) := by decide +kernel
theorem dX5_init_25 : decode cX5_init 25 = .ok (.invokespecial 23, 3) := by decide +kernel
theorem dX5_init_28 : decode cX5_init 28 = .ok (.putfield 24, 3) := by decide +kernel
theorem dX5_init_31 : decode cX5_init 31 = .ok (.aload_n 0, 1) := by decide +kernel
theorem dX5_init_32 : decode cX5_init 32 = .ok (.new 28, 3) := by decide +kernel
theorem dX5_init_35 : decode cX5_init 35 = .ok (.dup, 1) := by decide +kernel
theorem dX5_init_36 : decode cX5_init 36 = .ok (.invokespecial 30, 3) := by decide +kernel
theorem dX5_init_39 : decode cX5_init 39 = .ok (.putfield 31, 3) := by decide +kernel
theorem dX5_init_42 : decode cX5_init 42 = .ok (.aload_n 0, 1) := by decide +kernel
theorem dX5_init_43 : decode cX5_init 43 = .ok (.iconst 1, 1) := by decide +kernel
theorem dX5_init_44 : decode cX5_init 44 = .ok (.putfield 35, 3) := by decide +kernel
theorem dX5_init_47 : decode cX5_init 47 = .ok (.aload_n 0, 1) := by decide +kernel
theorem dX5_init_48 : decode cX5_init 48 = .ok (.getfield 11, 3) := by decide +kernel
theorem dX5_init_51 : decode cX5_init 51 = .ok (.iconst 0, 1) := by decide +kernel
theorem dX5_init_52 : decode cX5_init 52 = .ok (.new 9, 3) := by decide +kernel
theorem dX5_init_55 : decode cX5_init 55 = .ok (.dup, 1) := by decide +kernel
theorem dX5_init_56 : decode cX5_init 56 = .ok (.invokespecial 39, 3) := by decide +kernel
theorem dX5_init_59 : decode cX5_init 59 = .ok (.aastore, 1) := by decide +kernel
theorem dX5_init_60 : decode cX5_init 60 = .ok (.iconst 0, 1) := by decide +kernel
theorem dX5_init_61 : decode cX5_init 61 = .ok (.istore_n 1, 1) := by decide +kernel
theorem dX5_init_62 : decode cX5_init 62 = .ok (.iload_n 1, 1) := by decide +kernel
theorem dX5_init_63 : decode cX5_init 63 = .ok (.aload_n 0, 1) := by decide +kernel
theorem dX5_init_64 : decode cX5_init 64 = .ok (.getfield 17, 3) := by decide +kernel
theorem dX5_init_67 : decode cX5_init 67 = .ok (.arraylength, 1) := by decide +kernel
theorem dX5_init_68 : decode cX5_init 68 = .ok (.if_icmp .ge 22, 3) := by decide +kernel
theorem dX5_init_71 : decode cX5_init 71 = .ok (.aload_n 0, 1) := by decide +kernel
theorem dX5_init_72 : decode cX5_init 72 = .ok (.getfield 17, 3) := by decide +kernel
theorem dX5_init_75 : decode cX5_init 75 = .ok (.iload_n 1, 1) := by decide +kernel
theorem dX5_init_76 : decode cX5_init 76 = .ok (.new 15, 3) := by decide +kernel
theorem dX5_init_79 : decode cX5_init 79 = .ok (.dup, 1) := by decide +kernel
theorem dX5_init_80 : decode cX5_init 80 = .ok (.invokespecial 40, 3) := by decide +kernel
theorem dX5_init_83 : decode cX5_init 83 = .ok (.aastore, 1) := by decide +kernel
theorem dX5_init_84 : decode cX5_init 84 = .ok (.iinc 1 1, 3) := by decide +kernel
theorem dX5_init_87 : decode cX5_init 87 = .ok (.goto (-25), 3) := by decide +kernel
theorem dX5_init_90 : decode cX5_init 90 = .ok (.return_, 1) := by decide +kernel
theorem dX5_append_0 : decode cX5_append 0 = .ok (.aload_n 0, 1) := by decide +kernel
theorem dX5_append_1 : decode cX5_append 1 = .ok (.iload_n 1, 1) := by decide +kernel
theorem dX5_append_2 : decode cX5_append 2 = .ok (.invokevirtual 41, 3) := by decide +kernel
theorem dX5_append_5 : decode cX5_append 5 = .ok (.astore_n 3, 1) := by decide +kernel
theorem dX5_append_6 : decode cX5_append 6 = .ok (.iload_n 2, 1) := by decide +kernel
theorem dX5_append_7 : decode cX5_append 7 = .ok (.iconst 0, 1) := by decide +kernel
theorem dX5_append_8 : decode cX5_append 8 = .ok (.ldc 45, 2) := by decide +kernel
theorem dX5_append_10 : decode cX5_append 10 = .ok (.invokestatic 46, 3) := by decide +kernel
theorem dX5_append_13 : decode cX5_append 13 = .ok (.aload_n 3, 1) := by decide +kernel
theorem dX5_append_14 : decode cX5_append 14 = .ok (.iconst 1, 1) := by decide +kernel
theorem dX5_append_15 : decode cX5_append 15 = .ok (.invokestatic 50, 3) := by decide +kernel
theorem dX5_append_18 : decode cX5_append 18 = .ok (.aload_n 3, 1) := by decide +kernel
theorem dX5_append_19 : decode cX5_append 19 = .ok (.iload_n 2, 1) := by decide +kernel
theorem dX5_append_20 : decode cX5_append 20 = .ok (.invokevirtual 54, 3) := by decide +kernel
theorem dX5_append_23 : decode cX5_append 23 = .ok (.aload_n 3, 1) := by decide +kernel
theorem dX5_append_24 : decode cX5_append 24 = .ok (.getfield 58, 3) := by decide +kernel
theorem dX5_append_27 : decode cX5_append 27 = .ok (.iconst 1, 1) := by decide +kernel
theorem dX5_append_28 : decode cX5_append 28 = .ok (.isub, 1) := by decide +kernel
theorem dX5_append_29 : decode cX5_append 29 = .ok (.ireturn, 1) := by decide +kernel
theorem dX5_appendRow_0 : decode cX5_appendRow 0 = .ok (.aload_n 0, 1) := by decide +kernel
theorem dX5_appendRow_1 : decode cX5_appendRow 1 = .ok (.iload_n 1, 1) := by decide +kernel
theorem dX5_appendRow_2 : decode cX5_appendRow 2 = .ok (.invokevirtual 41, 3) := by decide +kernel
theorem dX5_appendRow_5 : decode cX5_appendRow 5 = .ok (.astore 4, 2) := by decide +kernel
theorem dX5_appendRow_7 : decode cX5_appendRow 7 = .ok (.iload_n 3, 1) := by decide +kernel
theorem dX5_appendRow_8 : decode cX5_appendRow 8 = .ok (.iconst 1, 1) := by decide +kernel
theorem dX5_appendRow_9 : decode cX5_appendRow 9 = .ok (.bipush 40, 2) := by decide +kernel
theorem dX5_appendRow_11 : decode cX5_appendRow 11 = .ok (.invokestatic 46, 3) := by decide +kernel
theorem dX5_appendRow_14 : decode cX5_appendRow 14 = .ok (.iload_n 2, 1) := by decide +kernel
theorem dX5_appendRow_15 : decode cX5_appendRow 15 = .ok (.iconst 0, 1) := by decide +kernel
theorem dX5_appendRow_16 : decode cX5_appendRow 16 = .ok (.ldc 45, 2) := by decide +kernel
theorem dX5_appendRow_18 : decode cX5_appendRow 18 = .ok (.iload_n 3, 1) := by decide +kernel
theorem dX5_appendRow_19 : decode cX5_appendRow 19 = .ok (.isub, 1) := by decide +kernel
theorem dX5_appendRow_20 : decode cX5_appendRow 20 = .ok (.iconst 1, 1) := by decide +kernel
theorem dX5_appendRow_21 : decode cX5_appendRow 21 = .ok (.iadd, 1) := by decide +kernel
theorem dX5_appendRow_22 : decode cX5_appendRow 22 = .ok (.invokestatic 46, 3) := by decide +kernel
theorem dX5_appendRow_25 : decode cX5_appendRow 25 = .ok (.aload 4, 2) := by decide +kernel
theorem dX5_appendRow_27 : decode cX5_appendRow 27 = .ok (.iload_n 3, 1) := by decide +kernel
theorem dX5_appendRow_28 : decode cX5_appendRow 28 = .ok (.invokestatic 50, 3) := by decide +kernel
theorem dX5_appendRow_31 : decode cX5_appendRow 31 = .ok (.iconst 0, 1) := by decide +kernel
theorem dX5_appendRow_32 : decode cX5_appendRow 32 = .ok (.istore 5, 2) := by decide +kernel
theorem dX5_appendRow_34 : decode cX5_appendRow 34 = .ok (.iload 5, 2) := by decide +kernel
theorem dX5_appendRow_36 : decode cX5_appendRow 36 = .ok (.iload_n 3, 1) := by decide +kernel
theorem dX5_appendRow_37 : decode cX5_appendRow 37 = .ok (.if_icmp .ge 18, 3) := by decide +kernel
theorem dX5_appendRow_40 : decode cX5_appendRow 40 = .ok (.aload 4, 2) := by decide +kernel
theorem dX5_appendRow_42 : decode cX5_appendRow 42 = .ok (.iload_n 2, 1) := by decide +kernel
theorem dX5_appendRow_43 : decode cX5_appendRow 43 = .ok (.iload 5, 2) := by decide +kernel
theorem dX5_appendRow_45 : decode cX5_appendRow 45 = .ok (.iadd, 1) := by decide +kernel
theorem dX5_appendRow_46 : decode cX5_appendRow 46 = .ok (.invokevirtual 54, 3) := by decide +kernel
theorem dX5_appendRow_49 : decode cX5_appendRow 49 = .ok (.iinc 5 1, 3) := by decide +kernel
theorem dX5_appendRow_52 : decode cX5_appendRow 52 = .ok (.goto (-18), 3) := by decide +kernel
theorem dX5_appendRow_55 : decode cX5_appendRow 55 = .ok (.aload 4, 2) := by decide +kernel
theorem dX5_appendRow_57 : decode cX5_appendRow 57 = .ok (.getfield 58, 3) := by decide +kernel
theorem dX5_appendRow_60 : decode cX5_appendRow 60 = .ok (.ireturn, 1) := by decide +kernel
theorem dX5_fork_0 : decode cX5_fork 0 = .ok (.aload_n 0, 1) := by decide +kernel
theorem dX5_fork_1 : decode cX5_fork 1 = .ok (.iload_n 1, 1) := by decide +kernel
theorem dX5_fork_2 : decode cX5_fork 2 = .ok (.invokevirtual 41, 3) := by decide +kernel
theorem dX5_fork_5 : decode cX5_fork 5 = .ok (.astore_n 3, 1) := by decide +kernel
theorem dX5_fork_6 : decode cX5_fork 6 = .ok (.iload_n 2, 1) := by decide +kernel
theorem dX5_fork_7 : decode cX5_fork 7 = .ok (.iconst 0, 1) := by decide +kernel
theorem dX5_fork_8 : decode cX5_fork 8 = .ok (.aload_n 3, 1) := by decide +kernel
theorem dX5_fork_9 : decode cX5_fork 9 = .ok (.getfield 58, 3) := by decide +kernel
theorem dX5_fork_12 : decode cX5_fork 12 = .ok (.invokestatic 46, 3) := by decide +kernel
theorem dX5_fork_15 : decode cX5_fork 15 = .ok (.aload_n 0, 1) := by decide +kernel
theorem dX5_fork_16 : decode cX5_fork 16 = .ok (.getfield 35, 3) := by decide +kernel
theorem dX5_fork_19 : decode cX5_fork 19 = .ok (.ifCond .lt 15, 3) := by decide +kernel
theorem dX5_fork_22 : decode cX5_fork 22 = .ok (.aload_n 0, 1) := by decide +kernel
theorem dX5_fork_23 : decode cX5_fork 23 = .ok (.getfield 35, 3) := by decide +kernel
theorem dX5_fork_26 : decode cX5_fork 26 = .ok (.aload_n 0, 1) := by decide +kernel
theorem dX5_fork_27 : decode cX5_fork 27 = .ok (.getfield 11, 3) := by decide +kernel
theorem dX5_fork_30 : decode cX5_fork 30 = .ok (.arraylength, 1) := by decide +kernel
theorem dX5_fork_31 : decode cX5_fork 31 = .ok (.if_icmp .lt 13, 3) := by decide +kernel
theorem dX5_fork_34 : decode cX5_fork 34 = .ok (.new 61, 3) := by decide +kernel
theorem dX5_fork_37 : decode cX5_fork 37 = .ok (.dup, 1) := by decide +kernel
theorem dX5_fork_38 : decode cX5_fork 38 = .ok (.ldc 63, 2) := by decide +kernel
theorem dX5_fork_40 : decode cX5_fork 40 = .ok (.invokespecial 65, 3) := by decide +kernel
theorem dX5_fork_43 : decode cX5_fork 43 = .ok (.athrow, 1) := by decide +kernel
theorem dX5_fork_44 : decode cX5_fork 44 = .ok (.new 9, 3) := by decide +kernel
theorem dX5_fork_47 : decode cX5_fork 47 = .ok (.dup, 1) := by decide +kernel
theorem dX5_fork_48 : decode cX5_fork 48 = .ok (.invokespecial 39, 3) := by decide +kernel
theorem dX5_fork_51 : decode cX5_fork 51 = .ok (.astore 4, 2) := by decide +kernel
theorem dX5_fork_53 : decode cX5_fork 53 = .ok (.iconst 0, 1) := by decide +kernel
theorem dX5_fork_54 : decode cX5_fork 54 = .ok (.istore 5, 2) := by decide +kernel
theorem dX5_fork_56 : decode cX5_fork 56 = .ok (.iload 5, 2) := by decide +kernel
theorem dX5_fork_58 : decode cX5_fork 58 = .ok (.iload_n 2, 1) := by decide +kernel
theorem dX5_fork_59 : decode cX5_fork 59 = .ok (.if_icmp .ge 20, 3) := by decide +kernel
theorem dX5_fork_62 : decode cX5_fork 62 = .ok (.aload 4, 2) := by decide +kernel
theorem dX5_fork_64 : decode cX5_fork 64 = .ok (.aload_n 3, 1) := by decide +kernel
theorem dX5_fork_65 : decode cX5_fork 65 = .ok (.iload 5, 2) := by decide +kernel
theorem dX5_fork_67 : decode cX5_fork 67 = .ok (.invokevirtual 68, 3) := by decide +kernel
theorem dX5_fork_70 : decode cX5_fork 70 = .ok (.invokevirtual 54, 3) := by decide +kernel
theorem dX5_fork_73 : decode cX5_fork 73 = .ok (.iinc 5 1, 3) := by decide +kernel
theorem dX5_fork_76 : decode cX5_fork 76 = .ok (.goto (-20), 3) := by decide +kernel
theorem dX5_fork_79 : decode cX5_fork 79 = .ok (.aload_n 0, 1) := by decide +kernel
theorem dX5_fork_80 : decode cX5_fork 80 = .ok (.getfield 11, 3) := by decide +kernel
theorem dX5_fork_83 : decode cX5_fork 83 = .ok (.aload_n 0, 1) := by decide +kernel
theorem dX5_fork_84 : decode cX5_fork 84 = .ok (.getfield 35, 3) := by decide +kernel
theorem dX5_fork_87 : decode cX5_fork 87 = .ok (.aload 4, 2) := by decide +kernel
theorem dX5_fork_89 : decode cX5_fork 89 = .ok (.aastore, 1) := by decide +kernel
theorem dX5_fork_90 : decode cX5_fork 90 = .ok (.aload_n 0, 1) := by decide +kernel
theorem dX5_fork_91 : decode cX5_fork 91 = .ok (.dup, 1) := by decide +kernel
theorem dX5_fork_92 : decode cX5_fork 92 = .ok (.getfield 35, 3) := by decide +kernel
theorem dX5_fork_95 : decode cX5_fork 95 = .ok (.iconst 1, 1) := by decide +kernel
theorem dX5_fork_96 : decode cX5_fork 96 = .ok (.iadd, 1) := by decide +kernel
theorem dX5_fork_97 : decode cX5_fork 97 = .ok (.putfield 35, 3) := by decide +kernel
theorem dX5_fork_100 : decode cX5_fork 100 = .ok (.aload_n 0, 1) := by decide +kernel
theorem dX5_fork_101 : decode cX5_fork 101 = .ok (.getfield 35, 3) := by decide +kernel
theorem dX5_fork_104 : decode cX5_fork 104 = .ok (.iconst 1, 1) := by decide +kernel
theorem dX5_fork_105 : decode cX5_fork 105 = .ok (.isub, 1) := by decide +kernel
theorem dX5_fork_106 : decode cX5_fork 106 = .ok (.ireturn, 1) := by decide +kernel
theorem dX5_views_0 : decode cX5_views 0 = .ok (.aload_n 0, 1) := by decide +kernel
theorem dX5_views_1 : decode cX5_views 1 = .ok (.getfield 35, 3) := by decide +kernel
theorem dX5_views_4 : decode cX5_views 4 = .ok (.ireturn, 1) := by decide +kernel
theorem dX5_size_0 : decode cX5_size 0 = .ok (.aload_n 0, 1) := by decide +kernel
theorem dX5_size_1 : decode cX5_size 1 = .ok (.iload_n 1, 1) := by decide +kernel
theorem dX5_size_2 : decode cX5_size 2 = .ok (.invokevirtual 41, 3) := by decide +kernel
theorem dX5_size_5 : decode cX5_size 5 = .ok (.getfield 58, 3) := by decide +kernel
theorem dX5_size_8 : decode cX5_size 8 = .ok (.ireturn, 1) := by decide +kernel
theorem dX5_leaf_0 : decode cX5_leaf 0 = .ok (.aload_n 0, 1) := by decide +kernel
theorem dX5_leaf_1 : decode cX5_leaf 1 = .ok (.iload_n 1, 1) := by decide +kernel
theorem dX5_leaf_2 : decode cX5_leaf 2 = .ok (.invokevirtual 41, 3) := by decide +kernel
theorem dX5_leaf_5 : decode cX5_leaf 5 = .ok (.astore_n 3, 1) := by decide +kernel
theorem dX5_leaf_6 : decode cX5_leaf 6 = .ok (.iload_n 2, 1) := by decide +kernel
theorem dX5_leaf_7 : decode cX5_leaf 7 = .ok (.ifCond .lt 11, 3) := by decide +kernel
theorem dX5_leaf_10 : decode cX5_leaf 10 = .ok (.iload_n 2, 1) := by decide +kernel
theorem dX5_leaf_11 : decode cX5_leaf 11 = .ok (.aload_n 3, 1) := by decide +kernel
theorem dX5_leaf_12 : decode cX5_leaf 12 = .ok (.getfield 58, 3) := by decide +kernel
theorem dX5_leaf_15 : decode cX5_leaf 15 = .ok (.if_icmp .lt 13, 3) := by decide +kernel
theorem dX5_leaf_18 : decode cX5_leaf 18 = .ok (.new 72, 3) := by decide +kernel
theorem dX5_leaf_21 : decode cX5_leaf 21 = .ok (.dup, 1) := by decide +kernel
theorem dX5_leaf_22 : decode cX5_leaf 22 = .ok (.ldc 74, 2) := by decide +kernel
theorem dX5_leaf_24 : decode cX5_leaf 24 = .ok (.invokespecial 76, 3) := by decide +kernel
theorem dX5_leaf_27 : decode cX5_leaf 27 = .ok (.athrow, 1) := by decide +kernel
theorem dX5_leaf_28 : decode cX5_leaf 28 = .ok (.aload_n 3, 1) := by decide +kernel
theorem dX5_leaf_29 : decode cX5_leaf 29 = .ok (.iload_n 2, 1) := by decide +kernel
theorem dX5_leaf_30 : decode cX5_leaf 30 = .ok (.invokevirtual 68, 3) := by decide +kernel
theorem dX5_leaf_33 : decode cX5_leaf 33 = .ok (.ireturn, 1) := by decide +kernel
theorem dX5_root_0 : decode cX5_root 0 = .ok (.aload_n 0, 1) := by decide +kernel
theorem dX5_root_1 : decode cX5_root 1 = .ok (.iload_n 1, 1) := by decide +kernel
theorem dX5_root_2 : decode cX5_root 2 = .ok (.invokevirtual 41, 3) := by decide +kernel
theorem dX5_root_5 : decode cX5_root 5 = .ok (.astore_n 3, 1) := by decide +kernel
theorem dX5_root_6 : decode cX5_root 6 = .ok (.iload_n 2, 1) := by decide +kernel
theorem dX5_root_7 : decode cX5_root 7 = .ok (.iconst 0, 1) := by decide +kernel
theorem dX5_root_8 : decode cX5_root 8 = .ok (.aload_n 3, 1) := by decide +kernel
theorem dX5_root_9 : decode cX5_root 9 = .ok (.getfield 58, 3) := by decide +kernel
theorem dX5_root_12 : decode cX5_root 12 = .ok (.invokestatic 46, 3) := by decide +kernel
theorem dX5_root_15 : decode cX5_root 15 = .ok (.aload_n 3, 1) := by decide +kernel
theorem dX5_root_16 : decode cX5_root 16 = .ok (.iload_n 2, 1) := by decide +kernel
theorem dX5_root_17 : decode cX5_root 17 = .ok (.invokevirtual 77, 3) := by decide +kernel
theorem dX5_root_20 : decode cX5_root 20 = .ok (.ireturn, 1) := by decide +kernel
theorem dX5_rootAnew_0 : decode cX5_rootAnew 0 = .ok (.aload_n 0, 1) := by decide +kernel
theorem dX5_rootAnew_1 : decode cX5_rootAnew 1 = .ok (.iload_n 1, 1) := by decide +kernel
theorem dX5_rootAnew_2 : decode cX5_rootAnew 2 = .ok (.invokevirtual 41, 3) := by decide +kernel
theorem dX5_rootAnew_5 : decode cX5_rootAnew 5 = .ok (.astore_n 3, 1) := by decide +kernel
theorem dX5_rootAnew_6 : decode cX5_rootAnew 6 = .ok (.iload_n 2, 1) := by decide +kernel
theorem dX5_rootAnew_7 : decode cX5_rootAnew 7 = .ok (.iconst 0, 1) := by decide +kernel
theorem dX5_rootAnew_8 : decode cX5_rootAnew 8 = .ok (.aload_n 3, 1) := by decide +kernel
theorem dX5_rootAnew_9 : decode cX5_rootAnew 9 = .ok (.getfield 58, 3) := by decide +kernel
theorem dX5_rootAnew_12 : decode cX5_rootAnew 12 = .ok (.invokestatic 46, 3) := by decide +kernel
theorem dX5_rootAnew_15 : decode cX5_rootAnew 15 = .ok (.aload_n 3, 1) := by decide +kernel
theorem dX5_rootAnew_16 : decode cX5_rootAnew 16 = .ok (.iload_n 2, 1) := by decide +kernel
theorem dX5_rootAnew_17 : decode cX5_rootAnew 17 = .ok (.invokevirtual 80, 3) := by decide +kernel
theorem dX5_rootAnew_20 : decode cX5_rootAnew 20 = .ok (.ireturn, 1) := by decide +kernel
theorem dX5_loadLeaf_0 : decode cX5_loadLeaf 0 = .ok (.aload_n 0, 1) := by decide +kernel
theorem dX5_loadLeaf_1 : decode cX5_loadLeaf 1 = .ok (.iload_n 1, 1) := by decide +kernel
theorem dX5_loadLeaf_2 : decode cX5_loadLeaf 2 = .ok (.invokevirtual 41, 3) := by decide +kernel
theorem dX5_loadLeaf_5 : decode cX5_loadLeaf 5 = .ok (.astore 4, 2) := by decide +kernel
theorem dX5_loadLeaf_7 : decode cX5_loadLeaf 7 = .ok (.iload_n 3, 1) := by decide +kernel
theorem dX5_loadLeaf_8 : decode cX5_loadLeaf 8 = .ok (.iconst 1, 1) := by decide +kernel
theorem dX5_loadLeaf_9 : decode cX5_loadLeaf 9 = .ok (.aload 4, 2) := by decide +kernel
theorem dX5_loadLeaf_11 : decode cX5_loadLeaf 11 = .ok (.getfield 58, 3) := by decide +kernel
theorem dX5_loadLeaf_14 : decode cX5_loadLeaf 14 = .ok (.invokestatic 46, 3) := by decide +kernel
theorem dX5_loadLeaf_17 : decode cX5_loadLeaf 17 = .ok (.iload_n 2, 1) := by decide +kernel
theorem dX5_loadLeaf_18 : decode cX5_loadLeaf 18 = .ok (.iconst 0, 1) := by decide +kernel
theorem dX5_loadLeaf_19 : decode cX5_loadLeaf 19 = .ok (.iload_n 3, 1) := by decide +kernel
theorem dX5_loadLeaf_20 : decode cX5_loadLeaf 20 = .ok (.iconst 1, 1) := by decide +kernel
theorem dX5_loadLeaf_21 : decode cX5_loadLeaf 21 = .ok (.isub, 1) := by decide +kernel
theorem dX5_loadLeaf_22 : decode cX5_loadLeaf 22 = .ok (.invokestatic 46, 3) := by decide +kernel
theorem dX5_loadLeaf_25 : decode cX5_loadLeaf 25 = .ok (.aload_n 0, 1) := by decide +kernel
theorem dX5_loadLeaf_26 : decode cX5_loadLeaf 26 = .ok (.getfield 24, 3) := by decide +kernel
theorem dX5_loadLeaf_29 : decode cX5_loadLeaf 29 = .ok (.aload 4, 2) := by decide +kernel
theorem dX5_loadLeaf_31 : decode cX5_loadLeaf 31 = .ok (.iload_n 2, 1) := by decide +kernel
theorem dX5_loadLeaf_32 : decode cX5_loadLeaf 32 = .ok (.iload_n 3, 1) := by decide +kernel
theorem dX5_loadLeaf_33 : decode cX5_loadLeaf 33 = .ok (.invokevirtual 83, 3) := by decide +kernel
theorem dX5_loadLeaf_36 : decode cX5_loadLeaf 36 = .ok (.aload_n 0, 1) := by decide +kernel
theorem dX5_loadLeaf_37 : decode cX5_loadLeaf 37 = .ok (.getfield 24, 3) := by decide +kernel
theorem dX5_loadLeaf_40 : decode cX5_loadLeaf 40 = .ok (.getfield 87, 3) := by decide +kernel
theorem dX5_loadLeaf_43 : decode cX5_loadLeaf 43 = .ok (.ireturn, 1) := by decide +kernel
theorem dX5_loadGrowth_0 : decode cX5_loadGrowth 0 = .ok (.aload_n 0, 1) := by decide +kernel
theorem dX5_loadGrowth_1 : decode cX5_loadGrowth 1 = .ok (.iload_n 1, 1) := by decide +kernel
theorem dX5_loadGrowth_2 : decode cX5_loadGrowth 2 = .ok (.invokevirtual 41, 3) := by decide +kernel
theorem dX5_loadGrowth_5 : decode cX5_loadGrowth 5 = .ok (.astore 4, 2) := by decide +kernel
theorem dX5_loadGrowth_7 : decode cX5_loadGrowth 7 = .ok (.iload_n 3, 1) := by decide +kernel
theorem dX5_loadGrowth_8 : decode cX5_loadGrowth 8 = .ok (.iconst 1, 1) := by decide +kernel
theorem dX5_loadGrowth_9 : decode cX5_loadGrowth 9 = .ok (.aload 4, 2) := by decide +kernel
theorem dX5_loadGrowth_11 : decode cX5_loadGrowth 11 = .ok (.getfield 58, 3) := by decide +kernel
theorem dX5_loadGrowth_14 : decode cX5_loadGrowth 14 = .ok (.invokestatic 46, 3) := by decide +kernel
theorem dX5_loadGrowth_17 : decode cX5_loadGrowth 17 = .ok (.iload_n 2, 1) := by decide +kernel
theorem dX5_loadGrowth_18 : decode cX5_loadGrowth 18 = .ok (.iconst 1, 1) := by decide +kernel
theorem dX5_loadGrowth_19 : decode cX5_loadGrowth 19 = .ok (.iload_n 3, 1) := by decide +kernel
theorem dX5_loadGrowth_20 : decode cX5_loadGrowth 20 = .ok (.invokestatic 46, 3) := by decide +kernel
theorem dX5_loadGrowth_23 : decode cX5_loadGrowth 23 = .ok (.aload_n 0, 1) := by decide +kernel
theorem dX5_loadGrowth_24 : decode cX5_loadGrowth 24 = .ok (.getfield 24, 3) := by decide +kernel
theorem dX5_loadGrowth_27 : decode cX5_loadGrowth 27 = .ok (.aload 4, 2) := by decide +kernel
theorem dX5_loadGrowth_29 : decode cX5_loadGrowth 29 = .ok (.iload_n 2, 1) := by decide +kernel
theorem dX5_loadGrowth_30 : decode cX5_loadGrowth 30 = .ok (.iload_n 3, 1) := by decide +kernel
theorem dX5_loadGrowth_31 : decode cX5_loadGrowth 31 = .ok (.invokevirtual 90, 3) := by decide +kernel
theorem dX5_loadGrowth_34 : decode cX5_loadGrowth 34 = .ok (.aload_n 0, 1) := by decide +kernel
theorem dX5_loadGrowth_35 : decode cX5_loadGrowth 35 = .ok (.getfield 24, 3) := by decide +kernel
theorem dX5_loadGrowth_38 : decode cX5_loadGrowth 38 = .ok (.getfield 87, 3) := by decide +kernel
theorem dX5_loadGrowth_41 : decode cX5_loadGrowth 41 = .ok (.ireturn, 1) := by decide +kernel
theorem dX5_loadKey_0 : decode cX5_loadKey 0 = .ok (.iload_n 1, 1) := by decide +kernel
theorem dX5_loadKey_1 : decode cX5_loadKey 1 = .ok (.iconst 0, 1) := by decide +kernel
theorem dX5_loadKey_2 : decode cX5_loadKey 2 = .ok (.bipush 63, 2) := by decide +kernel
theorem dX5_loadKey_4 : decode cX5_loadKey 4 = .ok (.invokestatic 46, 3) := by decide +kernel
theorem dX5_loadKey_7 : decode cX5_loadKey 7 = .ok (.aload_n 0, 1) := by decide +kernel
theorem dX5_loadKey_8 : decode cX5_loadKey 8 = .ok (.getfield 24, 3) := by decide +kernel
theorem dX5_loadKey_11 : decode cX5_loadKey 11 = .ok (.aload_n 0, 1) := by decide +kernel
theorem dX5_loadKey_12 : decode cX5_loadKey 12 = .ok (.getfield 31, 3) := by decide +kernel
theorem dX5_loadKey_15 : decode cX5_loadKey 15 = .ok (.iload_n 1, 1) := by decide +kernel
theorem dX5_loadKey_16 : decode cX5_loadKey 16 = .ok (.invokevirtual 93, 3) := by decide +kernel
theorem dX5_loadKey_19 : decode cX5_loadKey 19 = .ok (.aload_n 0, 1) := by decide +kernel
theorem dX5_loadKey_20 : decode cX5_loadKey 20 = .ok (.getfield 24, 3) := by decide +kernel
theorem dX5_loadKey_23 : decode cX5_loadKey 23 = .ok (.getfield 87, 3) := by decide +kernel
theorem dX5_loadKey_26 : decode cX5_loadKey 26 = .ok (.ireturn, 1) := by decide +kernel
theorem dX5_change_0 : decode cX5_change 0 = .ok (.iload_n 1, 1) := by decide +kernel
theorem dX5_change_1 : decode cX5_change 1 = .ok (.ifCond .lt 14, 3) := by decide +kernel
theorem dX5_change_4 : decode cX5_change 4 = .ok (.iload_n 1, 1) := by decide +kernel
theorem dX5_change_5 : decode cX5_change 5 = .ok (.aload_n 0, 1) := by decide +kernel
theorem dX5_change_6 : decode cX5_change 6 = .ok (.getfield 24, 3) := by decide +kernel
theorem dX5_change_9 : decode cX5_change 9 = .ok (.getfield 87, 3) := by decide +kernel
theorem dX5_change_12 : decode cX5_change 12 = .ok (.if_icmp .le 13, 3) := by decide +kernel
theorem dX5_change_15 : decode cX5_change 15 = .ok (.new 72, 3) := by decide +kernel
theorem dX5_change_18 : decode cX5_change 18 = .ok (.dup, 1) := by decide +kernel
theorem dX5_change_19 : decode cX5_change 19 = .ok (.ldc 97, 2) := by decide +kernel
theorem dX5_change_21 : decode cX5_change 21 = .ok (.invokespecial 76, 3) := by decide +kernel
theorem dX5_change_24 : decode cX5_change 24 = .ok (.athrow, 1) := by decide +kernel
theorem dX5_change_25 : decode cX5_change 25 = .ok (.iload_n 2, 1) := by decide +kernel
theorem dX5_change_26 : decode cX5_change 26 = .ok (.iconst 0, 1) := by decide +kernel
theorem dX5_change_27 : decode cX5_change 27 = .ok (.ldc 99, 2) := by decide +kernel
theorem dX5_change_29 : decode cX5_change 29 = .ok (.invokestatic 46, 3) := by decide +kernel
theorem dX5_change_32 : decode cX5_change 32 = .ok (.iload_n 1, 1) := by decide +kernel
theorem dX5_change_33 : decode cX5_change 33 = .ok (.bipush 12, 2) := by decide +kernel
theorem dX5_change_35 : decode cX5_change 35 = .ok (.if_icmp .lt 13, 3) := by decide +kernel
theorem dX5_change_38 : decode cX5_change 38 = .ok (.new 61, 3) := by decide +kernel
theorem dX5_change_41 : decode cX5_change 41 = .ok (.dup, 1) := by decide +kernel
theorem dX5_change_42 : decode cX5_change 42 = .ok (.ldc 100, 2) := by decide +kernel
theorem dX5_change_44 : decode cX5_change 44 = .ok (.invokespecial 65, 3) := by decide +kernel
theorem dX5_change_47 : decode cX5_change 47 = .ok (.athrow, 1) := by decide +kernel
theorem dX5_change_48 : decode cX5_change 48 = .ok (.aload_n 0, 1) := by decide +kernel
theorem dX5_change_49 : decode cX5_change 49 = .ok (.getfield 24, 3) := by decide +kernel
theorem dX5_change_52 : decode cX5_change 52 = .ok (.iload_n 1, 1) := by decide +kernel
theorem dX5_change_53 : decode cX5_change 53 = .ok (.iload_n 2, 1) := by decide +kernel
theorem dX5_change_54 : decode cX5_change 54 = .ok (.invokevirtual 102, 3) := by decide +kernel
theorem dX5_change_57 : decode cX5_change 57 = .ok (.aload_n 0, 1) := by decide +kernel
theorem dX5_change_58 : decode cX5_change 58 = .ok (.getfield 24, 3) := by decide +kernel
theorem dX5_change_61 : decode cX5_change 61 = .ok (.getfield 87, 3) := by decide +kernel
theorem dX5_change_64 : decode cX5_change 64 = .ok (.ireturn, 1) := by decide +kernel
theorem dX5_shorten_0 : decode cX5_shorten 0 = .ok (.aload_n 0, 1) := by decide +kernel
theorem dX5_shorten_1 : decode cX5_shorten 1 = .ok (.getfield 24, 3) := by decide +kernel
theorem dX5_shorten_4 : decode cX5_shorten 4 = .ok (.getfield 87, 3) := by decide +kernel
theorem dX5_shorten_7 : decode cX5_shorten 7 = .ok (.iconst 1, 1) := by decide +kernel
theorem dX5_shorten_8 : decode cX5_shorten 8 = .ok (.if_icmp .ge 13, 3) := by decide +kernel
theorem dX5_shorten_11 : decode cX5_shorten 11 = .ok (.new 61, 3) := by decide +kernel
theorem dX5_shorten_14 : decode cX5_shorten 14 = .ok (.dup, 1) := by decide +kernel
theorem dX5_shorten_15 : decode cX5_shorten 15 = .ok (.ldc 106, 2) := by decide +kernel
theorem dX5_shorten_17 : decode cX5_shorten 17 = .ok (.invokespecial 65, 3) := by decide +kernel
theorem dX5_shorten_20 : decode cX5_shorten 20 = .ok (.athrow, 1) := by decide +kernel
theorem dX5_shorten_21 : decode cX5_shorten 21 = .ok (.aload_n 0, 1) := by decide +kernel
theorem dX5_shorten_22 : decode cX5_shorten 22 = .ok (.getfield 24, 3) := by decide +kernel
theorem dX5_shorten_25 : decode cX5_shorten 25 = .ok (.invokevirtual 108, 3) := by decide +kernel
theorem dX5_shorten_28 : decode cX5_shorten 28 = .ok (.ireturn, 1) := by decide +kernel
theorem dX5_sums_0 : decode cX5_sums 0 = .ok (.aload_n 0, 1) := by decide +kernel
theorem dX5_sums_1 : decode cX5_sums 1 = .ok (.getfield 24, 3) := by decide +kernel
theorem dX5_sums_4 : decode cX5_sums 4 = .ok (.getfield 87, 3) := by decide +kernel
theorem dX5_sums_7 : decode cX5_sums 7 = .ok (.ireturn, 1) := by decide +kernel
theorem dX5_sumAt_0 : decode cX5_sumAt 0 = .ok (.iload_n 1, 1) := by decide +kernel
theorem dX5_sumAt_1 : decode cX5_sumAt 1 = .ok (.ifCond .lt 14, 3) := by decide +kernel
theorem dX5_sumAt_4 : decode cX5_sumAt 4 = .ok (.iload_n 1, 1) := by decide +kernel
theorem dX5_sumAt_5 : decode cX5_sumAt 5 = .ok (.aload_n 0, 1) := by decide +kernel
theorem dX5_sumAt_6 : decode cX5_sumAt 6 = .ok (.getfield 24, 3) := by decide +kernel
theorem dX5_sumAt_9 : decode cX5_sumAt 9 = .ok (.getfield 87, 3) := by decide +kernel
theorem dX5_sumAt_12 : decode cX5_sumAt 12 = .ok (.if_icmp .lt 13, 3) := by decide +kernel
theorem dX5_sumAt_15 : decode cX5_sumAt 15 = .ok (.new 72, 3) := by decide +kernel
theorem dX5_sumAt_18 : decode cX5_sumAt 18 = .ok (.dup, 1) := by decide +kernel
theorem dX5_sumAt_19 : decode cX5_sumAt 19 = .ok (.ldc 112, 2) := by decide +kernel
theorem dX5_sumAt_21 : decode cX5_sumAt 21 = .ok (.invokespecial 76, 3) := by decide +kernel
theorem dX5_sumAt_24 : decode cX5_sumAt 24 = .ok (.athrow, 1) := by decide +kernel
theorem dX5_sumAt_25 : decode cX5_sumAt 25 = .ok (.aload_n 0, 1) := by decide +kernel
theorem dX5_sumAt_26 : decode cX5_sumAt 26 = .ok (.getfield 24, 3) := by decide +kernel
theorem dX5_sumAt_29 : decode cX5_sumAt 29 = .ok (.iload_n 1, 1) := by decide +kernel
theorem dX5_sumAt_30 : decode cX5_sumAt 30 = .ok (.invokevirtual 114, 3) := by decide +kernel
theorem dX5_sumAt_33 : decode cX5_sumAt 33 = .ok (.ireturn, 1) := by decide +kernel
theorem dX5_testLeaf_0 : decode cX5_testLeaf 0 = .ok (.aload_n 0, 1) := by decide +kernel
theorem dX5_testLeaf_1 : decode cX5_testLeaf 1 = .ok (.iload_n 1, 1) := by decide +kernel
theorem dX5_testLeaf_2 : decode cX5_testLeaf 2 = .ok (.invokevirtual 41, 3) := by decide +kernel
theorem dX5_testLeaf_5 : decode cX5_testLeaf 5 = .ok (.astore 5, 2) := by decide +kernel
theorem dX5_testLeaf_7 : decode cX5_testLeaf 7 = .ok (.iload_n 2, 1) := by decide +kernel
theorem dX5_testLeaf_8 : decode cX5_testLeaf 8 = .ok (.iconst 0, 1) := by decide +kernel
theorem dX5_testLeaf_9 : decode cX5_testLeaf 9 = .ok (.ldc 45, 2) := by decide +kernel
theorem dX5_testLeaf_11 : decode cX5_testLeaf 11 = .ok (.invokestatic 46, 3) := by decide +kernel
theorem dX5_testLeaf_14 : decode cX5_testLeaf 14 = .ok (.iload 4, 2) := by decide +kernel
theorem dX5_testLeaf_16 : decode cX5_testLeaf 16 = .ok (.iconst 1, 1) := by decide +kernel
theorem dX5_testLeaf_17 : decode cX5_testLeaf 17 = .ok (.aload 5, 2) := by decide +kernel
theorem dX5_testLeaf_19 : decode cX5_testLeaf 19 = .ok (.getfield 58, 3) := by decide +kernel
theorem dX5_testLeaf_22 : decode cX5_testLeaf 22 = .ok (.invokestatic 46, 3) := by decide +kernel
theorem dX5_testLeaf_25 : decode cX5_testLeaf 25 = .ok (.iload_n 3, 1) := by decide +kernel
theorem dX5_testLeaf_26 : decode cX5_testLeaf 26 = .ok (.iconst 0, 1) := by decide +kernel
theorem dX5_testLeaf_27 : decode cX5_testLeaf 27 = .ok (.iload 4, 2) := by decide +kernel
theorem dX5_testLeaf_29 : decode cX5_testLeaf 29 = .ok (.iconst 1, 1) := by decide +kernel
theorem dX5_testLeaf_30 : decode cX5_testLeaf 30 = .ok (.isub, 1) := by decide +kernel
theorem dX5_testLeaf_31 : decode cX5_testLeaf 31 = .ok (.invokestatic 46, 3) := by decide +kernel
theorem dX5_testLeaf_34 : decode cX5_testLeaf 34 = .ok (.aload_n 0, 1) := by decide +kernel
theorem dX5_testLeaf_35 : decode cX5_testLeaf 35 = .ok (.getfield 24, 3) := by decide +kernel
theorem dX5_testLeaf_38 : decode cX5_testLeaf 38 = .ok (.iload_n 2, 1) := by decide +kernel
theorem dX5_testLeaf_39 : decode cX5_testLeaf 39 = .ok (.iload_n 3, 1) := by decide +kernel
theorem dX5_testLeaf_40 : decode cX5_testLeaf 40 = .ok (.iload 4, 2) := by decide +kernel
theorem dX5_testLeaf_42 : decode cX5_testLeaf 42 = .ok (.aload 5, 2) := by decide +kernel
theorem dX5_testLeaf_44 : decode cX5_testLeaf 44 = .ok (.iload 4, 2) := by decide +kernel
theorem dX5_testLeaf_46 : decode cX5_testLeaf 46 = .ok (.invokevirtual 77, 3) := by decide +kernel
theorem dX5_testLeaf_49 : decode cX5_testLeaf 49 = .ok (.invokevirtual 117, 3) := by decide +kernel
theorem dX5_testLeaf_52 : decode cX5_testLeaf 52 = .ok (.ireturn, 1) := by decide +kernel
theorem dX5_testGrowth_0 : decode cX5_testGrowth 0 = .ok (.aload_n 0, 1) := by decide +kernel
theorem dX5_testGrowth_1 : decode cX5_testGrowth 1 = .ok (.iload_n 1, 1) := by decide +kernel
theorem dX5_testGrowth_2 : decode cX5_testGrowth 2 = .ok (.invokevirtual 41, 3) := by decide +kernel
theorem dX5_testGrowth_5 : decode cX5_testGrowth 5 = .ok (.astore 5, 2) := by decide +kernel
theorem dX5_testGrowth_7 : decode cX5_testGrowth 7 = .ok (.aload_n 0, 1) := by decide +kernel
theorem dX5_testGrowth_8 : decode cX5_testGrowth 8 = .ok (.iload_n 3, 1) := by decide +kernel
theorem dX5_testGrowth_9 : decode cX5_testGrowth 9 = .ok (.invokevirtual 41, 3) := by decide +kernel
theorem dX5_testGrowth_12 : decode cX5_testGrowth 12 = .ok (.astore 6, 2) := by decide +kernel
theorem dX5_testGrowth_14 : decode cX5_testGrowth 14 = .ok (.iload 4, 2) := by decide +kernel
theorem dX5_testGrowth_16 : decode cX5_testGrowth 16 = .ok (.iconst 1, 1) := by decide +kernel
theorem dX5_testGrowth_17 : decode cX5_testGrowth 17 = .ok (.aload 6, 2) := by decide +kernel
theorem dX5_testGrowth_19 : decode cX5_testGrowth 19 = .ok (.getfield 58, 3) := by decide +kernel
theorem dX5_testGrowth_22 : decode cX5_testGrowth 22 = .ok (.invokestatic 46, 3) := by decide +kernel
theorem dX5_testGrowth_25 : decode cX5_testGrowth 25 = .ok (.iload_n 2, 1) := by decide +kernel
theorem dX5_testGrowth_26 : decode cX5_testGrowth 26 = .ok (.iconst 1, 1) := by decide +kernel
theorem dX5_testGrowth_27 : decode cX5_testGrowth 27 = .ok (.iload 4, 2) := by decide +kernel
theorem dX5_testGrowth_29 : decode cX5_testGrowth 29 = .ok (.invokestatic 46, 3) := by decide +kernel
theorem dX5_testGrowth_32 : decode cX5_testGrowth 32 = .ok (.iload_n 2, 1) := by decide +kernel
theorem dX5_testGrowth_33 : decode cX5_testGrowth 33 = .ok (.iconst 1, 1) := by decide +kernel
theorem dX5_testGrowth_34 : decode cX5_testGrowth 34 = .ok (.aload 5, 2) := by decide +kernel
theorem dX5_testGrowth_36 : decode cX5_testGrowth 36 = .ok (.getfield 58, 3) := by decide +kernel
theorem dX5_testGrowth_39 : decode cX5_testGrowth 39 = .ok (.invokestatic 46, 3) := by decide +kernel
theorem dX5_testGrowth_42 : decode cX5_testGrowth 42 = .ok (.aload_n 0, 1) := by decide +kernel
theorem dX5_testGrowth_43 : decode cX5_testGrowth 43 = .ok (.getfield 24, 3) := by decide +kernel
theorem dX5_testGrowth_46 : decode cX5_testGrowth 46 = .ok (.iload_n 2, 1) := by decide +kernel
theorem dX5_testGrowth_47 : decode cX5_testGrowth 47 = .ok (.aload 5, 2) := by decide +kernel
theorem dX5_testGrowth_49 : decode cX5_testGrowth 49 = .ok (.iload_n 2, 1) := by decide +kernel
theorem dX5_testGrowth_50 : decode cX5_testGrowth 50 = .ok (.invokevirtual 77, 3) := by decide +kernel
theorem dX5_testGrowth_53 : decode cX5_testGrowth 53 = .ok (.iload 4, 2) := by decide +kernel
theorem dX5_testGrowth_55 : decode cX5_testGrowth 55 = .ok (.aload 6, 2) := by decide +kernel
theorem dX5_testGrowth_57 : decode cX5_testGrowth 57 = .ok (.iload 4, 2) := by decide +kernel
theorem dX5_testGrowth_59 : decode cX5_testGrowth 59 = .ok (.invokevirtual 77, 3) := by decide +kernel
theorem dX5_testGrowth_62 : decode cX5_testGrowth 62 = .ok (.invokevirtual 121, 3) := by decide +kernel
theorem dX5_testGrowth_65 : decode cX5_testGrowth 65 = .ok (.ireturn, 1) := by decide +kernel
theorem dX5_testKey_0 : decode cX5_testKey 0 = .ok (.iload_n 1, 1) := by decide +kernel
theorem dX5_testKey_1 : decode cX5_testKey 1 = .ok (.iconst 0, 1) := by decide +kernel
theorem dX5_testKey_2 : decode cX5_testKey 2 = .ok (.bipush 63, 2) := by decide +kernel
theorem dX5_testKey_4 : decode cX5_testKey 4 = .ok (.invokestatic 46, 3) := by decide +kernel
theorem dX5_testKey_7 : decode cX5_testKey 7 = .ok (.iload_n 2, 1) := by decide +kernel
theorem dX5_testKey_8 : decode cX5_testKey 8 = .ok (.iconst (-1), 1) := by decide +kernel
theorem dX5_testKey_9 : decode cX5_testKey 9 = .ok (.if_icmp .eq 10, 3) := by decide +kernel
theorem dX5_testKey_12 : decode cX5_testKey 12 = .ok (.iload_n 2, 1) := by decide +kernel
theorem dX5_testKey_13 : decode cX5_testKey 13 = .ok (.iconst 0, 1) := by decide +kernel
theorem dX5_testKey_14 : decode cX5_testKey 14 = .ok (.ldc 45, 2) := by decide +kernel
theorem dX5_testKey_16 : decode cX5_testKey 16 = .ok (.invokestatic 46, 3) := by decide +kernel
theorem dX5_testKey_19 : decode cX5_testKey 19 = .ok (.aload_n 0, 1) := by decide +kernel
theorem dX5_testKey_20 : decode cX5_testKey 20 = .ok (.getfield 24, 3) := by decide +kernel
theorem dX5_testKey_23 : decode cX5_testKey 23 = .ok (.iload_n 1, 1) := by decide +kernel
theorem dX5_testKey_24 : decode cX5_testKey 24 = .ok (.iload_n 2, 1) := by decide +kernel
theorem dX5_testKey_25 : decode cX5_testKey 25 = .ok (.aload_n 0, 1) := by decide +kernel
theorem dX5_testKey_26 : decode cX5_testKey 26 = .ok (.getfield 31, 3) := by decide +kernel
theorem dX5_testKey_29 : decode cX5_testKey 29 = .ok (.invokevirtual 124, 3) := by decide +kernel
theorem dX5_testKey_32 : decode cX5_testKey 32 = .ok (.invokevirtual 127, 3) := by decide +kernel
theorem dX5_testKey_35 : decode cX5_testKey 35 = .ok (.ireturn, 1) := by decide +kernel
theorem dX5_put_0 : decode cX5_put 0 = .ok (.iload_n 1, 1) := by decide +kernel
theorem dX5_put_1 : decode cX5_put 1 = .ok (.iconst 0, 1) := by decide +kernel
theorem dX5_put_2 : decode cX5_put 2 = .ok (.bipush 63, 2) := by decide +kernel
theorem dX5_put_4 : decode cX5_put 4 = .ok (.invokestatic 46, 3) := by decide +kernel
theorem dX5_put_7 : decode cX5_put 7 = .ok (.iload_n 2, 1) := by decide +kernel
theorem dX5_put_8 : decode cX5_put 8 = .ok (.iconst 0, 1) := by decide +kernel
theorem dX5_put_9 : decode cX5_put 9 = .ok (.ldc 45, 2) := by decide +kernel
theorem dX5_put_11 : decode cX5_put 11 = .ok (.invokestatic 46, 3) := by decide +kernel
theorem dX5_put_14 : decode cX5_put 14 = .ok (.aload_n 0, 1) := by decide +kernel
theorem dX5_put_15 : decode cX5_put 15 = .ok (.getfield 31, 3) := by decide +kernel
theorem dX5_put_18 : decode cX5_put 18 = .ok (.iload_n 1, 1) := by decide +kernel
theorem dX5_put_19 : decode cX5_put 19 = .ok (.iload_n 2, 1) := by decide +kernel
theorem dX5_put_20 : decode cX5_put 20 = .ok (.invokevirtual 131, 3) := by decide +kernel
theorem dX5_put_23 : decode cX5_put 23 = .ok (.ireturn, 1) := by decide +kernel
theorem dX5_remove_0 : decode cX5_remove 0 = .ok (.iload_n 1, 1) := by decide +kernel
theorem dX5_remove_1 : decode cX5_remove 1 = .ok (.iconst 0, 1) := by decide +kernel
theorem dX5_remove_2 : decode cX5_remove 2 = .ok (.bipush 63, 2) := by decide +kernel
theorem dX5_remove_4 : decode cX5_remove 4 = .ok (.invokestatic 46, 3) := by decide +kernel
theorem dX5_remove_7 : decode cX5_remove 7 = .ok (.aload_n 0, 1) := by decide +kernel
theorem dX5_remove_8 : decode cX5_remove 8 = .ok (.getfield 31, 3) := by decide +kernel
theorem dX5_remove_11 : decode cX5_remove 11 = .ok (.iload_n 1, 1) := by decide +kernel
theorem dX5_remove_12 : decode cX5_remove 12 = .ok (.iconst (-1), 1) := by decide +kernel
theorem dX5_remove_13 : decode cX5_remove 13 = .ok (.invokevirtual 131, 3) := by decide +kernel
theorem dX5_remove_16 : decode cX5_remove 16 = .ok (.ireturn, 1) := by decide +kernel
theorem dX5_get_0 : decode cX5_get 0 = .ok (.iload_n 1, 1) := by decide +kernel
theorem dX5_get_1 : decode cX5_get 1 = .ok (.iconst 0, 1) := by decide +kernel
theorem dX5_get_2 : decode cX5_get 2 = .ok (.bipush 63, 2) := by decide +kernel
theorem dX5_get_4 : decode cX5_get 4 = .ok (.invokestatic 46, 3) := by decide +kernel
theorem dX5_get_7 : decode cX5_get 7 = .ok (.aload_n 0, 1) := by decide +kernel
theorem dX5_get_8 : decode cX5_get 8 = .ok (.getfield 31, 3) := by decide +kernel
theorem dX5_get_11 : decode cX5_get 11 = .ok (.iload_n 1, 1) := by decide +kernel
theorem dX5_get_12 : decode cX5_get 12 = .ok (.invokevirtual 135, 3) := by decide +kernel
theorem dX5_get_15 : decode cX5_get 15 = .ok (.ireturn, 1) := by decide +kernel
theorem dX5_mapRoot_0 : decode cX5_mapRoot 0 = .ok (.aload_n 0, 1) := by decide +kernel
theorem dX5_mapRoot_1 : decode cX5_mapRoot 1 = .ok (.getfield 31, 3) := by decide +kernel
theorem dX5_mapRoot_4 : decode cX5_mapRoot 4 = .ok (.invokevirtual 124, 3) := by decide +kernel
theorem dX5_mapRoot_7 : decode cX5_mapRoot 7 = .ok (.ireturn, 1) := by decide +kernel
theorem dX5_show_0 : decode cX5_show 0 = .ok (.aload_n 0, 1) := by decide +kernel
theorem dX5_show_1 : decode cX5_show 1 = .ok (.iload_n 1, 1) := by decide +kernel
theorem dX5_show_2 : decode cX5_show 2 = .ok (.invokevirtual 136, 3) := by decide +kernel
theorem dX5_show_5 : decode cX5_show 5 = .ok (.astore_n 3, 1) := by decide +kernel
theorem dX5_show_6 : decode cX5_show 6 = .ok (.aload_n 3, 1) := by decide +kernel
theorem dX5_show_7 : decode cX5_show 7 = .ok (.aload_n 0, 1) := by decide +kernel
theorem dX5_show_8 : decode cX5_show 8 = .ok (.iload_n 2, 1) := by decide +kernel
theorem dX5_show_9 : decode cX5_show 9 = .ok (.invokevirtual 41, 3) := by decide +kernel
theorem dX5_show_12 : decode cX5_show 12 = .ok (.invokevirtual 140, 3) := by decide +kernel
theorem dX5_show_15 : decode cX5_show 15 = .ok (.ireturn, 1) := by decide +kernel
theorem dX5_gossip_0 : decode cX5_gossip 0 = .ok (.aload_n 0, 1) := by decide +kernel
theorem dX5_gossip_1 : decode cX5_gossip 1 = .ok (.iload_n 1, 1) := by decide +kernel
theorem dX5_gossip_2 : decode cX5_gossip 2 = .ok (.invokevirtual 136, 3) := by decide +kernel
theorem dX5_gossip_5 : decode cX5_gossip 5 = .ok (.astore_n 3, 1) := by decide +kernel
theorem dX5_gossip_6 : decode cX5_gossip 6 = .ok (.aload_n 0, 1) := by decide +kernel
theorem dX5_gossip_7 : decode cX5_gossip 7 = .ok (.iload_n 2, 1) := by decide +kernel
theorem dX5_gossip_8 : decode cX5_gossip 8 = .ok (.invokevirtual 136, 3) := by decide +kernel
theorem dX5_gossip_11 : decode cX5_gossip 11 = .ok (.astore 4, 2) := by decide +kernel
theorem dX5_gossip_13 : decode cX5_gossip 13 = .ok (.iload_n 1, 1) := by decide +kernel
theorem dX5_gossip_14 : decode cX5_gossip 14 = .ok (.iload_n 2, 1) := by decide +kernel
theorem dX5_gossip_15 : decode cX5_gossip 15 = .ok (.if_icmp .eq 12, 3) := by decide +kernel
theorem dX5_gossip_18 : decode cX5_gossip 18 = .ok (.aload_n 3, 1) := by decide +kernel
theorem dX5_gossip_19 : decode cX5_gossip 19 = .ok (.aload 4, 2) := by decide +kernel
theorem dX5_gossip_21 : decode cX5_gossip 21 = .ok (.invokevirtual 144, 3) := by decide +kernel
theorem dX5_gossip_24 : decode cX5_gossip 24 = .ok (.ifCond .eq 7, 3) := by decide +kernel
theorem dX5_gossip_27 : decode cX5_gossip 27 = .ok (.iconst 1, 1) := by decide +kernel
theorem dX5_gossip_28 : decode cX5_gossip 28 = .ok (.goto 4, 3) := by decide +kernel
theorem dX5_gossip_31 : decode cX5_gossip 31 = .ok (.iconst 0, 1) := by decide +kernel
theorem dX5_gossip_32 : decode cX5_gossip 32 = .ok (.istore 5, 2) := by decide +kernel
theorem dX5_gossip_34 : decode cX5_gossip 34 = .ok (.iload 5, 2) := by decide +kernel
theorem dX5_gossip_36 : decode cX5_gossip 36 = .ok (.ifCond .ne 14, 3) := by decide +kernel
theorem dX5_gossip_39 : decode cX5_gossip 39 = .ok (.aload_n 3, 1) := by decide +kernel
theorem dX5_gossip_40 : decode cX5_gossip 40 = .ok (.iconst 1, 1) := by decide +kernel
theorem dX5_gossip_41 : decode cX5_gossip 41 = .ok (.putfield 148, 3) := by decide +kernel
theorem dX5_gossip_44 : decode cX5_gossip 44 = .ok (.aload 4, 2) := by decide +kernel
theorem dX5_gossip_46 : decode cX5_gossip 46 = .ok (.iconst 1, 1) := by decide +kernel
theorem dX5_gossip_47 : decode cX5_gossip 47 = .ok (.putfield 148, 3) := by decide +kernel
theorem dX5_gossip_50 : decode cX5_gossip 50 = .ok (.iload 5, 2) := by decide +kernel
theorem dX5_gossip_52 : decode cX5_gossip 52 = .ok (.ireturn, 1) := by decide +kernel
theorem dX5_follow_0 : decode cX5_follow 0 = .ok (.aload_n 0, 1) := by decide +kernel
theorem dX5_follow_1 : decode cX5_follow 1 = .ok (.iload_n 1, 1) := by decide +kernel
theorem dX5_follow_2 : decode cX5_follow 2 = .ok (.invokevirtual 136, 3) := by decide +kernel
theorem dX5_follow_5 : decode cX5_follow 5 = .ok (.astore_n 3, 1) := by decide +kernel
theorem dX5_follow_6 : decode cX5_follow 6 = .ok (.iload_n 2, 1) := by decide +kernel
theorem dX5_follow_7 : decode cX5_follow 7 = .ok (.iconst 0, 1) := by decide +kernel
theorem dX5_follow_8 : decode cX5_follow 8 = .ok (.ldc 45, 2) := by decide +kernel
theorem dX5_follow_10 : decode cX5_follow 10 = .ok (.invokestatic 46, 3) := by decide +kernel
theorem dX5_follow_13 : decode cX5_follow 13 = .ok (.aload_n 3, 1) := by decide +kernel
theorem dX5_follow_14 : decode cX5_follow 14 = .ok (.iload_n 2, 1) := by decide +kernel
theorem dX5_follow_15 : decode cX5_follow 15 = .ok (.putfield 152, 3) := by decide +kernel
theorem dX5_follow_18 : decode cX5_follow 18 = .ok (.aload_n 3, 1) := by decide +kernel
theorem dX5_follow_19 : decode cX5_follow 19 = .ok (.iconst 0, 1) := by decide +kernel
theorem dX5_follow_20 : decode cX5_follow 20 = .ok (.putfield 155, 3) := by decide +kernel
theorem dX5_follow_23 : decode cX5_follow 23 = .ok (.return_, 1) := by decide +kernel
theorem dX5_isAlarmed_0 : decode cX5_isAlarmed 0 = .ok (.aload_n 0, 1) := by decide +kernel
theorem dX5_isAlarmed_1 : decode cX5_isAlarmed 1 = .ok (.iload_n 1, 1) := by decide +kernel
theorem dX5_isAlarmed_2 : decode cX5_isAlarmed 2 = .ok (.invokevirtual 136, 3) := by decide +kernel
theorem dX5_isAlarmed_5 : decode cX5_isAlarmed 5 = .ok (.getfield 148, 3) := by decide +kernel
theorem dX5_isAlarmed_8 : decode cX5_isAlarmed 8 = .ok (.ireturn, 1) := by decide +kernel
theorem dX5_keptSize_0 : decode cX5_keptSize 0 = .ok (.aload_n 0, 1) := by decide +kernel
theorem dX5_keptSize_1 : decode cX5_keptSize 1 = .ok (.iload_n 1, 1) := by decide +kernel
theorem dX5_keptSize_2 : decode cX5_keptSize 2 = .ok (.invokevirtual 136, 3) := by decide +kernel
theorem dX5_keptSize_5 : decode cX5_keptSize 5 = .ok (.getfield 158, 3) := by decide +kernel
theorem dX5_keptSize_8 : decode cX5_keptSize 8 = .ok (.ireturn, 1) := by decide +kernel
theorem dX5_keptRoot_0 : decode cX5_keptRoot 0 = .ok (.aload_n 0, 1) := by decide +kernel
theorem dX5_keptRoot_1 : decode cX5_keptRoot 1 = .ok (.iload_n 1, 1) := by decide +kernel
theorem dX5_keptRoot_2 : decode cX5_keptRoot 2 = .ok (.invokevirtual 136, 3) := by decide +kernel
theorem dX5_keptRoot_5 : decode cX5_keptRoot 5 = .ok (.getfield 161, 3) := by decide +kernel
theorem dX5_keptRoot_8 : decode cX5_keptRoot 8 = .ok (.ireturn, 1) := by decide +kernel
theorem dX5_counted_0 : decode cX5_counted 0 = .ok (.aload_n 0, 1) := by decide +kernel
theorem dX5_counted_1 : decode cX5_counted 1 = .ok (.iload_n 1, 1) := by decide +kernel
theorem dX5_counted_2 : decode cX5_counted 2 = .ok (.invokevirtual 136, 3) := by decide +kernel
theorem dX5_counted_5 : decode cX5_counted 5 = .ok (.getfield 155, 3) := by decide +kernel
theorem dX5_counted_8 : decode cX5_counted 8 = .ok (.ireturn, 1) := by decide +kernel
theorem dX5_viewNumbered_0 : decode cX5_viewNumbered 0 = .ok (.iload_n 1, 1) := by decide +kernel
theorem dX5_viewNumbered_1 : decode cX5_viewNumbered 1 = .ok (.ifCond .lt 21, 3) := by decide +kernel
theorem dX5_viewNumbered_4 : decode cX5_viewNumbered 4 = .ok (.iload_n 1, 1) := by decide +kernel
theorem dX5_viewNumbered_5 : decode cX5_viewNumbered 5 = .ok (.aload_n 0, 1) := by decide +kernel
theorem dX5_viewNumbered_6 : decode cX5_viewNumbered 6 = .ok (.getfield 11, 3) := by decide +kernel
theorem dX5_viewNumbered_9 : decode cX5_viewNumbered 9 = .ok (.arraylength, 1) := by decide +kernel
theorem dX5_viewNumbered_10 : decode cX5_viewNumbered 10 = .ok (.if_icmp .ge 12, 3) := by decide +kernel
theorem dX5_viewNumbered_13 : decode cX5_viewNumbered 13 = .ok (.aload_n 0, 1) := by decide +kernel
theorem dX5_viewNumbered_14 : decode cX5_viewNumbered 14 = .ok (.getfield 11, 3) := by decide +kernel
theorem dX5_viewNumbered_17 : decode cX5_viewNumbered 17 = .ok (.iload_n 1, 1) := by decide +kernel
theorem dX5_viewNumbered_18 : decode cX5_viewNumbered 18 = .ok (.aaload, 1) := by decide +kernel
theorem dX5_viewNumbered_19 : decode cX5_viewNumbered 19 = .ok (.goto 4, 3) := by decide +kernel
theorem dX5_viewNumbered_22 : decode cX5_viewNumbered 22 = .ok (.aconst_null, 1) := by decide +kernel
theorem dX5_viewNumbered_23 : decode cX5_viewNumbered 23 = .ok (.astore_n 2, 1) := by decide +kernel
theorem dX5_viewNumbered_24 : decode cX5_viewNumbered 24 = .ok (.aload_n 2, 1) := by decide +kernel
theorem dX5_viewNumbered_25 : decode cX5_viewNumbered 25 = .ok (.ifnonnull 13, 3) := by decide +kernel
theorem dX5_viewNumbered_28 : decode cX5_viewNumbered 28 = .ok (.new 72, 3) := by decide +kernel
theorem dX5_viewNumbered_31 : decode cX5_viewNumbered 31 = .ok (.dup, 1) := by decide +kernel
theorem dX5_viewNumbered_32 : decode cX5_viewNumbered 32 = .ok (.ldc 164, 2) := by decide +kernel
theorem dX5_viewNumbered_34 : decode cX5_viewNumbered 34 = .ok (.invokespecial 76, 3) := by decide +kernel
theorem dX5_viewNumbered_37 : decode cX5_viewNumbered 37 = .ok (.athrow, 1) := by decide +kernel
theorem dX5_viewNumbered_38 : decode cX5_viewNumbered 38 = .ok (.aload_n 2, 1) := by decide +kernel
theorem dX5_viewNumbered_39 : decode cX5_viewNumbered 39 = .ok (.areturn, 1) := by decide +kernel
theorem dX5_watcherNumbered_0 : decode cX5_watcherNumbered 0 = .ok (.iload_n 1, 1) := by decide +kernel
theorem dX5_watcherNumbered_1 : decode cX5_watcherNumbered 1 = .ok (.ifCond .lt 21, 3) := by decide +kernel
theorem dX5_watcherNumbered_4 : decode cX5_watcherNumbered 4 = .ok (.iload_n 1, 1) := by decide +kernel
theorem dX5_watcherNumbered_5 : decode cX5_watcherNumbered 5 = .ok (.aload_n 0, 1) := by decide +kernel
theorem dX5_watcherNumbered_6 : decode cX5_watcherNumbered 6 = .ok (.getfield 17, 3) := by decide +kernel
theorem dX5_watcherNumbered_9 : decode cX5_watcherNumbered 9 = .ok (.arraylength, 1) := by decide +kernel
theorem dX5_watcherNumbered_10 : decode cX5_watcherNumbered 10 = .ok (.if_icmp .ge 12, 3) := by decide +kernel
theorem dX5_watcherNumbered_13 : decode cX5_watcherNumbered 13 = .ok (.aload_n 0, 1) := by decide +kernel
theorem dX5_watcherNumbered_14 : decode cX5_watcherNumbered 14 = .ok (.getfield 17, 3) := by decide +kernel
theorem dX5_watcherNumbered_17 : decode cX5_watcherNumbered 17 = .ok (.iload_n 1, 1) := by decide +kernel
theorem dX5_watcherNumbered_18 : decode cX5_watcherNumbered 18 = .ok (.aaload, 1) := by decide +kernel
theorem dX5_watcherNumbered_19 : decode cX5_watcherNumbered 19 = .ok (.goto 4, 3) := by decide +kernel
theorem dX5_watcherNumbered_22 : decode cX5_watcherNumbered 22 = .ok (.aconst_null, 1) := by decide +kernel
theorem dX5_watcherNumbered_23 : decode cX5_watcherNumbered 23 = .ok (.astore_n 2, 1) := by decide +kernel
theorem dX5_watcherNumbered_24 : decode cX5_watcherNumbered 24 = .ok (.aload_n 2, 1) := by decide +kernel
theorem dX5_watcherNumbered_25 : decode cX5_watcherNumbered 25 = .ok (.ifnonnull 13, 3) := by decide +kernel
theorem dX5_watcherNumbered_28 : decode cX5_watcherNumbered 28 = .ok (.new 72, 3) := by decide +kernel
theorem dX5_watcherNumbered_31 : decode cX5_watcherNumbered 31 = .ok (.dup, 1) := by decide +kernel
theorem dX5_watcherNumbered_32 : decode cX5_watcherNumbered 32 = .ok (.ldc 166, 2) := by decide +kernel
theorem dX5_watcherNumbered_34 : decode cX5_watcherNumbered 34 = .ok (.invokespecial 76, 3) := by decide +kernel
theorem dX5_watcherNumbered_37 : decode cX5_watcherNumbered 37 = .ok (.athrow, 1) := by decide +kernel
theorem dX5_watcherNumbered_38 : decode cX5_watcherNumbered 38 = .ok (.aload_n 2, 1) := by decide +kernel
theorem dX5_watcherNumbered_39 : decode cX5_watcherNumbered 39 = .ok (.areturn, 1) := by decide +kernel
theorem dX5_requireRange_0 : decode cX5_requireRange 0 = .ok (.iload_n 0, 1) := by decide +kernel
theorem dX5_requireRange_1 : decode cX5_requireRange 1 = .ok (.iload_n 1, 1) := by decide +kernel
theorem dX5_requireRange_2 : decode cX5_requireRange 2 = .ok (.if_icmp .lt 8, 3) := by decide +kernel
theorem dX5_requireRange_5 : decode cX5_requireRange 5 = .ok (.iload_n 0, 1) := by decide +kernel
theorem dX5_requireRange_6 : decode cX5_requireRange 6 = .ok (.iload_n 2, 1) := by decide +kernel
theorem dX5_requireRange_7 : decode cX5_requireRange 7 = .ok (.if_icmp .le 13, 3) := by decide +kernel
theorem dX5_requireRange_10 : decode cX5_requireRange 10 = .ok (.new 168, 3) := by decide +kernel
theorem dX5_requireRange_13 : decode cX5_requireRange 13 = .ok (.dup, 1) := by decide +kernel
theorem dX5_requireRange_14 : decode cX5_requireRange 14 = .ok (.ldc 170, 2) := by decide +kernel
theorem dX5_requireRange_16 : decode cX5_requireRange 16 = .ok (.invokespecial 172, 3) := by decide +kernel
theorem dX5_requireRange_19 : decode cX5_requireRange 19 = .ok (.athrow, 1) := by decide +kernel
theorem dX5_requireRange_20 : decode cX5_requireRange 20 = .ok (.return_, 1) := by decide +kernel
theorem dX5_requireRoom_0 : decode cX5_requireRoom 0 = .ok (.iload_n 1, 1) := by decide +kernel
theorem dX5_requireRoom_1 : decode cX5_requireRoom 1 = .ok (.bipush 100, 2) := by decide +kernel
theorem dX5_requireRoom_3 : decode cX5_requireRoom 3 = .ok (.aload_n 0, 1) := by decide +kernel
theorem dX5_requireRoom_4 : decode cX5_requireRoom 4 = .ok (.getfield 58, 3) := by decide +kernel
theorem dX5_requireRoom_7 : decode cX5_requireRoom 7 = .ok (.isub, 1) := by decide +kernel
theorem dX5_requireRoom_8 : decode cX5_requireRoom 8 = .ok (.if_icmp .le 13, 3) := by decide +kernel
theorem dX5_requireRoom_11 : decode cX5_requireRoom 11 = .ok (.new 61, 3) := by decide +kernel
theorem dX5_requireRoom_14 : decode cX5_requireRoom 14 = .ok (.dup, 1) := by decide +kernel
theorem dX5_requireRoom_15 : decode cX5_requireRoom 15 = .ok (.ldc 173, 2) := by decide +kernel
theorem dX5_requireRoom_17 : decode cX5_requireRoom 17 = .ok (.invokespecial 65, 3) := by decide +kernel
theorem dX5_requireRoom_20 : decode cX5_requireRoom 20 = .ok (.athrow, 1) := by decide +kernel
theorem dX5_requireRoom_21 : decode cX5_requireRoom 21 = .ok (.return_, 1) := by decide +kernel
theorem dX5_leafSum_0 : decode cX5_leafSum 0 = .ok (.ldc2_w 175, 3) := by decide +kernel
theorem dX5_leafSum_3 : decode cX5_leafSum 3 = .ok (.iload_n 0, 1) := by decide +kernel
theorem dX5_leafSum_4 : decode cX5_leafSum 4 = .ok (.i2l, 1) := by decide +kernel
theorem dX5_leafSum_5 : decode cX5_leafSum 5 = .ok (.lmul, 1) := by decide +kernel
theorem dX5_leafSum_6 : decode cX5_leafSum 6 = .ok (.ldc2_w 177, 3) := by decide +kernel
theorem dX5_leafSum_9 : decode cX5_leafSum 9 = .ok (.ladd, 1) := by decide +kernel
theorem dX5_leafSum_10 : decode cX5_leafSum 10 = .ok (.ldc2_w 179, 3) := by decide +kernel
theorem dX5_leafSum_13 : decode cX5_leafSum 13 = .ok (.lrem, 1) := by decide +kernel
theorem dX5_leafSum_14 : decode cX5_leafSum 14 = .ok (.l2i, 1) := by decide +kernel
theorem dX5_leafSum_15 : decode cX5_leafSum 15 = .ok (.ireturn, 1) := by decide +kernel
theorem dX5_mix_0 : decode cX5_mix 0 = .ok (.ldc2_w 181, 3) := by decide +kernel
theorem dX5_mix_3 : decode cX5_mix 3 = .ok (.iload_n 0, 1) := by decide +kernel
theorem dX5_mix_4 : decode cX5_mix 4 = .ok (.i2l, 1) := by decide +kernel
theorem dX5_mix_5 : decode cX5_mix 5 = .ok (.lmul, 1) := by decide +kernel
theorem dX5_mix_6 : decode cX5_mix 6 = .ok (.ldc2_w 183, 3) := by decide +kernel
theorem dX5_mix_9 : decode cX5_mix 9 = .ok (.iload_n 1, 1) := by decide +kernel
theorem dX5_mix_10 : decode cX5_mix 10 = .ok (.i2l, 1) := by decide +kernel
theorem dX5_mix_11 : decode cX5_mix 11 = .ok (.lmul, 1) := by decide +kernel
theorem dX5_mix_12 : decode cX5_mix 12 = .ok (.ladd, 1) := by decide +kernel
theorem dX5_mix_13 : decode cX5_mix 13 = .ok (.ldc2_w 185, 3) := by decide +kernel
theorem dX5_mix_16 : decode cX5_mix 16 = .ok (.ladd, 1) := by decide +kernel
theorem dX5_mix_17 : decode cX5_mix 17 = .ok (.ldc2_w 179, 3) := by decide +kernel
theorem dX5_mix_20 : decode cX5_mix 20 = .ok (.lrem, 1) := by decide +kernel
theorem dX5_mix_21 : decode cX5_mix 21 = .ok (.l2i, 1) := by decide +kernel
theorem dX5_mix_22 : decode cX5_mix 22 = .ok (.ireturn, 1) := by decide +kernel
theorem dX5_keySum_0 : decode cX5_keySum 0 = .ok (.iload_n 0, 1) := by decide +kernel
theorem dX5_keySum_1 : decode cX5_keySum 1 = .ok (.iconst (-1), 1) := by decide +kernel
theorem dX5_keySum_2 : decode cX5_keySum 2 = .ok (.if_icmp .ne 7, 3) := by decide +kernel
theorem dX5_keySum_5 : decode cX5_keySum 5 = .ok (.iconst 0, 1) := by decide +kernel
theorem dX5_keySum_6 : decode cX5_keySum 6 = .ok (.goto 9, 3) := by decide +kernel
theorem dX5_keySum_9 : decode cX5_keySum 9 = .ok (.iload_n 0, 1) := by decide +kernel
theorem dX5_keySum_10 : decode cX5_keySum 10 = .ok (.iconst 1, 1) := by decide +kernel
theorem dX5_keySum_11 : decode cX5_keySum 11 = .ok (.iadd, 1) := by decide +kernel
theorem dX5_keySum_12 : decode cX5_keySum 12 = .ok (.invokestatic 187, 3) := by decide +kernel
theorem dX5_keySum_15 : decode cX5_keySum 15 = .ok (.ireturn, 1) := by decide +kernel
theorem dX5_mapMix_0 : decode cX5_mapMix 0 = .ok (.iload_n 0, 1) := by decide +kernel
theorem dX5_mapMix_1 : decode cX5_mapMix 1 = .ok (.ifCond .ne 11, 3) := by decide +kernel
theorem dX5_mapMix_4 : decode cX5_mapMix 4 = .ok (.iload_n 1, 1) := by decide +kernel
theorem dX5_mapMix_5 : decode cX5_mapMix 5 = .ok (.ifCond .ne 7, 3) := by decide +kernel
theorem dX5_mapMix_8 : decode cX5_mapMix 8 = .ok (.iconst 0, 1) := by decide +kernel
theorem dX5_mapMix_9 : decode cX5_mapMix 9 = .ok (.goto 8, 3) := by decide +kernel
theorem dX5_mapMix_12 : decode cX5_mapMix 12 = .ok (.iload_n 0, 1) := by decide +kernel
theorem dX5_mapMix_13 : decode cX5_mapMix 13 = .ok (.iload_n 1, 1) := by decide +kernel
theorem dX5_mapMix_14 : decode cX5_mapMix 14 = .ok (.invokestatic 190, 3) := by decide +kernel
theorem dX5_mapMix_17 : decode cX5_mapMix 17 = .ok (.ireturn, 1) := by decide +kernel
