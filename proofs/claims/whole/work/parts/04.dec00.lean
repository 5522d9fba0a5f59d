theorem dX0_init_0 : decode cX0_init 0 = .ok (.aload_n 0, 1) := by decide +kernel
theorem dX0_init_1 : decode cX0_init 1 = .ok (.invokespecial 3, 3) := by decide +kernel
theorem dX0_init_4 : decode cX0_init 4 = .ok (.aload_n 0, 1) := by decide +kernel
theorem dX0_init_5 : decode cX0_init 5 = .ok (.bipush 8, 2) := by decide +kernel
theorem dX0_init_7 : decode cX0_init 7 = .ok (.newarray .int, 2) := by decide +kernel
theorem dX0_init_9 : decode cX0_init 9 = .ok (.putfield 9, 3) := by decide +kernel
theorem dX0_init_12 : decode cX0_init 12 = .ok (.return_, 1) := by decide +kernel
theorem dX0_copyFrom_0 : decode cX0_copyFrom 0 = .ok (.aload_n 1, 1) := by decide +kernel
theorem dX0_copyFrom_1 : decode cX0_copyFrom 1 = .ok (.getfield 9, 3) := by decide +kernel
theorem dX0_copyFrom_4 : decode cX0_copyFrom 4 = .ok (.iconst 0, 1) := by decide +kernel
theorem dX0_copyFrom_5 : decode cX0_copyFrom 5 = .ok (.aload_n 0, 1) := by decide +kernel
theorem dX0_copyFrom_6 : decode cX0_copyFrom 6 = .ok (.getfield 9, 3) := by decide +kernel
theorem dX0_copyFrom_9 : decode cX0_copyFrom 9 = .ok (.iconst 0, 1) := by decide +kernel
theorem dX0_copyFrom_10 : decode cX0_copyFrom 10 = .ok (.bipush 8, 2) := by decide +kernel
theorem dX0_copyFrom_12 : decode cX0_copyFrom 12 = .ok (.invokestatic 15, 3) := by decide +kernel
theorem dX0_copyFrom_15 : decode cX0_copyFrom 15 = .ok (.aload_n 0, 1) := by decide +kernel
theorem dX0_copyFrom_16 : decode cX0_copyFrom 16 = .ok (.aload_n 1, 1) := by decide +kernel
theorem dX0_copyFrom_17 : decode cX0_copyFrom 17 = .ok (.getfield 21, 3) := by decide +kernel
theorem dX0_copyFrom_20 : decode cX0_copyFrom 20 = .ok (.putfield 21, 3) := by decide +kernel
theorem dX0_copyFrom_23 : decode cX0_copyFrom 23 = .ok (.aload_n 0, 1) := by decide +kernel
theorem dX0_copyFrom_24 : decode cX0_copyFrom 24 = .ok (.aload_n 1, 1) := by decide +kernel
theorem dX0_copyFrom_25 : decode cX0_copyFrom 25 = .ok (.getfield 25, 3) := by decide +kernel
theorem dX0_copyFrom_28 : decode cX0_copyFrom 28 = .ok (.putfield 25, 3) := by decide +kernel
theorem dX0_copyFrom_31 : decode cX0_copyFrom 31 = .ok (.return_, 1) := by decide +kernel
theorem dX0_reset_0 : decode cX0_reset 0 = .ok (.aload_n 0, 1) := by decide +kernel
theorem dX0_reset_1 : decode cX0_reset 1 = .ok (.getfield 9, 3) := by decide +kernel
theorem dX0_reset_4 : decode cX0_reset 4 = .ok (.iconst 0, 1) := by decide +kernel
theorem dX0_reset_5 : decode cX0_reset 5 = .ok (.invokestatic 28, 3) := by decide +kernel
theorem dX0_reset_8 : decode cX0_reset 8 = .ok (.aload_n 0, 1) := by decide +kernel
theorem dX0_reset_9 : decode cX0_reset 9 = .ok (.iconst 0, 1) := by decide +kernel
theorem dX0_reset_10 : decode cX0_reset 10 = .ok (.putfield 21, 3) := by decide +kernel
theorem dX0_reset_13 : decode cX0_reset 13 = .ok (.aload_n 0, 1) := by decide +kernel
theorem dX0_reset_14 : decode cX0_reset 14 = .ok (.iconst 0, 1) := by decide +kernel
theorem dX0_reset_15 : decode cX0_reset 15 = .ok (.putfield 25, 3) := by decide +kernel
theorem dX0_reset_18 : decode cX0_reset 18 = .ok (.return_, 1) := by decide +kernel
theorem dX0_freeAllNow_0 : decode cX0_freeAllNow 0 = .ok (.aload_n 0, 1) := by decide +kernel
theorem dX0_freeAllNow_1 : decode cX0_freeAllNow 1 = .ok (.getfield 9, 3) := by decide +kernel
theorem dX0_freeAllNow_4 : decode cX0_freeAllNow 4 = .ok (.aload_n 0, 1) := by decide +kernel
theorem dX0_freeAllNow_5 : decode cX0_freeAllNow 5 = .ok (.getfield 21, 3) := by decide +kernel
theorem dX0_freeAllNow_8 : decode cX0_freeAllNow 8 = .ok (.invokestatic 28, 3) := by decide +kernel
theorem dX0_freeAllNow_11 : decode cX0_freeAllNow 11 = .ok (.return_, 1) := by decide +kernel
theorem dX0_freeSlot_0 : decode cX0_freeSlot 0 = .ok (.iload_n 1, 1) := by decide +kernel
theorem dX0_freeSlot_1 : decode cX0_freeSlot 1 = .ok (.invokestatic 34, 3) := by decide +kernel
theorem dX0_freeSlot_4 : decode cX0_freeSlot 4 = .ok (.ifCond .eq 23, 3) := by decide +kernel
theorem dX0_freeSlot_7 : decode cX0_freeSlot 7 = .ok (.aload_n 0, 1) := by decide +kernel
theorem dX0_freeSlot_8 : decode cX0_freeSlot 8 = .ok (.getfield 9, 3) := by decide +kernel
theorem dX0_freeSlot_11 : decode cX0_freeSlot 11 = .ok (.iconst 2, 1) := by decide +kernel
theorem dX0_freeSlot_12 : decode cX0_freeSlot 12 = .ok (.iload_n 1, 1) := by decide +kernel
theorem dX0_freeSlot_13 : decode cX0_freeSlot 13 = .ok (.imul, 1) := by decide +kernel
theorem dX0_freeSlot_14 : decode cX0_freeSlot 14 = .ok (.iconst 0, 1) := by decide +kernel
theorem dX0_freeSlot_15 : decode cX0_freeSlot 15 = .ok (.iastore, 1) := by decide +kernel
theorem dX0_freeSlot_16 : decode cX0_freeSlot 16 = .ok (.aload_n 0, 1) := by decide +kernel
theorem dX0_freeSlot_17 : decode cX0_freeSlot 17 = .ok (.getfield 9, 3) := by decide +kernel
theorem dX0_freeSlot_20 : decode cX0_freeSlot 20 = .ok (.iconst 2, 1) := by decide +kernel
theorem dX0_freeSlot_21 : decode cX0_freeSlot 21 = .ok (.iload_n 1, 1) := by decide +kernel
theorem dX0_freeSlot_22 : decode cX0_freeSlot 22 = .ok (.imul, 1) := by decide +kernel
theorem dX0_freeSlot_23 : decode cX0_freeSlot 23 = .ok (.iconst 1, 1) := by decide +kernel
theorem dX0_freeSlot_24 : decode cX0_freeSlot 24 = .ok (.iadd, 1) := by decide +kernel
theorem dX0_freeSlot_25 : decode cX0_freeSlot 25 = .ok (.iconst 0, 1) := by decide +kernel
theorem dX0_freeSlot_26 : decode cX0_freeSlot 26 = .ok (.iastore, 1) := by decide +kernel
theorem dX0_freeSlot_27 : decode cX0_freeSlot 27 = .ok (.return_, 1) := by decide +kernel
theorem dX0_freeFrom_0 : decode cX0_freeFrom 0 = .ok (.aload_n 0, 1) := by decide +kernel
theorem dX0_freeFrom_1 : decode cX0_freeFrom 1 = .ok (.getfield 9, 3) := by decide +kernel
theorem dX0_freeFrom_4 : decode cX0_freeFrom 4 = .ok (.iconst 2, 1) := by decide +kernel
theorem dX0_freeFrom_5 : decode cX0_freeFrom 5 = .ok (.iload_n 1, 1) := by decide +kernel
theorem dX0_freeFrom_6 : decode cX0_freeFrom 6 = .ok (.imul, 1) := by decide +kernel
theorem dX0_freeFrom_7 : decode cX0_freeFrom 7 = .ok (.iload_n 2, 1) := by decide +kernel
theorem dX0_freeFrom_8 : decode cX0_freeFrom 8 = .ok (.iadd, 1) := by decide +kernel
theorem dX0_freeFrom_9 : decode cX0_freeFrom 9 = .ok (.invokestatic 38, 3) := by decide +kernel
theorem dX0_freeFrom_12 : decode cX0_freeFrom 12 = .ok (.ireturn, 1) := by decide +kernel
theorem dX0_pass_0 : decode cX0_pass 0 = .ok (.aload_n 0, 1) := by decide +kernel
theorem dX0_pass_1 : decode cX0_pass 1 = .ok (.dup, 1) := by decide +kernel
theorem dX0_pass_2 : decode cX0_pass 2 = .ok (.getfield 21, 3) := by decide +kernel
theorem dX0_pass_5 : decode cX0_pass 5 = .ok (.iload_n 1, 1) := by decide +kernel
theorem dX0_pass_6 : decode cX0_pass 6 = .ok (.iadd, 1) := by decide +kernel
theorem dX0_pass_7 : decode cX0_pass 7 = .ok (.putfield 21, 3) := by decide +kernel
theorem dX0_pass_10 : decode cX0_pass 10 = .ok (.return_, 1) := by decide +kernel
theorem dX0_readSingle_0 : decode cX0_readSingle 0 = .ok (.aload_n 0, 1) := by decide +kernel
theorem dX0_readSingle_1 : decode cX0_readSingle 1 = .ok (.iload_n 1, 1) := by decide +kernel
theorem dX0_readSingle_2 : decode cX0_readSingle 2 = .ok (.invokevirtual 42, 3) := by decide +kernel
theorem dX0_readSingle_5 : decode cX0_readSingle 5 = .ok (.aload_n 0, 1) := by decide +kernel
theorem dX0_readSingle_6 : decode cX0_readSingle 6 = .ok (.iload_n 1, 1) := by decide +kernel
theorem dX0_readSingle_7 : decode cX0_readSingle 7 = .ok (.iload_n 2, 1) := by decide +kernel
theorem dX0_readSingle_8 : decode cX0_readSingle 8 = .ok (.invokevirtual 46, 3) := by decide +kernel
theorem dX0_readSingle_11 : decode cX0_readSingle 11 = .ok (.aload_n 0, 1) := by decide +kernel
theorem dX0_readSingle_12 : decode cX0_readSingle 12 = .ok (.iconst 1, 1) := by decide +kernel
theorem dX0_readSingle_13 : decode cX0_readSingle 13 = .ok (.invokevirtual 50, 3) := by decide +kernel
theorem dX0_readSingle_16 : decode cX0_readSingle 16 = .ok (.return_, 1) := by decide +kernel
theorem dX0_readPair_0 : decode cX0_readPair 0 = .ok (.aload_n 0, 1) := by decide +kernel
theorem dX0_readPair_1 : decode cX0_readPair 1 = .ok (.iload_n 1, 1) := by decide +kernel
theorem dX0_readPair_2 : decode cX0_readPair 2 = .ok (.invokevirtual 42, 3) := by decide +kernel
theorem dX0_readPair_5 : decode cX0_readPair 5 = .ok (.aload_n 0, 1) := by decide +kernel
theorem dX0_readPair_6 : decode cX0_readPair 6 = .ok (.iload_n 3, 1) := by decide +kernel
theorem dX0_readPair_7 : decode cX0_readPair 7 = .ok (.invokevirtual 42, 3) := by decide +kernel
theorem dX0_readPair_10 : decode cX0_readPair 10 = .ok (.aload_n 0, 1) := by decide +kernel
theorem dX0_readPair_11 : decode cX0_readPair 11 = .ok (.iload_n 1, 1) := by decide +kernel
theorem dX0_readPair_12 : decode cX0_readPair 12 = .ok (.iload_n 2, 1) := by decide +kernel
theorem dX0_readPair_13 : decode cX0_readPair 13 = .ok (.invokevirtual 46, 3) := by decide +kernel
theorem dX0_readPair_16 : decode cX0_readPair 16 = .ok (.aload_n 0, 1) := by decide +kernel
theorem dX0_readPair_17 : decode cX0_readPair 17 = .ok (.iload_n 3, 1) := by decide +kernel
theorem dX0_readPair_18 : decode cX0_readPair 18 = .ok (.iload 4, 2) := by decide +kernel
theorem dX0_readPair_20 : decode cX0_readPair 20 = .ok (.invokevirtual 46, 3) := by decide +kernel
theorem dX0_readPair_23 : decode cX0_readPair 23 = .ok (.aload_n 0, 1) := by decide +kernel
theorem dX0_readPair_24 : decode cX0_readPair 24 = .ok (.iconst 1, 1) := by decide +kernel
theorem dX0_readPair_25 : decode cX0_readPair 25 = .ok (.invokevirtual 50, 3) := by decide +kernel
theorem dX0_readPair_28 : decode cX0_readPair 28 = .ok (.return_, 1) := by decide +kernel
theorem dX0_waitFor_0 : decode cX0_waitFor 0 = .ok (.aload_n 0, 1) := by decide +kernel
theorem dX0_waitFor_1 : decode cX0_waitFor 1 = .ok (.getfield 9, 3) := by decide +kernel
theorem dX0_waitFor_4 : decode cX0_waitFor 4 = .ok (.iload_n 1, 1) := by decide +kernel
theorem dX0_waitFor_5 : decode cX0_waitFor 5 = .ok (.invokestatic 38, 3) := by decide +kernel
theorem dX0_waitFor_8 : decode cX0_waitFor 8 = .ok (.istore_n 2, 1) := by decide +kernel
theorem dX0_waitFor_9 : decode cX0_waitFor 9 = .ok (.iload_n 2, 1) := by decide +kernel
theorem dX0_waitFor_10 : decode cX0_waitFor 10 = .ok (.aload_n 0, 1) := by decide +kernel
theorem dX0_waitFor_11 : decode cX0_waitFor 11 = .ok (.getfield 21, 3) := by decide +kernel
theorem dX0_waitFor_14 : decode cX0_waitFor 14 = .ok (.if_icmp .le 23, 3) := by decide +kernel
theorem dX0_waitFor_17 : decode cX0_waitFor 17 = .ok (.aload_n 0, 1) := by decide +kernel
theorem dX0_waitFor_18 : decode cX0_waitFor 18 = .ok (.dup, 1) := by decide +kernel
theorem dX0_waitFor_19 : decode cX0_waitFor 19 = .ok (.getfield 25, 3) := by decide +kernel
theorem dX0_waitFor_22 : decode cX0_waitFor 22 = .ok (.iload_n 2, 1) := by decide +kernel
theorem dX0_waitFor_23 : decode cX0_waitFor 23 = .ok (.aload_n 0, 1) := by decide +kernel
theorem dX0_waitFor_24 : decode cX0_waitFor 24 = .ok (.getfield 21, 3) := by decide +kernel
theorem dX0_waitFor_27 : decode cX0_waitFor 27 = .ok (.isub, 1) := by decide +kernel
theorem dX0_waitFor_28 : decode cX0_waitFor 28 = .ok (.iadd, 1) := by decide +kernel
theorem dX0_waitFor_29 : decode cX0_waitFor 29 = .ok (.putfield 25, 3) := by decide +kernel
theorem dX0_waitFor_32 : decode cX0_waitFor 32 = .ok (.aload_n 0, 1) := by decide +kernel
theorem dX0_waitFor_33 : decode cX0_waitFor 33 = .ok (.iload_n 2, 1) := by decide +kernel
theorem dX0_waitFor_34 : decode cX0_waitFor 34 = .ok (.putfield 21, 3) := by decide +kernel
theorem dX0_waitFor_37 : decode cX0_waitFor 37 = .ok (.return_, 1) := by decide +kernel
theorem dX0_occupy_0 : decode cX0_occupy 0 = .ok (.iload_n 1, 1) := by decide +kernel
theorem dX0_occupy_1 : decode cX0_occupy 1 = .ok (.ifCond .lt 24, 3) := by decide +kernel
theorem dX0_occupy_4 : decode cX0_occupy 4 = .ok (.iload_n 1, 1) := by decide +kernel
theorem dX0_occupy_5 : decode cX0_occupy 5 = .ok (.aload_n 0, 1) := by decide +kernel
theorem dX0_occupy_6 : decode cX0_occupy 6 = .ok (.getfield 9, 3) := by decide +kernel
theorem dX0_occupy_9 : decode cX0_occupy 9 = .ok (.arraylength, 1) := by decide +kernel
theorem dX0_occupy_10 : decode cX0_occupy 10 = .ok (.if_icmp .ge 15, 3) := by decide +kernel
theorem dX0_occupy_13 : decode cX0_occupy 13 = .ok (.aload_n 0, 1) := by decide +kernel
theorem dX0_occupy_14 : decode cX0_occupy 14 = .ok (.getfield 9, 3) := by decide +kernel
theorem dX0_occupy_17 : decode cX0_occupy 17 = .ok (.iload_n 1, 1) := by decide +kernel
theorem dX0_occupy_18 : decode cX0_occupy 18 = .ok (.aload_n 0, 1) := by decide +kernel
theorem dX0_occupy_19 : decode cX0_occupy 19 = .ok (.getfield 21, 3) := by decide +kernel
theorem dX0_occupy_22 : decode cX0_occupy 22 = .ok (.iload_n 2, 1) := by decide +kernel
theorem dX0_occupy_23 : decode cX0_occupy 23 = .ok (.iadd, 1) := by decide +kernel
theorem dX0_occupy_24 : decode cX0_occupy 24 = .ok (.iastore, 1) := by decide +kernel
theorem dX0_occupy_25 : decode cX0_occupy 25 = .ok (.return_, 1) := by decide +kernel
theorem dX1_init_0 : decode cX1_init 0 = .ok (.aload_n 0, 1) := by decide +kernel
theorem dX1_init_1 : decode cX1_init 1 = .ok (.invokespecial 3, 3) := by decide +kernel
theorem dX1_init_4 : decode cX1_init 4 = .ok (.aload_n 0, 1) := by decide +kernel
theorem dX1_init_5 : decode cX1_init 5 = .ok (.iconst (-1), 1) := by decide +kernel
theorem dX1_init_6 : decode cX1_init 6 = .ok (.putfield 9, 3) := by decide +kernel
theorem dX1_init_9 : decode cX1_init 9 = .ok (.aload_n 0, 1) := by decide +kernel
theorem dX1_init_10 : decode cX1_init 10 = .ok (.iconst 4, 1) := by decide +kernel
theorem dX1_init_11 : decode cX1_init 11 = .ok (.newarray .int, 2) := by decide +kernel
theorem dX1_init_13 : decode cX1_init 13 = .ok (.putfield 15, 3) := by decide +kernel
theorem dX1_init_16 : decode cX1_init 16 = .ok (.return_, 1) := by decide +kernel
theorem dX1_copyFrom_0 : decode cX1_copyFrom 0 = .ok (.aload_n 0, 1) := by decide +kernel
theorem dX1_copyFrom_1 : decode cX1_copyFrom 1 = .ok (.aload_n 1, 1) := by decide +kernel
theorem dX1_copyFrom_2 : decode cX1_copyFrom 2 = .ok (.getfield 9, 3) := by decide +kernel
theorem dX1_copyFrom_5 : decode cX1_copyFrom 5 = .ok (.putfield 9, 3) := by decide +kernel
theorem dX1_copyFrom_8 : decode cX1_copyFrom 8 = .ok (.aload_n 1, 1) := by decide +kernel
theorem dX1_copyFrom_9 : decode cX1_copyFrom 9 = .ok (.getfield 15, 3) := by decide +kernel
theorem dX1_copyFrom_12 : decode cX1_copyFrom 12 = .ok (.iconst 0, 1) := by decide +kernel
theorem dX1_copyFrom_13 : decode cX1_copyFrom 13 = .ok (.aload_n 0, 1) := by decide +kernel
theorem dX1_copyFrom_14 : decode cX1_copyFrom 14 = .ok (.getfield 15, 3) := by decide +kernel
theorem dX1_copyFrom_17 : decode cX1_copyFrom 17 = .ok (.iconst 0, 1) := by decide +kernel
theorem dX1_copyFrom_18 : decode cX1_copyFrom 18 = .ok (.iconst 4, 1) := by decide +kernel
theorem dX1_copyFrom_19 : decode cX1_copyFrom 19 = .ok (.invokestatic 19, 3) := by decide +kernel
theorem dX1_copyFrom_22 : decode cX1_copyFrom 22 = .ok (.aload_n 0, 1) := by decide +kernel
theorem dX1_copyFrom_23 : decode cX1_copyFrom 23 = .ok (.aload_n 1, 1) := by decide +kernel
theorem dX1_copyFrom_24 : decode cX1_copyFrom 24 = .ok (.getfield 25, 3) := by decide +kernel
theorem dX1_copyFrom_27 : decode cX1_copyFrom 27 = .ok (.putfield 25, 3) := by decide +kernel
theorem dX1_copyFrom_30 : decode cX1_copyFrom 30 = .ok (.aload_n 0, 1) := by decide +kernel
theorem dX1_copyFrom_31 : decode cX1_copyFrom 31 = .ok (.aload_n 1, 1) := by decide +kernel
theorem dX1_copyFrom_32 : decode cX1_copyFrom 32 = .ok (.getfield 28, 3) := by decide +kernel
theorem dX1_copyFrom_35 : decode cX1_copyFrom 35 = .ok (.putfield 28, 3) := by decide +kernel
theorem dX1_copyFrom_38 : decode cX1_copyFrom 38 = .ok (.aload_n 0, 1) := by decide +kernel
theorem dX1_copyFrom_39 : decode cX1_copyFrom 39 = .ok (.aload_n 1, 1) := by decide +kernel
theorem dX1_copyFrom_40 : decode cX1_copyFrom 40 = .ok (.getfield 31, 3) := by decide +kernel
theorem dX1_copyFrom_43 : decode cX1_copyFrom 43 = .ok (.putfield 31, 3) := by decide +kernel
theorem dX1_copyFrom_46 : decode cX1_copyFrom 46 = .ok (.aload_n 0, 1) := by decide +kernel
theorem dX1_copyFrom_47 : decode cX1_copyFrom 47 = .ok (.aload_n 1, 1) := by decide +kernel
theorem dX1_copyFrom_48 : decode cX1_copyFrom 48 = .ok (.getfield 34, 3) := by decide +kernel
theorem dX1_copyFrom_51 : decode cX1_copyFrom 51 = .ok (.putfield 34, 3) := by decide +kernel
theorem dX1_copyFrom_54 : decode cX1_copyFrom 54 = .ok (.aload_n 0, 1) := by decide +kernel
theorem dX1_copyFrom_55 : decode cX1_copyFrom 55 = .ok (.aload_n 1, 1) := by decide +kernel
theorem dX1_copyFrom_56 : decode cX1_copyFrom 56 = .ok (.getfield 37, 3) := by decide +kernel
theorem dX1_copyFrom_59 : decode cX1_copyFrom 59 = .ok (.putfield 37, 3) := by decide +kernel
theorem dX1_copyFrom_62 : decode cX1_copyFrom 62 = .ok (.return_, 1) := by decide +kernel
theorem dX1_isLaid_0 : decode cX1_isLaid 0 = .ok (.aload_n 0, 1) := by decide +kernel
theorem dX1_isLaid_1 : decode cX1_isLaid 1 = .ok (.getfield 9, 3) := by decide +kernel
theorem dX1_isLaid_4 : decode cX1_isLaid 4 = .ok (.iconst (-1), 1) := by decide +kernel
theorem dX1_isLaid_5 : decode cX1_isLaid 5 = .ok (.if_icmp .eq 7, 3) := by decide +kernel
theorem dX1_isLaid_8 : decode cX1_isLaid 8 = .ok (.iconst 1, 1) := by decide +kernel
theorem dX1_isLaid_9 : decode cX1_isLaid 9 = .ok (.goto 4, 3) := by decide +kernel
theorem dX1_isLaid_12 : decode cX1_isLaid 12 = .ok (.iconst 0, 1) := by decide +kernel
theorem dX1_isLaid_13 : decode cX1_isLaid 13 = .ok (.ireturn, 1) := by decide +kernel
theorem dX1_lay_0 : decode cX1_lay 0 = .ok (.aload_n 0, 1) := by decide +kernel
theorem dX1_lay_1 : decode cX1_lay 1 = .ok (.iload_n 1, 1) := by decide +kernel
theorem dX1_lay_2 : decode cX1_lay 2 = .ok (.putfield 9, 3) := by decide +kernel
theorem dX1_lay_5 : decode cX1_lay 5 = .ok (.iconst 0, 1) := by decide +kernel
theorem dX1_lay_6 : decode cX1_lay 6 = .ok (.istore_n 3, 1) := by decide +kernel
theorem dX1_lay_7 : decode cX1_lay 7 = .ok (.iload_n 3, 1) := by decide +kernel
theorem dX1_lay_8 : decode cX1_lay 8 = .ok (.iconst 4, 1) := by decide +kernel
theorem dX1_lay_9 : decode cX1_lay 9 = .ok (.if_icmp .ge 20, 3) := by decide +kernel
theorem dX1_lay_12 : decode cX1_lay 12 = .ok (.aload_n 0, 1) := by decide +kernel
theorem dX1_lay_13 : decode cX1_lay 13 = .ok (.getfield 15, 3) := by decide +kernel
theorem dX1_lay_16 : decode cX1_lay 16 = .ok (.iload_n 3, 1) := by decide +kernel
theorem dX1_lay_17 : decode cX1_lay 17 = .ok (.aload_n 2, 1) := by decide +kernel
theorem dX1_lay_18 : decode cX1_lay 18 = .ok (.iload_n 3, 1) := by decide +kernel
theorem dX1_lay_19 : decode cX1_lay 19 = .ok (.invokevirtual 40, 3) := by decide +kernel
theorem dX1_lay_22 : decode cX1_lay 22 = .ok (.iastore, 1) := by decide +kernel
theorem dX1_lay_23 : decode cX1_lay 23 = .ok (.iinc 3 1, 3) := by decide +kernel
theorem dX1_lay_26 : decode cX1_lay 26 = .ok (.goto (-19), 3) := by decide +kernel
theorem dX1_lay_29 : decode cX1_lay 29 = .ok (.aload_n 0, 1) := by decide +kernel
theorem dX1_lay_30 : decode cX1_lay 30 = .ok (.aload_n 0, 1) := by decide +kernel
theorem dX1_lay_31 : decode cX1_lay 31 = .ok (.getfield 15, 3) := by decide +kernel
theorem dX1_lay_34 : decode cX1_lay 34 = .ok (.iconst 0, 1) := by decide +kernel
theorem dX1_lay_35 : decode cX1_lay 35 = .ok (.iaload, 1) := by decide +kernel
theorem dX1_lay_36 : decode cX1_lay 36 = .ok (.aload_n 0, 1) := by decide +kernel
theorem dX1_lay_37 : decode cX1_lay 37 = .ok (.getfield 15, 3) := by decide +kernel
theorem dX1_lay_40 : decode cX1_lay 40 = .ok (.iconst 1, 1) := by decide +kernel
theorem dX1_lay_41 : decode cX1_lay 41 = .ok (.iaload, 1) := by decide +kernel
theorem dX1_lay_42 : decode cX1_lay 42 = .ok (.iadd, 1) := by decide +kernel
theorem dX1_lay_43 : decode cX1_lay 43 = .ok (.putfield 25, 3) := by decide +kernel
theorem dX1_lay_46 : decode cX1_lay 46 = .ok (.aload_n 0, 1) := by decide +kernel
theorem dX1_lay_47 : decode cX1_lay 47 = .ok (.aload_n 0, 1) := by decide +kernel
theorem dX1_lay_48 : decode cX1_lay 48 = .ok (.getfield 15, 3) := by decide +kernel
theorem dX1_lay_51 : decode cX1_lay 51 = .ok (.iconst 2, 1) := by decide +kernel
theorem dX1_lay_52 : decode cX1_lay 52 = .ok (.iaload, 1) := by decide +kernel
theorem dX1_lay_53 : decode cX1_lay 53 = .ok (.aload_n 0, 1) := by decide +kernel
theorem dX1_lay_54 : decode cX1_lay 54 = .ok (.getfield 15, 3) := by decide +kernel
theorem dX1_lay_57 : decode cX1_lay 57 = .ok (.iconst 3, 1) := by decide +kernel
theorem dX1_lay_58 : decode cX1_lay 58 = .ok (.iaload, 1) := by decide +kernel
theorem dX1_lay_59 : decode cX1_lay 59 = .ok (.iadd, 1) := by decide +kernel
theorem dX1_lay_60 : decode cX1_lay 60 = .ok (.putfield 28, 3) := by decide +kernel
theorem dX1_lay_63 : decode cX1_lay 63 = .ok (.aload_n 0, 1) := by decide +kernel
theorem dX1_lay_64 : decode cX1_lay 64 = .ok (.aload_n 0, 1) := by decide +kernel
theorem dX1_lay_65 : decode cX1_lay 65 = .ok (.getfield 25, 3) := by decide +kernel
theorem dX1_lay_68 : decode cX1_lay 68 = .ok (.aload_n 0, 1) := by decide +kernel
theorem dX1_lay_69 : decode cX1_lay 69 = .ok (.getfield 28, 3) := by decide +kernel
theorem dX1_lay_72 : decode cX1_lay 72 = .ok (.invokestatic 46, 3) := by decide +kernel
theorem dX1_lay_75 : decode cX1_lay 75 = .ok (.putfield 31, 3) := by decide +kernel
theorem dX1_lay_78 : decode cX1_lay 78 = .ok (.aload_n 0, 1) := by decide +kernel
theorem dX1_lay_79 : decode cX1_lay 79 = .ok (.aload_n 0, 1) := by decide +kernel
theorem dX1_lay_80 : decode cX1_lay 80 = .ok (.getfield 9, 3) := by decide +kernel
theorem dX1_lay_83 : decode cX1_lay 83 = .ok (.iconst 2, 1) := by decide +kernel
theorem dX1_lay_84 : decode cX1_lay 84 = .ok (.if_icmp .ne 10, 3) := by decide +kernel
theorem dX1_lay_87 : decode cX1_lay 87 = .ok (.aload_n 0, 1) := by decide +kernel
theorem dX1_lay_88 : decode cX1_lay 88 = .ok (.getfield 31, 3) := by decide +kernel
theorem dX1_lay_91 : decode cX1_lay 91 = .ok (.goto 12, 3) := by decide +kernel
theorem dX1_lay_94 : decode cX1_lay 94 = .ok (.aload_n 0, 1) := by decide +kernel
theorem dX1_lay_95 : decode cX1_lay 95 = .ok (.getfield 25, 3) := by decide +kernel
theorem dX1_lay_98 : decode cX1_lay 98 = .ok (.aload_n 0, 1) := by decide +kernel
theorem dX1_lay_99 : decode cX1_lay 99 = .ok (.getfield 28, 3) := by decide +kernel
theorem dX1_lay_102 : decode cX1_lay 102 = .ok (.iadd, 1) := by decide +kernel
theorem dX1_lay_103 : decode cX1_lay 103 = .ok (.putfield 34, 3) := by decide +kernel
theorem dX1_lay_106 : decode cX1_lay 106 = .ok (.aload_n 0, 1) := by decide +kernel
theorem dX1_lay_107 : decode cX1_lay 107 = .ok (.aload_n 0, 1) := by decide +kernel
theorem dX1_lay_108 : decode cX1_lay 108 = .ok (.getfield 9, 3) := by decide +kernel
theorem dX1_lay_111 : decode cX1_lay 111 = .ok (.ifCond .ne 12, 3) := by decide +kernel
theorem dX1_lay_114 : decode cX1_lay 114 = .ok (.iconst 2, 1) := by decide +kernel
theorem dX1_lay_115 : decode cX1_lay 115 = .ok (.aload_n 0, 1) := by decide +kernel
theorem dX1_lay_116 : decode cX1_lay 116 = .ok (.getfield 31, 3) := by decide +kernel
theorem dX1_lay_119 : decode cX1_lay 119 = .ok (.imul, 1) := by decide +kernel
theorem dX1_lay_120 : decode cX1_lay 120 = .ok (.goto 4, 3) := by decide +kernel
theorem dX1_lay_123 : decode cX1_lay 123 = .ok (.iconst 0, 1) := by decide +kernel
theorem dX1_lay_124 : decode cX1_lay 124 = .ok (.putfield 37, 3) := by decide +kernel
theorem dX1_lay_127 : decode cX1_lay 127 = .ok (.return_, 1) := by decide +kernel
theorem dX1_clear_0 : decode cX1_clear 0 = .ok (.aload_n 0, 1) := by decide +kernel
theorem dX1_clear_1 : decode cX1_clear 1 = .ok (.iconst (-1), 1) := by decide +kernel
theorem dX1_clear_2 : decode cX1_clear 2 = .ok (.putfield 9, 3) := by decide +kernel
theorem dX1_clear_5 : decode cX1_clear 5 = .ok (.aload_n 0, 1) := by decide +kernel
theorem dX1_clear_6 : decode cX1_clear 6 = .ok (.getfield 15, 3) := by decide +kernel
theorem dX1_clear_9 : decode cX1_clear 9 = .ok (.iconst 0, 1) := by decide +kernel
theorem dX1_clear_10 : decode cX1_clear 10 = .ok (.invokestatic 52, 3) := by decide +kernel
theorem dX1_clear_13 : decode cX1_clear 13 = .ok (.aload_n 0, 1) := by decide +kernel
theorem dX1_clear_14 : decode cX1_clear 14 = .ok (.iconst 0, 1) := by decide +kernel
theorem dX1_clear_15 : decode cX1_clear 15 = .ok (.putfield 25, 3) := by decide +kernel
theorem dX1_clear_18 : decode cX1_clear 18 = .ok (.aload_n 0, 1) := by decide +kernel
theorem dX1_clear_19 : decode cX1_clear 19 = .ok (.iconst 0, 1) := by decide +kernel
theorem dX1_clear_20 : decode cX1_clear 20 = .ok (.putfield 28, 3) := by decide +kernel
theorem dX1_clear_23 : decode cX1_clear 23 = .ok (.aload_n 0, 1) := by decide +kernel
theorem dX1_clear_24 : decode cX1_clear 24 = .ok (.iconst 0, 1) := by decide +kernel
theorem dX1_clear_25 : decode cX1_clear 25 = .ok (.putfield 31, 3) := by decide +kernel
theorem dX1_clear_28 : decode cX1_clear 28 = .ok (.aload_n 0, 1) := by decide +kernel
theorem dX1_clear_29 : decode cX1_clear 29 = .ok (.iconst 0, 1) := by decide +kernel
theorem dX1_clear_30 : decode cX1_clear 30 = .ok (.putfield 34, 3) := by decide +kernel
theorem dX1_clear_33 : decode cX1_clear 33 = .ok (.aload_n 0, 1) := by decide +kernel
theorem dX1_clear_34 : decode cX1_clear 34 = .ok (.iconst 0, 1) := by decide +kernel
theorem dX1_clear_35 : decode cX1_clear 35 = .ok (.putfield 37, 3) := by decide +kernel
theorem dX1_clear_38 : decode cX1_clear 38 = .ok (.return_, 1) := by decide +kernel
theorem dX1_isWide_0 : decode cX1_isWide 0 = .ok (.iload_n 1, 1) := by decide +kernel
theorem dX1_isWide_1 : decode cX1_isWide 1 = .ok (.aload_n 0, 1) := by decide +kernel
theorem dX1_isWide_2 : decode cX1_isWide 2 = .ok (.getfield 37, 3) := by decide +kernel
theorem dX1_isWide_5 : decode cX1_isWide 5 = .ok (.if_icmp .ge 7, 3) := by decide +kernel
theorem dX1_isWide_8 : decode cX1_isWide 8 = .ok (.iconst 1, 1) := by decide +kernel
theorem dX1_isWide_9 : decode cX1_isWide 9 = .ok (.goto 4, 3) := by decide +kernel
theorem dX1_isWide_12 : decode cX1_isWide 12 = .ok (.iconst 0, 1) := by decide +kernel
theorem dX1_isWide_13 : decode cX1_isWide 13 = .ok (.ireturn, 1) := by decide +kernel
theorem dX1_isMirrored_0 : decode cX1_isMirrored 0 = .ok (.aload_n 0, 1) := by decide +kernel
theorem dX1_isMirrored_1 : decode cX1_isMirrored 1 = .ok (.getfield 9, 3) := by decide +kernel
theorem dX1_isMirrored_4 : decode cX1_isMirrored 4 = .ok (.iconst 2, 1) := by decide +kernel
theorem dX1_isMirrored_5 : decode cX1_isMirrored 5 = .ok (.if_icmp .ne 7, 3) := by decide +kernel
theorem dX1_isMirrored_8 : decode cX1_isMirrored 8 = .ok (.iconst 1, 1) := by decide +kernel
theorem dX1_isMirrored_9 : decode cX1_isMirrored 9 = .ok (.goto 4, 3) := by decide +kernel
theorem dX1_isMirrored_12 : decode cX1_isMirrored 12 = .ok (.iconst 0, 1) := by decide +kernel
theorem dX1_isMirrored_13 : decode cX1_isMirrored 13 = .ok (.ireturn, 1) := by decide +kernel
theorem dX1_beginsPair_0 : decode cX1_beginsPair 0 = .ok (.aload_n 0, 1) := by decide +kernel
theorem dX1_beginsPair_1 : decode cX1_beginsPair 1 = .ok (.iload_n 1, 1) := by decide +kernel
theorem dX1_beginsPair_2 : decode cX1_beginsPair 2 = .ok (.invokevirtual 58, 3) := by decide +kernel
theorem dX1_beginsPair_5 : decode cX1_beginsPair 5 = .ok (.ifCond .eq 13, 3) := by decide +kernel
theorem dX1_beginsPair_8 : decode cX1_beginsPair 8 = .ok (.iload_n 1, 1) := by decide +kernel
theorem dX1_beginsPair_9 : decode cX1_beginsPair 9 = .ok (.iconst 1, 1) := by decide +kernel
theorem dX1_beginsPair_10 : decode cX1_beginsPair 10 = .ok (.iand, 1) := by decide +kernel
theorem dX1_beginsPair_11 : decode cX1_beginsPair 11 = .ok (.ifCond .ne 7, 3) := by decide +kernel
theorem dX1_beginsPair_14 : decode cX1_beginsPair 14 = .ok (.iconst 1, 1) := by decide +kernel
theorem dX1_beginsPair_15 : decode cX1_beginsPair 15 = .ok (.goto 4, 3) := by decide +kernel
theorem dX1_beginsPair_18 : decode cX1_beginsPair 18 = .ok (.iconst 0, 1) := by decide +kernel
theorem dX1_beginsPair_19 : decode cX1_beginsPair 19 = .ok (.ireturn, 1) := by decide +kernel
theorem dX1_channelOf_0 : decode cX1_channelOf 0 = .ok (.aload_n 0, 1) := by decide +kernel
theorem dX1_channelOf_1 : decode cX1_channelOf 1 = .ok (.getfield 9, 3) := by decide +kernel
theorem dX1_channelOf_4 : decode cX1_channelOf 4 = .ok (.iconst 2, 1) := by decide +kernel
theorem dX1_channelOf_5 : decode cX1_channelOf 5 = .ok (.if_icmp .ne 5, 3) := by decide +kernel
theorem dX1_channelOf_8 : decode cX1_channelOf 8 = .ok (.iconst 0, 1) := by decide +kernel
theorem dX1_channelOf_9 : decode cX1_channelOf 9 = .ok (.ireturn, 1) := by decide +kernel
theorem dX1_channelOf_10 : decode cX1_channelOf 10 = .ok (.iload_n 1, 1) := by decide +kernel
theorem dX1_channelOf_11 : decode cX1_channelOf 11 = .ok (.aload_n 0, 1) := by decide +kernel
theorem dX1_channelOf_12 : decode cX1_channelOf 12 = .ok (.getfield 37, 3) := by decide +kernel
theorem dX1_channelOf_15 : decode cX1_channelOf 15 = .ok (.if_icmp .ge 7, 3) := by decide +kernel
theorem dX1_channelOf_18 : decode cX1_channelOf 18 = .ok (.iload_n 1, 1) := by decide +kernel
theorem dX1_channelOf_19 : decode cX1_channelOf 19 = .ok (.iconst 1, 1) := by decide +kernel
theorem dX1_channelOf_20 : decode cX1_channelOf 20 = .ok (.iand, 1) := by decide +kernel
theorem dX1_channelOf_21 : decode cX1_channelOf 21 = .ok (.ireturn, 1) := by decide +kernel
theorem dX1_channelOf_22 : decode cX1_channelOf 22 = .ok (.aload_n 0, 1) := by decide +kernel
theorem dX1_channelOf_23 : decode cX1_channelOf 23 = .ok (.getfield 9, 3) := by decide +kernel
theorem dX1_channelOf_26 : decode cX1_channelOf 26 = .ok (.ifCond .ne 20, 3) := by decide +kernel
theorem dX1_channelOf_29 : decode cX1_channelOf 29 = .ok (.aload_n 0, 1) := by decide +kernel
theorem dX1_channelOf_30 : decode cX1_channelOf 30 = .ok (.getfield 25, 3) := by decide +kernel
theorem dX1_channelOf_33 : decode cX1_channelOf 33 = .ok (.aload_n 0, 1) := by decide +kernel
theorem dX1_channelOf_34 : decode cX1_channelOf 34 = .ok (.getfield 28, 3) := by decide +kernel
theorem dX1_channelOf_37 : decode cX1_channelOf 37 = .ok (.if_icmp .le 7, 3) := by decide +kernel
theorem dX1_channelOf_40 : decode cX1_channelOf 40 = .ok (.iconst 0, 1) := by decide +kernel
theorem dX1_channelOf_41 : decode cX1_channelOf 41 = .ok (.goto 4, 3) := by decide +kernel
theorem dX1_channelOf_44 : decode cX1_channelOf 44 = .ok (.iconst 1, 1) := by decide +kernel
theorem dX1_channelOf_45 : decode cX1_channelOf 45 = .ok (.ireturn, 1) := by decide +kernel
theorem dX1_channelOf_46 : decode cX1_channelOf 46 = .ok (.iload_n 1, 1) := by decide +kernel
theorem dX1_channelOf_47 : decode cX1_channelOf 47 = .ok (.aload_n 0, 1) := by decide +kernel
theorem dX1_channelOf_48 : decode cX1_channelOf 48 = .ok (.getfield 25, 3) := by decide +kernel
theorem dX1_channelOf_51 : decode cX1_channelOf 51 = .ok (.if_icmp .ge 7, 3) := by decide +kernel
theorem dX1_channelOf_54 : decode cX1_channelOf 54 = .ok (.iconst 0, 1) := by decide +kernel
theorem dX1_channelOf_55 : decode cX1_channelOf 55 = .ok (.goto 4, 3) := by decide +kernel
theorem dX1_channelOf_58 : decode cX1_channelOf 58 = .ok (.iconst 1, 1) := by decide +kernel
theorem dX1_channelOf_59 : decode cX1_channelOf 59 = .ok (.ireturn, 1) := by decide +kernel
theorem dX1_indexOf_0 : decode cX1_indexOf 0 = .ok (.iload_n 1, 1) := by decide +kernel
theorem dX1_indexOf_1 : decode cX1_indexOf 1 = .ok (.aload_n 0, 1) := by decide +kernel
theorem dX1_indexOf_2 : decode cX1_indexOf 2 = .ok (.getfield 37, 3) := by decide +kernel
theorem dX1_indexOf_5 : decode cX1_indexOf 5 = .ok (.if_icmp .ge 7, 3) := by decide +kernel
theorem dX1_indexOf_8 : decode cX1_indexOf 8 = .ok (.iload_n 1, 1) := by decide +kernel
theorem dX1_indexOf_9 : decode cX1_indexOf 9 = .ok (.iconst 2, 1) := by decide +kernel
theorem dX1_indexOf_10 : decode cX1_indexOf 10 = .ok (.idiv, 1) := by decide +kernel
theorem dX1_indexOf_11 : decode cX1_indexOf 11 = .ok (.ireturn, 1) := by decide +kernel
theorem dX1_indexOf_12 : decode cX1_indexOf 12 = .ok (.aload_n 0, 1) := by decide +kernel
theorem dX1_indexOf_13 : decode cX1_indexOf 13 = .ok (.getfield 9, 3) := by decide +kernel
theorem dX1_indexOf_16 : decode cX1_indexOf 16 = .ok (.ifCond .ne 10, 3) := by decide +kernel
theorem dX1_indexOf_19 : decode cX1_indexOf 19 = .ok (.iload_n 1, 1) := by decide +kernel
theorem dX1_indexOf_20 : decode cX1_indexOf 20 = .ok (.aload_n 0, 1) := by decide +kernel
theorem dX1_indexOf_21 : decode cX1_indexOf 21 = .ok (.getfield 31, 3) := by decide +kernel
theorem dX1_indexOf_24 : decode cX1_indexOf 24 = .ok (.isub, 1) := by decide +kernel
theorem dX1_indexOf_25 : decode cX1_indexOf 25 = .ok (.ireturn, 1) := by decide +kernel
theorem dX1_indexOf_26 : decode cX1_indexOf 26 = .ok (.aload_n 0, 1) := by decide +kernel
theorem dX1_indexOf_27 : decode cX1_indexOf 27 = .ok (.getfield 9, 3) := by decide +kernel
theorem dX1_indexOf_30 : decode cX1_indexOf 30 = .ok (.iconst 2, 1) := by decide +kernel
theorem dX1_indexOf_31 : decode cX1_indexOf 31 = .ok (.if_icmp .eq 11, 3) := by decide +kernel
theorem dX1_indexOf_34 : decode cX1_indexOf 34 = .ok (.iload_n 1, 1) := by decide +kernel
theorem dX1_indexOf_35 : decode cX1_indexOf 35 = .ok (.aload_n 0, 1) := by decide +kernel
theorem dX1_indexOf_36 : decode cX1_indexOf 36 = .ok (.getfield 25, 3) := by decide +kernel
theorem dX1_indexOf_39 : decode cX1_indexOf 39 = .ok (.if_icmp .ge 7, 3) := by decide +kernel
theorem dX1_indexOf_42 : decode cX1_indexOf 42 = .ok (.iload_n 1, 1) := by decide +kernel
theorem dX1_indexOf_43 : decode cX1_indexOf 43 = .ok (.goto 9, 3) := by decide +kernel
theorem dX1_indexOf_46 : decode cX1_indexOf 46 = .ok (.iload_n 1, 1) := by decide +kernel
theorem dX1_indexOf_47 : decode cX1_indexOf 47 = .ok (.aload_n 0, 1) := by decide +kernel
theorem dX1_indexOf_48 : decode cX1_indexOf 48 = .ok (.getfield 25, 3) := by decide +kernel
theorem dX1_indexOf_51 : decode cX1_indexOf 51 = .ok (.isub, 1) := by decide +kernel
theorem dX1_indexOf_52 : decode cX1_indexOf 52 = .ok (.ireturn, 1) := by decide +kernel
theorem dX1_slotAt_0 : decode cX1_slotAt 0 = .ok (.iload_n 1, 1) := by decide +kernel
theorem dX1_slotAt_1 : decode cX1_slotAt 1 = .ok (.ifCond .ne 19, 3) := by decide +kernel
theorem dX1_slotAt_4 : decode cX1_slotAt 4 = .ok (.iload_n 2, 1) := by decide +kernel
theorem dX1_slotAt_5 : decode cX1_slotAt 5 = .ok (.aload_n 0, 1) := by decide +kernel
theorem dX1_slotAt_6 : decode cX1_slotAt 6 = .ok (.getfield 15, 3) := by decide +kernel
theorem dX1_slotAt_9 : decode cX1_slotAt 9 = .ok (.iconst 0, 1) := by decide +kernel
theorem dX1_slotAt_10 : decode cX1_slotAt 10 = .ok (.iaload, 1) := by decide +kernel
theorem dX1_slotAt_11 : decode cX1_slotAt 11 = .ok (.if_icmp .ge 7, 3) := by decide +kernel
theorem dX1_slotAt_14 : decode cX1_slotAt 14 = .ok (.iconst 0, 1) := by decide +kernel
theorem dX1_slotAt_15 : decode cX1_slotAt 15 = .ok (.goto 4, 3) := by decide +kernel
theorem dX1_slotAt_18 : decode cX1_slotAt 18 = .ok (.iconst 1, 1) := by decide +kernel
theorem dX1_slotAt_19 : decode cX1_slotAt 19 = .ok (.ireturn, 1) := by decide +kernel
theorem dX1_slotAt_20 : decode cX1_slotAt 20 = .ok (.iload_n 2, 1) := by decide +kernel
theorem dX1_slotAt_21 : decode cX1_slotAt 21 = .ok (.aload_n 0, 1) := by decide +kernel
theorem dX1_slotAt_22 : decode cX1_slotAt 22 = .ok (.getfield 15, 3) := by decide +kernel
theorem dX1_slotAt_25 : decode cX1_slotAt 25 = .ok (.iconst 2, 1) := by decide +kernel
theorem dX1_slotAt_26 : decode cX1_slotAt 26 = .ok (.iaload, 1) := by decide +kernel
theorem dX1_slotAt_27 : decode cX1_slotAt 27 = .ok (.if_icmp .ge 7, 3) := by decide +kernel
theorem dX1_slotAt_30 : decode cX1_slotAt 30 = .ok (.iconst 2, 1) := by decide +kernel
theorem dX1_slotAt_31 : decode cX1_slotAt 31 = .ok (.goto 4, 3) := by decide +kernel
theorem dX1_slotAt_34 : decode cX1_slotAt 34 = .ok (.iconst 3, 1) := by decide +kernel
theorem dX1_slotAt_35 : decode cX1_slotAt 35 = .ok (.ireturn, 1) := by decide +kernel
theorem dX1_numberAt_0 : decode cX1_numberAt 0 = .ok (.iload_n 1, 1) := by decide +kernel
theorem dX1_numberAt_1 : decode cX1_numberAt 1 = .ok (.ifCond .ne 12, 3) := by decide +kernel
theorem dX1_numberAt_4 : decode cX1_numberAt 4 = .ok (.aload_n 0, 1) := by decide +kernel
theorem dX1_numberAt_5 : decode cX1_numberAt 5 = .ok (.getfield 15, 3) := by decide +kernel
theorem dX1_numberAt_8 : decode cX1_numberAt 8 = .ok (.iconst 0, 1) := by decide +kernel
theorem dX1_numberAt_9 : decode cX1_numberAt 9 = .ok (.iaload, 1) := by decide +kernel
theorem dX1_numberAt_10 : decode cX1_numberAt 10 = .ok (.goto 9, 3) := by decide +kernel
theorem dX1_numberAt_13 : decode cX1_numberAt 13 = .ok (.aload_n 0, 1) := by decide +kernel
theorem dX1_numberAt_14 : decode cX1_numberAt 14 = .ok (.getfield 15, 3) := by decide +kernel
theorem dX1_numberAt_17 : decode cX1_numberAt 17 = .ok (.iconst 2, 1) := by decide +kernel
theorem dX1_numberAt_18 : decode cX1_numberAt 18 = .ok (.iaload, 1) := by decide +kernel
theorem dX1_numberAt_19 : decode cX1_numberAt 19 = .ok (.istore_n 3, 1) := by decide +kernel
theorem dX1_numberAt_20 : decode cX1_numberAt 20 = .ok (.iload_n 2, 1) := by decide +kernel
theorem dX1_numberAt_21 : decode cX1_numberAt 21 = .ok (.iload_n 3, 1) := by decide +kernel
theorem dX1_numberAt_22 : decode cX1_numberAt 22 = .ok (.if_icmp .ge 7, 3) := by decide +kernel
theorem dX1_numberAt_25 : decode cX1_numberAt 25 = .ok (.iload_n 2, 1) := by decide +kernel
theorem dX1_numberAt_26 : decode cX1_numberAt 26 = .ok (.goto 6, 3) := by decide +kernel
theorem dX1_numberAt_29 : decode cX1_numberAt 29 = .ok (.iload_n 2, 1) := by decide +kernel
theorem dX1_numberAt_30 : decode cX1_numberAt 30 = .ok (.iload_n 3, 1) := by decide +kernel
theorem dX1_numberAt_31 : decode cX1_numberAt 31 = .ok (.isub, 1) := by decide +kernel
theorem dX1_numberAt_32 : decode cX1_numberAt 32 = .ok (.ireturn, 1) := by decide +kernel
theorem dX1_slotOf_0 : decode cX1_slotOf 0 = .ok (.aload_n 0, 1) := by decide +kernel
theorem dX1_slotOf_1 : decode cX1_slotOf 1 = .ok (.aload_n 0, 1) := by decide +kernel
theorem dX1_slotOf_2 : decode cX1_slotOf 2 = .ok (.iload_n 1, 1) := by decide +kernel
theorem dX1_slotOf_3 : decode cX1_slotOf 3 = .ok (.invokevirtual 62, 3) := by decide +kernel
theorem dX1_slotOf_6 : decode cX1_slotOf 6 = .ok (.aload_n 0, 1) := by decide +kernel
theorem dX1_slotOf_7 : decode cX1_slotOf 7 = .ok (.iload_n 1, 1) := by decide +kernel
theorem dX1_slotOf_8 : decode cX1_slotOf 8 = .ok (.invokevirtual 65, 3) := by decide +kernel
theorem dX1_slotOf_11 : decode cX1_slotOf 11 = .ok (.invokevirtual 68, 3) := by decide +kernel
theorem dX1_slotOf_14 : decode cX1_slotOf 14 = .ok (.ireturn, 1) := by decide +kernel
theorem dX1_numberOf_0 : decode cX1_numberOf 0 = .ok (.aload_n 0, 1) := by decide +kernel
theorem dX1_numberOf_1 : decode cX1_numberOf 1 = .ok (.aload_n 0, 1) := by decide +kernel
theorem dX1_numberOf_2 : decode cX1_numberOf 2 = .ok (.iload_n 1, 1) := by decide +kernel
theorem dX1_numberOf_3 : decode cX1_numberOf 3 = .ok (.invokevirtual 62, 3) := by decide +kernel
theorem dX1_numberOf_6 : decode cX1_numberOf 6 = .ok (.aload_n 0, 1) := by decide +kernel
theorem dX1_numberOf_7 : decode cX1_numberOf 7 = .ok (.iload_n 1, 1) := by decide +kernel
theorem dX1_numberOf_8 : decode cX1_numberOf 8 = .ok (.invokevirtual 65, 3) := by decide +kernel
theorem dX1_numberOf_11 : decode cX1_numberOf 11 = .ok (.invokevirtual 71, 3) := by decide +kernel
theorem dX1_numberOf_14 : decode cX1_numberOf 14 = .ok (.ireturn, 1) := by decide +kernel
theorem dX1_slotAgainOf_0 : decode cX1_slotAgainOf 0 = .ok (.aload_n 0, 1) := by decide +kernel
theorem dX1_slotAgainOf_1 : decode cX1_slotAgainOf 1 = .ok (.invokevirtual 74, 3) := by decide +kernel
theorem dX1_slotAgainOf_4 : decode cX1_slotAgainOf 4 = .ok (.ifCond .eq 12, 3) := by decide +kernel
theorem dX1_slotAgainOf_7 : decode cX1_slotAgainOf 7 = .ok (.aload_n 0, 1) := by decide +kernel
theorem dX1_slotAgainOf_8 : decode cX1_slotAgainOf 8 = .ok (.iconst 1, 1) := by decide +kernel
theorem dX1_slotAgainOf_9 : decode cX1_slotAgainOf 9 = .ok (.iload_n 1, 1) := by decide +kernel
theorem dX1_slotAgainOf_10 : decode cX1_slotAgainOf 10 = .ok (.invokevirtual 68, 3) := by decide +kernel
theorem dX1_slotAgainOf_13 : decode cX1_slotAgainOf 13 = .ok (.goto 4, 3) := by decide +kernel
theorem dX1_slotAgainOf_16 : decode cX1_slotAgainOf 16 = .ok (.iconst (-1), 1) := by decide +kernel
theorem dX1_slotAgainOf_17 : decode cX1_slotAgainOf 17 = .ok (.ireturn, 1) := by decide +kernel
theorem dX1_numberAgainOf_0 : decode cX1_numberAgainOf 0 = .ok (.aload_n 0, 1) := by decide +kernel
theorem dX1_numberAgainOf_1 : decode cX1_numberAgainOf 1 = .ok (.invokevirtual 74, 3) := by decide +kernel
theorem dX1_numberAgainOf_4 : decode cX1_numberAgainOf 4 = .ok (.ifCond .eq 12, 3) := by decide +kernel
theorem dX1_numberAgainOf_7 : decode cX1_numberAgainOf 7 = .ok (.aload_n 0, 1) := by decide +kernel
theorem dX1_numberAgainOf_8 : decode cX1_numberAgainOf 8 = .ok (.iconst 1, 1) := by decide +kernel
theorem dX1_numberAgainOf_9 : decode cX1_numberAgainOf 9 = .ok (.iload_n 1, 1) := by decide +kernel
theorem dX1_numberAgainOf_10 : decode cX1_numberAgainOf 10 = .ok (.invokevirtual 71, 3) := by decide +kernel
theorem dX1_numberAgainOf_13 : decode cX1_numberAgainOf 13 = .ok (.goto 4, 3) := by decide +kernel
theorem dX1_numberAgainOf_16 : decode cX1_numberAgainOf 16 = .ok (.iconst (-1), 1) := by decide +kernel
theorem dX1_numberAgainOf_17 : decode cX1_numberAgainOf 17 = .ok (.ireturn, 1) := by decide +kernel
theorem dX1_blockAt_0 : decode cX1_blockAt 0 = .ok (.iload_n 2, 1) := by decide +kernel
theorem dX1_blockAt_1 : decode cX1_blockAt 1 = .ok (.ifCond .lt 15, 3) := by decide +kernel
theorem dX1_blockAt_4 : decode cX1_blockAt 4 = .ok (.iload_n 2, 1) := by decide +kernel
theorem dX1_blockAt_5 : decode cX1_blockAt 5 = .ok (.aload_n 0, 1) := by decide +kernel
theorem dX1_blockAt_6 : decode cX1_blockAt 6 = .ok (.getfield 15, 3) := by decide +kernel
theorem dX1_blockAt_9 : decode cX1_blockAt 9 = .ok (.iload_n 1, 1) := by decide +kernel
theorem dX1_blockAt_10 : decode cX1_blockAt 10 = .ok (.invokestatic 78, 3) := by decide +kernel
theorem dX1_blockAt_13 : decode cX1_blockAt 13 = .ok (.if_icmp .lt 5, 3) := by decide +kernel
theorem dX1_blockAt_16 : decode cX1_blockAt 16 = .ok (.iconst (-1), 1) := by decide +kernel
theorem dX1_blockAt_17 : decode cX1_blockAt 17 = .ok (.ireturn, 1) := by decide +kernel
theorem dX1_blockAt_18 : decode cX1_blockAt 18 = .ok (.iload_n 1, 1) := by decide +kernel
theorem dX1_blockAt_19 : decode cX1_blockAt 19 = .ok (.iconst 2, 1) := by decide +kernel
theorem dX1_blockAt_20 : decode cX1_blockAt 20 = .ok (.if_icmp .ge 7, 3) := by decide +kernel
theorem dX1_blockAt_23 : decode cX1_blockAt 23 = .ok (.iconst 0, 1) := by decide +kernel
theorem dX1_blockAt_24 : decode cX1_blockAt 24 = .ok (.goto 4, 3) := by decide +kernel
theorem dX1_blockAt_27 : decode cX1_blockAt 27 = .ok (.iconst 1, 1) := by decide +kernel
theorem dX1_blockAt_28 : decode cX1_blockAt 28 = .ok (.istore_n 3, 1) := by decide +kernel
theorem dX1_blockAt_29 : decode cX1_blockAt 29 = .ok (.iload_n 1, 1) := by decide +kernel
theorem dX1_blockAt_30 : decode cX1_blockAt 30 = .ok (.iconst 1, 1) := by decide +kernel
theorem dX1_blockAt_31 : decode cX1_blockAt 31 = .ok (.iand, 1) := by decide +kernel
theorem dX1_blockAt_32 : decode cX1_blockAt 32 = .ok (.ifCond .ne 7, 3) := by decide +kernel
theorem dX1_blockAt_35 : decode cX1_blockAt 35 = .ok (.iload_n 2, 1) := by decide +kernel
theorem dX1_blockAt_36 : decode cX1_blockAt 36 = .ok (.goto 15, 3) := by decide +kernel
theorem dX1_blockAt_39 : decode cX1_blockAt 39 = .ok (.iload_n 2, 1) := by decide +kernel
theorem dX1_blockAt_40 : decode cX1_blockAt 40 = .ok (.aload_n 0, 1) := by decide +kernel
theorem dX1_blockAt_41 : decode cX1_blockAt 41 = .ok (.getfield 15, 3) := by decide +kernel
theorem dX1_blockAt_44 : decode cX1_blockAt 44 = .ok (.iload_n 1, 1) := by decide +kernel
theorem dX1_blockAt_45 : decode cX1_blockAt 45 = .ok (.iconst 1, 1) := by decide +kernel
theorem dX1_blockAt_46 : decode cX1_blockAt 46 = .ok (.isub, 1) := by decide +kernel
theorem dX1_blockAt_47 : decode cX1_blockAt 47 = .ok (.invokestatic 78, 3) := by decide +kernel
theorem dX1_blockAt_50 : decode cX1_blockAt 50 = .ok (.iadd, 1) := by decide +kernel
theorem dX1_blockAt_51 : decode cX1_blockAt 51 = .ok (.istore 4, 2) := by decide +kernel
theorem dX1_blockAt_53 : decode cX1_blockAt 53 = .ok (.aload_n 0, 1) := by decide +kernel
theorem dX1_blockAt_54 : decode cX1_blockAt 54 = .ok (.invokevirtual 74, 3) := by decide +kernel
theorem dX1_blockAt_57 : decode cX1_blockAt 57 = .ok (.ifCond .eq 19, 3) := by decide +kernel
theorem dX1_blockAt_60 : decode cX1_blockAt 60 = .ok (.iload 4, 2) := by decide +kernel
theorem dX1_blockAt_62 : decode cX1_blockAt 62 = .ok (.aload_n 0, 1) := by decide +kernel
theorem dX1_blockAt_63 : decode cX1_blockAt 63 = .ok (.getfield 34, 3) := by decide +kernel
theorem dX1_blockAt_66 : decode cX1_blockAt 66 = .ok (.if_icmp .ge 8, 3) := by decide +kernel
theorem dX1_blockAt_69 : decode cX1_blockAt 69 = .ok (.iload 4, 2) := by decide +kernel
theorem dX1_blockAt_71 : decode cX1_blockAt 71 = .ok (.goto 4, 3) := by decide +kernel
theorem dX1_blockAt_74 : decode cX1_blockAt 74 = .ok (.iconst (-1), 1) := by decide +kernel
theorem dX1_blockAt_75 : decode cX1_blockAt 75 = .ok (.ireturn, 1) := by decide +kernel
theorem dX1_blockAt_76 : decode cX1_blockAt 76 = .ok (.aload_n 0, 1) := by decide +kernel
theorem dX1_blockAt_77 : decode cX1_blockAt 77 = .ok (.getfield 9, 3) := by decide +kernel
theorem dX1_blockAt_80 : decode cX1_blockAt 80 = .ok (.ifCond .ne 29, 3) := by decide +kernel
theorem dX1_blockAt_83 : decode cX1_blockAt 83 = .ok (.iload 4, 2) := by decide +kernel
theorem dX1_blockAt_85 : decode cX1_blockAt 85 = .ok (.aload_n 0, 1) := by decide +kernel
theorem dX1_blockAt_86 : decode cX1_blockAt 86 = .ok (.getfield 31, 3) := by decide +kernel
theorem dX1_blockAt_89 : decode cX1_blockAt 89 = .ok (.if_icmp .ge 12, 3) := by decide +kernel
theorem dX1_blockAt_92 : decode cX1_blockAt 92 = .ok (.iconst 2, 1) := by decide +kernel
theorem dX1_blockAt_93 : decode cX1_blockAt 93 = .ok (.iload 4, 2) := by decide +kernel
theorem dX1_blockAt_95 : decode cX1_blockAt 95 = .ok (.imul, 1) := by decide +kernel
theorem dX1_blockAt_96 : decode cX1_blockAt 96 = .ok (.iload_n 3, 1) := by decide +kernel
theorem dX1_blockAt_97 : decode cX1_blockAt 97 = .ok (.iadd, 1) := by decide +kernel
theorem dX1_blockAt_98 : decode cX1_blockAt 98 = .ok (.goto 10, 3) := by decide +kernel
theorem dX1_blockAt_101 : decode cX1_blockAt 101 = .ok (.iload 4, 2) := by decide +kernel
theorem dX1_blockAt_103 : decode cX1_blockAt 103 = .ok (.aload_n 0, 1) := by decide +kernel
theorem dX1_blockAt_104 : decode cX1_blockAt 104 = .ok (.getfield 31, 3) := by decide +kernel
theorem dX1_blockAt_107 : decode cX1_blockAt 107 = .ok (.iadd, 1) := by decide +kernel
theorem dX1_blockAt_108 : decode cX1_blockAt 108 = .ok (.ireturn, 1) := by decide +kernel
theorem dX1_blockAt_109 : decode cX1_blockAt 109 = .ok (.iload_n 3, 1) := by decide +kernel
theorem dX1_blockAt_110 : decode cX1_blockAt 110 = .ok (.ifCond .ne 8, 3) := by decide +kernel
theorem dX1_blockAt_113 : decode cX1_blockAt 113 = .ok (.iload 4, 2) := by decide +kernel
theorem dX1_blockAt_115 : decode cX1_blockAt 115 = .ok (.goto 10, 3) := by decide +kernel
theorem dX1_blockAt_118 : decode cX1_blockAt 118 = .ok (.aload_n 0, 1) := by decide +kernel
theorem dX1_blockAt_119 : decode cX1_blockAt 119 = .ok (.getfield 25, 3) := by decide +kernel
theorem dX1_blockAt_122 : decode cX1_blockAt 122 = .ok (.iload 4, 2) := by decide +kernel
theorem dX1_blockAt_124 : decode cX1_blockAt 124 = .ok (.iadd, 1) := by decide +kernel
theorem dX1_blockAt_125 : decode cX1_blockAt 125 = .ok (.ireturn, 1) := by decide +kernel
theorem dX1_usedIn_0 : decode cX1_usedIn 0 = .ok (.iconst 0, 1) := by decide +kernel
theorem dX1_usedIn_1 : decode cX1_usedIn 1 = .ok (.istore_n 2, 1) := by decide +kernel
theorem dX1_usedIn_2 : decode cX1_usedIn 2 = .ok (.iconst 0, 1) := by decide +kernel
theorem dX1_usedIn_3 : decode cX1_usedIn 3 = .ok (.istore_n 3, 1) := by decide +kernel
theorem dX1_usedIn_4 : decode cX1_usedIn 4 = .ok (.iload_n 3, 1) := by decide +kernel
theorem dX1_usedIn_5 : decode cX1_usedIn 5 = .ok (.bipush 12, 2) := by decide +kernel
theorem dX1_usedIn_7 : decode cX1_usedIn 7 = .ok (.if_icmp .ge 27, 3) := by decide +kernel
theorem dX1_usedIn_10 : decode cX1_usedIn 10 = .ok (.iload_n 2, 1) := by decide +kernel
theorem dX1_usedIn_11 : decode cX1_usedIn 11 = .ok (.aload_n 0, 1) := by decide +kernel
theorem dX1_usedIn_12 : decode cX1_usedIn 12 = .ok (.iload_n 1, 1) := by decide +kernel
theorem dX1_usedIn_13 : decode cX1_usedIn 13 = .ok (.iload_n 3, 1) := by decide +kernel
theorem dX1_usedIn_14 : decode cX1_usedIn 14 = .ok (.invokevirtual 82, 3) := by decide +kernel
theorem dX1_usedIn_17 : decode cX1_usedIn 17 = .ok (.iconst (-1), 1) := by decide +kernel
theorem dX1_usedIn_18 : decode cX1_usedIn 18 = .ok (.if_icmp .ne 7, 3) := by decide +kernel
theorem dX1_usedIn_21 : decode cX1_usedIn 21 = .ok (.iconst 0, 1) := by decide +kernel
theorem dX1_usedIn_22 : decode cX1_usedIn 22 = .ok (.goto 4, 3) := by decide +kernel
theorem dX1_usedIn_25 : decode cX1_usedIn 25 = .ok (.iconst 1, 1) := by decide +kernel
theorem dX1_usedIn_26 : decode cX1_usedIn 26 = .ok (.iadd, 1) := by decide +kernel
theorem dX1_usedIn_27 : decode cX1_usedIn 27 = .ok (.istore_n 2, 1) := by decide +kernel
theorem dX1_usedIn_28 : decode cX1_usedIn 28 = .ok (.iinc 3 1, 3) := by decide +kernel
theorem dX1_usedIn_31 : decode cX1_usedIn 31 = .ok (.goto (-27), 3) := by decide +kernel
theorem dX1_usedIn_34 : decode cX1_usedIn 34 = .ok (.iload_n 2, 1) := by decide +kernel
theorem dX1_usedIn_35 : decode cX1_usedIn 35 = .ok (.ireturn, 1) := by decide +kernel
theorem dX2_init_0 : decode cX2_init 0 = .ok (.aload_n 0, 1) := by decide +kernel
theorem dX2_init_1 : decode cX2_init 1 = .ok (.invokespecial 3, 3) := by decide +kernel
theorem dX2_init_4 : decode cX2_init 4 = .ok (.aload_n 0, 1) := by decide +kernel
theorem dX2_init_5 : decode cX2_init 5 = .ok (.new 9, 3) := by decide +kernel
theorem dX2_init_8 : decode cX2_init 8 = .ok (.dup, 1) := by decide +kernel
theorem dX2_init_9 : decode cX2_init 9 = .ok (.invokespecial 11, 3) := by decide +kernel
theorem dX2_init_12 : decode cX2_init 12 = .ok (.putfield 12, 3) := by decide +kernel
theorem dX2_init_15 : decode cX2_init 15 = .ok (.aload_n 0, 1) := by decide +kernel
theorem dX2_init_16 : decode cX2_init 16 = .ok (.new 18, 3) := by decide +kernel
theorem dX2_init_19 : decode cX2_init 19 = .ok (.dup, 1) := by decide +kernel
theorem dX2_init_20 : decode cX2_init 20 = .ok (.invokespecial 20, 3) := by decide +kernel
theorem dX2_init_23 : decode cX2_init 23 = .ok (.putfield 21, 3) := by decide +kernel
theorem dX2_init_26 : decode cX2_init 26 = .ok (.aload_n 0, 1) := by decide +kernel
theorem dX2_init_27 : decode cX2_init 27 = .ok (.new 25, 3) := by decide +kernel
theorem dX2_init_30 : decode cX2_init 30 = .ok (.dup, 1) := by decide +kernel
theorem dX2_init_31 : decode cX2_init 31 = .ok (.invokespecial 27, 3) := by decide +kernel
theorem dX2_init_34 : decode cX2_init 34 = .ok (.putfield 28, 3) := by decide +kernel
theorem dX2_init_37 : decode cX2_init 37 = .ok (.aload_n 0, 1) := by decide +kernel
theorem dX2_init_38 : decode cX2_init 38 = .ok (.bipush 48, 2) := by decide +kernel
theorem dX2_init_40 : decode cX2_init 40 = .ok (.newarray .int, 2) := by decide +kernel
theorem dX2_init_42 : decode cX2_init 42 = .ok (.putfield 32, 3) := by decide +kernel
theorem dX2_init_45 : decode cX2_init 45 = .ok (.aload_n 0, 1) := by decide +kernel
theorem dX2_init_46 : decode cX2_init 46 = .ok (.iconst 0, 1) := by decide +kernel
theorem dX2_init_47 : decode cX2_init 47 = .ok (.putfield 36, 3) := by decide +kernel
theorem dX2_init_50 : decode cX2_init 50 = .ok (.aload_n 0, 1) := by decide +kernel
theorem dX2_init_51 : decode cX2_init 51 = .ok (.iconst 1, 1) := by decide +kernel
theorem dX2_init_52 : decode cX2_init 52 = .ok (.putfield 40, 3) := by decide +kernel
theorem dX2_init_55 : decode cX2_init 55 = .ok (.return_, 1) := by decide +kernel
theorem dX2_copyFrom_0 : decode cX2_copyFrom 0 = .ok (.aload_n 0, 1) := by decide +kernel
theorem dX2_copyFrom_1 : decode cX2_copyFrom 1 = .ok (.getfield 12, 3) := by decide +kernel
theorem dX2_copyFrom_4 : decode cX2_copyFrom 4 = .ok (.aload_n 1, 1) := by decide +kernel
theorem dX2_copyFrom_5 : decode cX2_copyFrom 5 = .ok (.getfield 12, 3) := by decide +kernel
theorem dX2_copyFrom_8 : decode cX2_copyFrom 8 = .ok (.invokevirtual 43, 3) := by decide +kernel
theorem dX2_copyFrom_11 : decode cX2_copyFrom 11 = .ok (.aload_n 0, 1) := by decide +kernel
theorem dX2_copyFrom_12 : decode cX2_copyFrom 12 = .ok (.getfield 21, 3) := by decide +kernel
theorem dX2_copyFrom_15 : decode cX2_copyFrom 15 = .ok (.aload_n 1, 1) := by decide +kernel
theorem dX2_copyFrom_16 : decode cX2_copyFrom 16 = .ok (.getfield 21, 3) := by decide +kernel
theorem dX2_copyFrom_19 : decode cX2_copyFrom 19 = .ok (.invokevirtual 47, 3) := by decide +kernel
theorem dX2_copyFrom_22 : decode cX2_copyFrom 22 = .ok (.aload_n 0, 1) := by decide +kernel
theorem dX2_copyFrom_23 : decode cX2_copyFrom 23 = .ok (.getfield 28, 3) := by decide +kernel
theorem dX2_copyFrom_26 : decode cX2_copyFrom 26 = .ok (.aload_n 1, 1) := by decide +kernel
theorem dX2_copyFrom_27 : decode cX2_copyFrom 27 = .ok (.getfield 28, 3) := by decide +kernel
theorem dX2_copyFrom_30 : decode cX2_copyFrom 30 = .ok (.invokevirtual 50, 3) := by decide +kernel
theorem dX2_copyFrom_33 : decode cX2_copyFrom 33 = .ok (.aload_n 1, 1) := by decide +kernel
theorem dX2_copyFrom_34 : decode cX2_copyFrom 34 = .ok (.getfield 32, 3) := by decide +kernel
theorem dX2_copyFrom_37 : decode cX2_copyFrom 37 = .ok (.iconst 0, 1) := by decide +kernel
theorem dX2_copyFrom_38 : decode cX2_copyFrom 38 = .ok (.aload_n 0, 1) := by decide +kernel
theorem dX2_copyFrom_39 : decode cX2_copyFrom 39 = .ok (.getfield 32, 3) := by decide +kernel
theorem dX2_copyFrom_42 : decode cX2_copyFrom 42 = .ok (.iconst 0, 1) := by decide +kernel
theorem dX2_copyFrom_43 : decode cX2_copyFrom 43 = .ok (.bipush 48, 2) := by decide +kernel
theorem dX2_copyFrom_45 : decode cX2_copyFrom 45 = .ok (.invokestatic 53, 3) := by decide +kernel
theorem dX2_copyFrom_48 : decode cX2_copyFrom 48 = .ok (.aload_n 0, 1) := by decide +kernel
theorem dX2_copyFrom_49 : decode cX2_copyFrom 49 = .ok (.aload_n 1, 1) := by decide +kernel
theorem dX2_copyFrom_50 : decode cX2_copyFrom 50 = .ok (.getfield 36, 3) := by decide +kernel
theorem dX2_copyFrom_53 : decode cX2_copyFrom 53 = .ok (.putfield 36, 3) := by decide +kernel
theorem dX2_copyFrom_56 : decode cX2_copyFrom 56 = .ok (.aload_n 0, 1) := by decide +kernel
theorem dX2_copyFrom_57 : decode cX2_copyFrom 57 = .ok (.aload_n 1, 1) := by decide +kernel
theorem dX2_copyFrom_58 : decode cX2_copyFrom 58 = .ok (.getfield 40, 3) := by decide +kernel
theorem dX2_copyFrom_61 : decode cX2_copyFrom 61 = .ok (.putfield 40, 3) := by decide +kernel
theorem dX2_copyFrom_64 : decode cX2_copyFrom 64 = .ok (.aload_n 0, 1) := by decide +kernel
theorem dX2_copyFrom_65 : decode cX2_copyFrom 65 = .ok (.aload_n 1, 1) := by decide +kernel
theorem dX2_copyFrom_66 : decode cX2_copyFrom 66 = .ok (.getfield 59, 3) := by decide +kernel
theorem dX2_copyFrom_69 : decode cX2_copyFrom 69 = .ok (.putfield 59, 3) := by decide +kernel
theorem dX2_copyFrom_72 : decode cX2_copyFrom 72 = .ok (.aload_n 0, 1) := by decide +kernel
theorem dX2_copyFrom_73 : decode cX2_copyFrom 73 = .ok (.aload_n 1, 1) := by decide +kernel
theorem dX2_copyFrom_74 : decode cX2_copyFrom 74 = .ok (.getfield 62, 3) := by decide +kernel
theorem dX2_copyFrom_77 : decode cX2_copyFrom 77 = .ok (.putfield 62, 3) := by decide +kernel
theorem dX2_copyFrom_80 : decode cX2_copyFrom 80 = .ok (.aload_n 0, 1) := by decide +kernel
theorem dX2_copyFrom_81 : decode cX2_copyFrom 81 = .ok (.aload_n 1, 1) := by decide +kernel
theorem dX2_copyFrom_82 : decode cX2_copyFrom 82 = .ok (.getfield 65, 3) := by decide +kernel
theorem dX2_copyFrom_85 : decode cX2_copyFrom 85 = .ok (.putfield 65, 3) := by decide +kernel
theorem dX2_copyFrom_88 : decode cX2_copyFrom 88 = .ok (.return_, 1) := by decide +kernel
theorem dX2_begin_0 : decode cX2_begin 0 = .ok (.aload_n 0, 1) := by decide +kernel
theorem dX2_begin_1 : decode cX2_begin 1 = .ok (.getfield 21, 3) := by decide +kernel
theorem dX2_begin_4 : decode cX2_begin 4 = .ok (.aload_n 0, 1) := by decide +kernel
theorem dX2_begin_5 : decode cX2_begin 5 = .ok (.getfield 36, 3) := by decide +kernel
theorem dX2_begin_8 : decode cX2_begin 8 = .ok (.aload_n 0, 1) := by decide +kernel
theorem dX2_begin_9 : decode cX2_begin 9 = .ok (.getfield 12, 3) := by decide +kernel
theorem dX2_begin_12 : decode cX2_begin 12 = .ok (.invokevirtual 68, 3) := by decide +kernel
theorem dX2_begin_15 : decode cX2_begin 15 = .ok (.aload_n 0, 1) := by decide +kernel
theorem dX2_begin_16 : decode cX2_begin 16 = .ok (.getfield 12, 3) := by decide +kernel
theorem dX2_begin_19 : decode cX2_begin 19 = .ok (.invokevirtual 72, 3) := by decide +kernel
theorem dX2_begin_22 : decode cX2_begin 22 = .ok (.aload_n 0, 1) := by decide +kernel
theorem dX2_begin_23 : decode cX2_begin 23 = .ok (.getfield 28, 3) := by decide +kernel
theorem dX2_begin_26 : decode cX2_begin 26 = .ok (.invokevirtual 75, 3) := by decide +kernel
theorem dX2_begin_29 : decode cX2_begin 29 = .ok (.aload_n 0, 1) := by decide +kernel
theorem dX2_begin_30 : decode cX2_begin 30 = .ok (.getfield 32, 3) := by decide +kernel
theorem dX2_begin_33 : decode cX2_begin 33 = .ok (.iconst 0, 1) := by decide +kernel
theorem dX2_begin_34 : decode cX2_begin 34 = .ok (.invokestatic 78, 3) := by decide +kernel
theorem dX2_begin_37 : decode cX2_begin 37 = .ok (.aload_n 0, 1) := by decide +kernel
theorem dX2_begin_38 : decode cX2_begin 38 = .ok (.dup, 1) := by decide +kernel
theorem dX2_begin_39 : decode cX2_begin 39 = .ok (.getfield 65, 3) := by decide +kernel
theorem dX2_begin_42 : decode cX2_begin 42 = .ok (.iconst 1, 1) := by decide +kernel
theorem dX2_begin_43 : decode cX2_begin 43 = .ok (.iadd, 1) := by decide +kernel
theorem dX2_begin_44 : decode cX2_begin 44 = .ok (.putfield 65, 3) := by decide +kernel
theorem dX2_begin_47 : decode cX2_begin 47 = .ok (.return_, 1) := by decide +kernel
theorem dX2_end_0 : decode cX2_end 0 = .ok (.aload_n 0, 1) := by decide +kernel
theorem dX2_end_1 : decode cX2_end 1 = .ok (.getfield 21, 3) := by decide +kernel
theorem dX2_end_4 : decode cX2_end 4 = .ok (.invokevirtual 84, 3) := by decide +kernel
theorem dX2_end_7 : decode cX2_end 7 = .ok (.aload_n 0, 1) := by decide +kernel
theorem dX2_end_8 : decode cX2_end 8 = .ok (.getfield 12, 3) := by decide +kernel
theorem dX2_end_11 : decode cX2_end 11 = .ok (.invokevirtual 87, 3) := by decide +kernel
theorem dX2_end_14 : decode cX2_end 14 = .ok (.return_, 1) := by decide +kernel
theorem dX2_settingOf_0 : decode cX2_settingOf 0 = .ok (.iload_n 1, 1) := by decide +kernel
theorem dX2_settingOf_1 : decode cX2_settingOf 1 = .ok (.iconst 1, 1) := by decide +kernel
theorem dX2_settingOf_2 : decode cX2_settingOf 2 = .ok (.if_icmp .ne 10, 3) := by decide +kernel
theorem dX2_settingOf_5 : decode cX2_settingOf 5 = .ok (.aload_n 0, 1) := by decide +kernel
theorem dX2_settingOf_6 : decode cX2_settingOf 6 = .ok (.getfield 40, 3) := by decide +kernel
theorem dX2_settingOf_9 : decode cX2_settingOf 9 = .ok (.goto 7, 3) := by decide +kernel
theorem dX2_settingOf_12 : decode cX2_settingOf 12 = .ok (.aload_n 0, 1) := by decide +kernel
theorem dX2_settingOf_13 : decode cX2_settingOf 13 = .ok (.getfield 36, 3) := by decide +kernel
theorem dX2_settingOf_16 : decode cX2_settingOf 16 = .ok (.ireturn, 1) := by decide +kernel
theorem dX2_exchangeSetting_0 : decode cX2_exchangeSetting 0 = .ok (.aload_n 0, 1) := by decide +kernel
theorem dX2_exchangeSetting_1 : decode cX2_exchangeSetting 1 = .ok (.iload_n 1, 1) := by decide +kernel
theorem dX2_exchangeSetting_2 : decode cX2_exchangeSetting 2 = .ok (.invokevirtual 90, 3) := by decide +kernel
theorem dX2_exchangeSetting_5 : decode cX2_exchangeSetting 5 = .ok (.istore_n 3, 1) := by decide +kernel
theorem dX2_exchangeSetting_6 : decode cX2_exchangeSetting 6 = .ok (.iload_n 1, 1) := by decide +kernel
theorem dX2_exchangeSetting_7 : decode cX2_exchangeSetting 7 = .ok (.iconst 1, 1) := by decide +kernel
theorem dX2_exchangeSetting_8 : decode cX2_exchangeSetting 8 = .ok (.if_icmp .ne 11, 3) := by decide +kernel
theorem dX2_exchangeSetting_11 : decode cX2_exchangeSetting 11 = .ok (.aload_n 0, 1) := by decide +kernel
theorem dX2_exchangeSetting_12 : decode cX2_exchangeSetting 12 = .ok (.iload_n 2, 1) := by decide +kernel
theorem dX2_exchangeSetting_13 : decode cX2_exchangeSetting 13 = .ok (.putfield 40, 3) := by decide +kernel
theorem dX2_exchangeSetting_16 : decode cX2_exchangeSetting 16 = .ok (.goto 8, 3) := by decide +kernel
theorem dX2_exchangeSetting_19 : decode cX2_exchangeSetting 19 = .ok (.aload_n 0, 1) := by decide +kernel
theorem dX2_exchangeSetting_20 : decode cX2_exchangeSetting 20 = .ok (.iload_n 2, 1) := by decide +kernel
theorem dX2_exchangeSetting_21 : decode cX2_exchangeSetting 21 = .ok (.putfield 36, 3) := by decide +kernel
theorem dX2_exchangeSetting_24 : decode cX2_exchangeSetting 24 = .ok (.iload_n 3, 1) := by decide +kernel
theorem dX2_exchangeSetting_25 : decode cX2_exchangeSetting 25 = .ok (.ireturn, 1) := by decide +kernel
theorem dX2_usedPlaces_0 : decode cX2_usedPlaces 0 = .ok (.aload_n 0, 1) := by decide +kernel
theorem dX2_usedPlaces_1 : decode cX2_usedPlaces 1 = .ok (.getfield 12, 3) := by decide +kernel
theorem dX2_usedPlaces_4 : decode cX2_usedPlaces 4 = .ok (.iload_n 1, 1) := by decide +kernel
theorem dX2_usedPlaces_5 : decode cX2_usedPlaces 5 = .ok (.invokevirtual 94, 3) := by decide +kernel
theorem dX2_usedPlaces_8 : decode cX2_usedPlaces 8 = .ok (.ifCond .eq 14, 3) := by decide +kernel
theorem dX2_usedPlaces_11 : decode cX2_usedPlaces 11 = .ok (.aload_n 0, 1) := by decide +kernel
theorem dX2_usedPlaces_12 : decode cX2_usedPlaces 12 = .ok (.getfield 21, 3) := by decide +kernel
theorem dX2_usedPlaces_15 : decode cX2_usedPlaces 15 = .ok (.iload_n 1, 1) := by decide +kernel
theorem dX2_usedPlaces_16 : decode cX2_usedPlaces 16 = .ok (.invokevirtual 98, 3) := by decide +kernel
theorem dX2_usedPlaces_19 : decode cX2_usedPlaces 19 = .ok (.goto 4, 3) := by decide +kernel
theorem dX2_usedPlaces_22 : decode cX2_usedPlaces 22 = .ok (.iconst 0, 1) := by decide +kernel
theorem dX2_usedPlaces_23 : decode cX2_usedPlaces 23 = .ok (.ireturn, 1) := by decide +kernel
theorem dX2_hasBlock_0 : decode cX2_hasBlock 0 = .ok (.iload_n 1, 1) := by decide +kernel
theorem dX2_hasBlock_1 : decode cX2_hasBlock 1 = .ok (.ifCond .lt 18, 3) := by decide +kernel
theorem dX2_hasBlock_4 : decode cX2_hasBlock 4 = .ok (.iload_n 1, 1) := by decide +kernel
theorem dX2_hasBlock_5 : decode cX2_hasBlock 5 = .ok (.aload_n 0, 1) := by decide +kernel
theorem dX2_hasBlock_6 : decode cX2_hasBlock 6 = .ok (.getfield 21, 3) := by decide +kernel
theorem dX2_hasBlock_9 : decode cX2_hasBlock 9 = .ok (.getfield 101, 3) := by decide +kernel
theorem dX2_hasBlock_12 : decode cX2_hasBlock 12 = .ok (.if_icmp .ge 7, 3) := by decide +kernel
theorem dX2_hasBlock_15 : decode cX2_hasBlock 15 = .ok (.iconst 1, 1) := by decide +kernel
theorem dX2_hasBlock_16 : decode cX2_hasBlock 16 = .ok (.goto 4, 3) := by decide +kernel
theorem dX2_hasBlock_19 : decode cX2_hasBlock 19 = .ok (.iconst 0, 1) := by decide +kernel
theorem dX2_hasBlock_20 : decode cX2_hasBlock 20 = .ok (.ireturn, 1) := by decide +kernel
theorem dX2_canRead_0 : decode cX2_canRead 0 = .ok (.aload_n 0, 1) := by decide +kernel
theorem dX2_canRead_1 : decode cX2_canRead 1 = .ok (.iload_n 1, 1) := by decide +kernel
theorem dX2_canRead_2 : decode cX2_canRead 2 = .ok (.invokevirtual 104, 3) := by decide +kernel
theorem dX2_canRead_5 : decode cX2_canRead 5 = .ok (.ifCond .eq 16, 3) := by decide +kernel
theorem dX2_canRead_8 : decode cX2_canRead 8 = .ok (.aload_n 0, 1) := by decide +kernel
theorem dX2_canRead_9 : decode cX2_canRead 9 = .ok (.iload_n 1, 1) := by decide +kernel
theorem dX2_canRead_10 : decode cX2_canRead 10 = .ok (.invokevirtual 107, 3) := by decide +kernel
theorem dX2_canRead_13 : decode cX2_canRead 13 = .ok (.iconst (-1), 1) := by decide +kernel
theorem dX2_canRead_14 : decode cX2_canRead 14 = .ok (.if_icmp .eq 7, 3) := by decide +kernel
theorem dX2_canRead_17 : decode cX2_canRead 17 = .ok (.iconst 1, 1) := by decide +kernel
theorem dX2_canRead_18 : decode cX2_canRead 18 = .ok (.goto 4, 3) := by decide +kernel
theorem dX2_canRead_21 : decode cX2_canRead 21 = .ok (.iconst 0, 1) := by decide +kernel
theorem dX2_canRead_22 : decode cX2_canRead 22 = .ok (.ireturn, 1) := by decide +kernel
theorem dX2_heldBy_0 : decode cX2_heldBy 0 = .ok (.aload_n 0, 1) := by decide +kernel
theorem dX2_heldBy_1 : decode cX2_heldBy 1 = .ok (.getfield 32, 3) := by decide +kernel
theorem dX2_heldBy_4 : decode cX2_heldBy 4 = .ok (.iload_n 1, 1) := by decide +kernel
theorem dX2_heldBy_5 : decode cX2_heldBy 5 = .ok (.invokestatic 110, 3) := by decide +kernel
theorem dX2_heldBy_8 : decode cX2_heldBy 8 = .ok (.ireturn, 1) := by decide +kernel
theorem dX2_exchange_0 : decode cX2_exchange 0 = .ok (.aload_n 0, 1) := by decide +kernel
theorem dX2_exchange_1 : decode cX2_exchange 1 = .ok (.iload_n 1, 1) := by decide +kernel
theorem dX2_exchange_2 : decode cX2_exchange 2 = .ok (.invokevirtual 114, 3) := by decide +kernel
theorem dX2_exchange_5 : decode cX2_exchange 5 = .ok (.istore_n 3, 1) := by decide +kernel
theorem dX2_exchange_6 : decode cX2_exchange 6 = .ok (.iload_n 1, 1) := by decide +kernel
theorem dX2_exchange_7 : decode cX2_exchange 7 = .ok (.ifCond .lt 19, 3) := by decide +kernel
theorem dX2_exchange_10 : decode cX2_exchange 10 = .ok (.iload_n 1, 1) := by decide +kernel
theorem dX2_exchange_11 : decode cX2_exchange 11 = .ok (.aload_n 0, 1) := by decide +kernel
theorem dX2_exchange_12 : decode cX2_exchange 12 = .ok (.getfield 32, 3) := by decide +kernel
theorem dX2_exchange_15 : decode cX2_exchange 15 = .ok (.arraylength, 1) := by decide +kernel
theorem dX2_exchange_16 : decode cX2_exchange 16 = .ok (.if_icmp .ge 10, 3) := by decide +kernel
theorem dX2_exchange_19 : decode cX2_exchange 19 = .ok (.aload_n 0, 1) := by decide +kernel
theorem dX2_exchange_20 : decode cX2_exchange 20 = .ok (.getfield 32, 3) := by decide +kernel
theorem dX2_exchange_23 : decode cX2_exchange 23 = .ok (.iload_n 1, 1) := by decide +kernel
theorem dX2_exchange_24 : decode cX2_exchange 24 = .ok (.iload_n 2, 1) := by decide +kernel
theorem dX2_exchange_25 : decode cX2_exchange 25 = .ok (.iastore, 1) := by decide +kernel
theorem dX2_exchange_26 : decode cX2_exchange 26 = .ok (.iload_n 3, 1) := by decide +kernel
theorem dX2_exchange_27 : decode cX2_exchange 27 = .ok (.ireturn, 1) := by decide +kernel
theorem dX2_readSlotOf_0 : decode cX2_readSlotOf 0 = .ok (.aload_n 0, 1) := by decide +kernel
theorem dX2_readSlotOf_1 : decode cX2_readSlotOf 1 = .ok (.getfield 21, 3) := by decide +kernel
theorem dX2_readSlotOf_4 : decode cX2_readSlotOf 4 = .ok (.iload_n 1, 1) := by decide +kernel
theorem dX2_readSlotOf_5 : decode cX2_readSlotOf 5 = .ok (.invokevirtual 117, 3) := by decide +kernel
theorem dX2_readSlotOf_8 : decode cX2_readSlotOf 8 = .ok (.istore_n 2, 1) := by decide +kernel
theorem dX2_readSlotOf_9 : decode cX2_readSlotOf 9 = .ok (.aload_n 0, 1) := by decide +kernel
theorem dX2_readSlotOf_10 : decode cX2_readSlotOf 10 = .ok (.getfield 12, 3) := by decide +kernel
theorem dX2_readSlotOf_13 : decode cX2_readSlotOf 13 = .ok (.iload_n 2, 1) := by decide +kernel
theorem dX2_readSlotOf_14 : decode cX2_readSlotOf 14 = .ok (.invokevirtual 94, 3) := by decide +kernel
theorem dX2_readSlotOf_17 : decode cX2_readSlotOf 17 = .ok (.ifCond .eq 5, 3) := by decide +kernel
theorem dX2_readSlotOf_20 : decode cX2_readSlotOf 20 = .ok (.iload_n 2, 1) := by decide +kernel
theorem dX2_readSlotOf_21 : decode cX2_readSlotOf 21 = .ok (.ireturn, 1) := by decide +kernel
theorem dX2_readSlotOf_22 : decode cX2_readSlotOf 22 = .ok (.aload_n 0, 1) := by decide +kernel
theorem dX2_readSlotOf_23 : decode cX2_readSlotOf 23 = .ok (.getfield 21, 3) := by decide +kernel
theorem dX2_readSlotOf_26 : decode cX2_readSlotOf 26 = .ok (.iload_n 1, 1) := by decide +kernel
theorem dX2_readSlotOf_27 : decode cX2_readSlotOf 27 = .ok (.invokevirtual 120, 3) := by decide +kernel
theorem dX2_readSlotOf_30 : decode cX2_readSlotOf 30 = .ok (.istore_n 3, 1) := by decide +kernel
theorem dX2_readSlotOf_31 : decode cX2_readSlotOf 31 = .ok (.aload_n 0, 1) := by decide +kernel
theorem dX2_readSlotOf_32 : decode cX2_readSlotOf 32 = .ok (.getfield 12, 3) := by decide +kernel
theorem dX2_readSlotOf_35 : decode cX2_readSlotOf 35 = .ok (.iload_n 3, 1) := by decide +kernel
theorem dX2_readSlotOf_36 : decode cX2_readSlotOf 36 = .ok (.invokevirtual 94, 3) := by decide +kernel
theorem dX2_readSlotOf_39 : decode cX2_readSlotOf 39 = .ok (.ifCond .eq 7, 3) := by decide +kernel
theorem dX2_readSlotOf_42 : decode cX2_readSlotOf 42 = .ok (.iload_n 3, 1) := by decide +kernel
theorem dX2_readSlotOf_43 : decode cX2_readSlotOf 43 = .ok (.goto 4, 3) := by decide +kernel
theorem dX2_readSlotOf_46 : decode cX2_readSlotOf 46 = .ok (.iconst (-1), 1) := by decide +kernel
theorem dX2_readSlotOf_47 : decode cX2_readSlotOf 47 = .ok (.ireturn, 1) := by decide +kernel
theorem dX2_readRankOf_0 : decode cX2_readRankOf 0 = .ok (.aload_n 0, 1) := by decide +kernel
theorem dX2_readRankOf_1 : decode cX2_readRankOf 1 = .ok (.iload_n 1, 1) := by decide +kernel
theorem dX2_readRankOf_2 : decode cX2_readRankOf 2 = .ok (.invokevirtual 107, 3) := by decide +kernel
theorem dX2_readRankOf_5 : decode cX2_readRankOf 5 = .ok (.istore_n 2, 1) := by decide +kernel
theorem dX2_readRankOf_6 : decode cX2_readRankOf 6 = .ok (.iload_n 2, 1) := by decide +kernel
theorem dX2_readRankOf_7 : decode cX2_readRankOf 7 = .ok (.aload_n 0, 1) := by decide +kernel
theorem dX2_readRankOf_8 : decode cX2_readRankOf 8 = .ok (.getfield 21, 3) := by decide +kernel
theorem dX2_readRankOf_11 : decode cX2_readRankOf 11 = .ok (.iload_n 1, 1) := by decide +kernel
theorem dX2_readRankOf_12 : decode cX2_readRankOf 12 = .ok (.invokevirtual 117, 3) := by decide +kernel
theorem dX2_readRankOf_15 : decode cX2_readRankOf 15 = .ok (.if_icmp .eq 7, 3) := by decide +kernel
theorem dX2_readRankOf_18 : decode cX2_readRankOf 18 = .ok (.iconst 1, 1) := by decide +kernel
theorem dX2_readRankOf_19 : decode cX2_readRankOf 19 = .ok (.goto 4, 3) := by decide +kernel
theorem dX2_readRankOf_22 : decode cX2_readRankOf 22 = .ok (.iconst 0, 1) := by decide +kernel
theorem dX2_readRankOf_23 : decode cX2_readRankOf 23 = .ok (.istore_n 3, 1) := by decide +kernel
theorem dX2_readRankOf_24 : decode cX2_readRankOf 24 = .ok (.iload_n 3, 1) := by decide +kernel
theorem dX2_readRankOf_25 : decode cX2_readRankOf 25 = .ok (.ifCond .eq 14, 3) := by decide +kernel
theorem dX2_readRankOf_28 : decode cX2_readRankOf 28 = .ok (.aload_n 0, 1) := by decide +kernel
theorem dX2_readRankOf_29 : decode cX2_readRankOf 29 = .ok (.getfield 21, 3) := by decide +kernel
theorem dX2_readRankOf_32 : decode cX2_readRankOf 32 = .ok (.iload_n 1, 1) := by decide +kernel
theorem dX2_readRankOf_33 : decode cX2_readRankOf 33 = .ok (.invokevirtual 123, 3) := by decide +kernel
theorem dX2_readRankOf_36 : decode cX2_readRankOf 36 = .ok (.goto 11, 3) := by decide +kernel
theorem dX2_readRankOf_39 : decode cX2_readRankOf 39 = .ok (.aload_n 0, 1) := by decide +kernel
theorem dX2_readRankOf_40 : decode cX2_readRankOf 40 = .ok (.getfield 21, 3) := by decide +kernel
theorem dX2_readRankOf_43 : decode cX2_readRankOf 43 = .ok (.iload_n 1, 1) := by decide +kernel
theorem dX2_readRankOf_44 : decode cX2_readRankOf 44 = .ok (.invokevirtual 126, 3) := by decide +kernel
theorem dX2_readRankOf_47 : decode cX2_readRankOf 47 = .ok (.istore 4, 2) := by decide +kernel
theorem dX2_readRankOf_49 : decode cX2_readRankOf 49 = .ok (.aload_n 0, 1) := by decide +kernel
theorem dX2_readRankOf_50 : decode cX2_readRankOf 50 = .ok (.getfield 12, 3) := by decide +kernel
theorem dX2_readRankOf_53 : decode cX2_readRankOf 53 = .ok (.iload_n 2, 1) := by decide +kernel
theorem dX2_readRankOf_54 : decode cX2_readRankOf 54 = .ok (.iload 4, 2) := by decide +kernel
theorem dX2_readRankOf_56 : decode cX2_readRankOf 56 = .ok (.invokevirtual 129, 3) := by decide +kernel
theorem dX2_readRankOf_59 : decode cX2_readRankOf 59 = .ok (.ireturn, 1) := by decide +kernel
theorem dX2_readOne_0 : decode cX2_readOne 0 = .ok (.aload_n 0, 1) := by decide +kernel
theorem dX2_readOne_1 : decode cX2_readOne 1 = .ok (.iload_n 1, 1) := by decide +kernel
theorem dX2_readOne_2 : decode cX2_readOne 2 = .ok (.invokevirtual 107, 3) := by decide +kernel
theorem dX2_readOne_5 : decode cX2_readOne 5 = .ok (.istore_n 2, 1) := by decide +kernel
theorem dX2_readOne_6 : decode cX2_readOne 6 = .ok (.aload_n 0, 1) := by decide +kernel
theorem dX2_readOne_7 : decode cX2_readOne 7 = .ok (.getfield 28, 3) := by decide +kernel
theorem dX2_readOne_10 : decode cX2_readOne 10 = .ok (.aload_n 0, 1) := by decide +kernel
theorem dX2_readOne_11 : decode cX2_readOne 11 = .ok (.iload_n 1, 1) := by decide +kernel
theorem dX2_readOne_12 : decode cX2_readOne 12 = .ok (.invokevirtual 133, 3) := by decide +kernel
theorem dX2_readOne_15 : decode cX2_readOne 15 = .ok (.aload_n 0, 1) := by decide +kernel
theorem dX2_readOne_16 : decode cX2_readOne 16 = .ok (.getfield 12, 3) := by decide +kernel
theorem dX2_readOne_19 : decode cX2_readOne 19 = .ok (.iload_n 2, 1) := by decide +kernel
theorem dX2_readOne_20 : decode cX2_readOne 20 = .ok (.invokevirtual 136, 3) := by decide +kernel
theorem dX2_readOne_23 : decode cX2_readOne 23 = .ok (.invokevirtual 139, 3) := by decide +kernel
theorem dX2_readOne_26 : decode cX2_readOne 26 = .ok (.aload_n 0, 1) := by decide +kernel
theorem dX2_readOne_27 : decode cX2_readOne 27 = .ok (.getfield 12, 3) := by decide +kernel
theorem dX2_readOne_30 : decode cX2_readOne 30 = .ok (.iload_n 2, 1) := by decide +kernel
theorem dX2_readOne_31 : decode cX2_readOne 31 = .ok (.invokevirtual 143, 3) := by decide +kernel
theorem dX2_readOne_34 : decode cX2_readOne 34 = .ok (.aload_n 0, 1) := by decide +kernel
theorem dX2_readOne_35 : decode cX2_readOne 35 = .ok (.dup, 1) := by decide +kernel
theorem dX2_readOne_36 : decode cX2_readOne 36 = .ok (.getfield 59, 3) := by decide +kernel
theorem dX2_readOne_39 : decode cX2_readOne 39 = .ok (.iconst 1, 1) := by decide +kernel
theorem dX2_readOne_40 : decode cX2_readOne 40 = .ok (.iadd, 1) := by decide +kernel
theorem dX2_readOne_41 : decode cX2_readOne 41 = .ok (.putfield 59, 3) := by decide +kernel
theorem dX2_readOne_44 : decode cX2_readOne 44 = .ok (.aload_n 0, 1) := by decide +kernel
theorem dX2_readOne_45 : decode cX2_readOne 45 = .ok (.iload_n 1, 1) := by decide +kernel
theorem dX2_readOne_46 : decode cX2_readOne 46 = .ok (.invokevirtual 114, 3) := by decide +kernel
theorem dX2_readOne_49 : decode cX2_readOne 49 = .ok (.ireturn, 1) := by decide +kernel
theorem dX2_readTwo_0 : decode cX2_readTwo 0 = .ok (.aload_n 0, 1) := by decide +kernel
theorem dX2_readTwo_1 : decode cX2_readTwo 1 = .ok (.iload_n 1, 1) := by decide +kernel
theorem dX2_readTwo_2 : decode cX2_readTwo 2 = .ok (.invokevirtual 107, 3) := by decide +kernel
theorem dX2_readTwo_5 : decode cX2_readTwo 5 = .ok (.istore_n 2, 1) := by decide +kernel
theorem dX2_readTwo_6 : decode cX2_readTwo 6 = .ok (.aload_n 0, 1) := by decide +kernel
theorem dX2_readTwo_7 : decode cX2_readTwo 7 = .ok (.iload_n 1, 1) := by decide +kernel
theorem dX2_readTwo_8 : decode cX2_readTwo 8 = .ok (.iconst 1, 1) := by decide +kernel
theorem dX2_readTwo_9 : decode cX2_readTwo 9 = .ok (.iadd, 1) := by decide +kernel
theorem dX2_readTwo_10 : decode cX2_readTwo 10 = .ok (.invokevirtual 107, 3) := by decide +kernel
theorem dX2_readTwo_13 : decode cX2_readTwo 13 = .ok (.istore_n 3, 1) := by decide +kernel
theorem dX2_readTwo_14 : decode cX2_readTwo 14 = .ok (.aload_n 0, 1) := by decide +kernel
theorem dX2_readTwo_15 : decode cX2_readTwo 15 = .ok (.getfield 28, 3) := by decide +kernel
theorem dX2_readTwo_18 : decode cX2_readTwo 18 = .ok (.aload_n 0, 1) := by decide +kernel
theorem dX2_readTwo_19 : decode cX2_readTwo 19 = .ok (.iload_n 1, 1) := by decide +kernel
theorem dX2_readTwo_20 : decode cX2_readTwo 20 = .ok (.invokevirtual 133, 3) := by decide +kernel
theorem dX2_readTwo_23 : decode cX2_readTwo 23 = .ok (.aload_n 0, 1) := by decide +kernel
theorem dX2_readTwo_24 : decode cX2_readTwo 24 = .ok (.getfield 12, 3) := by decide +kernel
theorem dX2_readTwo_27 : decode cX2_readTwo 27 = .ok (.iload_n 2, 1) := by decide +kernel
theorem dX2_readTwo_28 : decode cX2_readTwo 28 = .ok (.invokevirtual 136, 3) := by decide +kernel
theorem dX2_readTwo_31 : decode cX2_readTwo 31 = .ok (.aload_n 0, 1) := by decide +kernel
theorem dX2_readTwo_32 : decode cX2_readTwo 32 = .ok (.iload_n 1, 1) := by decide +kernel
theorem dX2_readTwo_33 : decode cX2_readTwo 33 = .ok (.iconst 1, 1) := by decide +kernel
theorem dX2_readTwo_34 : decode cX2_readTwo 34 = .ok (.iadd, 1) := by decide +kernel
theorem dX2_readTwo_35 : decode cX2_readTwo 35 = .ok (.invokevirtual 133, 3) := by decide +kernel
theorem dX2_readTwo_38 : decode cX2_readTwo 38 = .ok (.aload_n 0, 1) := by decide +kernel
theorem dX2_readTwo_39 : decode cX2_readTwo 39 = .ok (.getfield 12, 3) := by decide +kernel
theorem dX2_readTwo_42 : decode cX2_readTwo 42 = .ok (.iload_n 3, 1) := by decide +kernel
theorem dX2_readTwo_43 : decode cX2_readTwo 43 = .ok (.invokevirtual 136, 3) := by decide +kernel
theorem dX2_readTwo_46 : decode cX2_readTwo 46 = .ok (.invokevirtual 147, 3) := by decide +kernel
theorem dX2_readTwo_49 : decode cX2_readTwo 49 = .ok (.aload_n 0, 1) := by decide +kernel
theorem dX2_readTwo_50 : decode cX2_readTwo 50 = .ok (.getfield 12, 3) := by decide +kernel
theorem dX2_readTwo_53 : decode cX2_readTwo 53 = .ok (.iload_n 2, 1) := by decide +kernel
theorem dX2_readTwo_54 : decode cX2_readTwo 54 = .ok (.invokevirtual 143, 3) := by decide +kernel
theorem dX2_readTwo_57 : decode cX2_readTwo 57 = .ok (.aload_n 0, 1) := by decide +kernel
theorem dX2_readTwo_58 : decode cX2_readTwo 58 = .ok (.getfield 12, 3) := by decide +kernel
theorem dX2_readTwo_61 : decode cX2_readTwo 61 = .ok (.iload_n 3, 1) := by decide +kernel
theorem dX2_readTwo_62 : decode cX2_readTwo 62 = .ok (.invokevirtual 143, 3) := by decide +kernel
theorem dX2_readTwo_65 : decode cX2_readTwo 65 = .ok (.aload_n 0, 1) := by decide +kernel
theorem dX2_readTwo_66 : decode cX2_readTwo 66 = .ok (.dup, 1) := by decide +kernel
theorem dX2_readTwo_67 : decode cX2_readTwo 67 = .ok (.getfield 59, 3) := by decide +kernel
theorem dX2_readTwo_70 : decode cX2_readTwo 70 = .ok (.iconst 2, 1) := by decide +kernel
theorem dX2_readTwo_71 : decode cX2_readTwo 71 = .ok (.iadd, 1) := by decide +kernel
theorem dX2_readTwo_72 : decode cX2_readTwo 72 = .ok (.putfield 59, 3) := by decide +kernel
theorem dX2_readTwo_75 : decode cX2_readTwo 75 = .ok (.aload_n 0, 1) := by decide +kernel
theorem dX2_readTwo_76 : decode cX2_readTwo 76 = .ok (.dup, 1) := by decide +kernel
theorem dX2_readTwo_77 : decode cX2_readTwo 77 = .ok (.getfield 62, 3) := by decide +kernel
theorem dX2_readTwo_80 : decode cX2_readTwo 80 = .ok (.iconst 1, 1) := by decide +kernel
theorem dX2_readTwo_81 : decode cX2_readTwo 81 = .ok (.iadd, 1) := by decide +kernel
theorem dX2_readTwo_82 : decode cX2_readTwo 82 = .ok (.putfield 62, 3) := by decide +kernel
theorem dX2_readTwo_85 : decode cX2_readTwo 85 = .ok (.aload_n 0, 1) := by decide +kernel
theorem dX2_readTwo_86 : decode cX2_readTwo 86 = .ok (.iload_n 1, 1) := by decide +kernel
theorem dX2_readTwo_87 : decode cX2_readTwo 87 = .ok (.invokevirtual 114, 3) := by decide +kernel
theorem dX2_readTwo_90 : decode cX2_readTwo 90 = .ok (.aload_n 0, 1) := by decide +kernel
theorem dX2_readTwo_91 : decode cX2_readTwo 91 = .ok (.iload_n 1, 1) := by decide +kernel
theorem dX2_readTwo_92 : decode cX2_readTwo 92 = .ok (.iconst 1, 1) := by decide +kernel
theorem dX2_readTwo_93 : decode cX2_readTwo 93 = .ok (.iadd, 1) := by decide +kernel
theorem dX2_readTwo_94 : decode cX2_readTwo 94 = .ok (.invokevirtual 114, 3) := by decide +kernel
theorem dX2_readTwo_97 : decode cX2_readTwo 97 = .ok (.iadd, 1) := by decide +kernel
theorem dX2_readTwo_98 : decode cX2_readTwo 98 = .ok (.ireturn, 1) := by decide +kernel
theorem dX2_readAll_0 : decode cX2_readAll 0 = .ok (.iconst 0, 1) := by decide +kernel
theorem dX2_readAll_1 : decode cX2_readAll 1 = .ok (.istore_n 2, 1) := by decide +kernel
theorem dX2_readAll_2 : decode cX2_readAll 2 = .ok (.iconst 0, 1) := by decide +kernel
theorem dX2_readAll_3 : decode cX2_readAll 3 = .ok (.istore_n 3, 1) := by decide +kernel
theorem dX2_readAll_4 : decode cX2_readAll 4 = .ok (.iload_n 3, 1) := by decide +kernel
theorem dX2_readAll_5 : decode cX2_readAll 5 = .ok (.aload_n 1, 1) := by decide +kernel
theorem dX2_readAll_6 : decode cX2_readAll 6 = .ok (.getfield 151, 3) := by decide +kernel
theorem dX2_readAll_9 : decode cX2_readAll 9 = .ok (.if_icmp .gt 99, 3) := by decide +kernel
theorem dX2_readAll_12 : decode cX2_readAll 12 = .ok (.aload_n 1, 1) := by decide +kernel
theorem dX2_readAll_13 : decode cX2_readAll 13 = .ok (.iload_n 3, 1) := by decide +kernel
theorem dX2_readAll_14 : decode cX2_readAll 14 = .ok (.invokevirtual 156, 3) := by decide +kernel
theorem dX2_readAll_17 : decode cX2_readAll 17 = .ok (.istore 4, 2) := by decide +kernel
theorem dX2_readAll_19 : decode cX2_readAll 19 = .ok (.iconst 1, 1) := by decide +kernel
theorem dX2_readAll_20 : decode cX2_readAll 20 = .ok (.istore 5, 2) := by decide +kernel
theorem dX2_readAll_22 : decode cX2_readAll 22 = .ok (.aload_n 1, 1) := by decide +kernel
theorem dX2_readAll_23 : decode cX2_readAll 23 = .ok (.iload_n 3, 1) := by decide +kernel
theorem dX2_readAll_24 : decode cX2_readAll 24 = .ok (.invokevirtual 159, 3) := by decide +kernel
theorem dX2_readAll_27 : decode cX2_readAll 27 = .ok (.istore 6, 2) := by decide +kernel
theorem dX2_readAll_29 : decode cX2_readAll 29 = .ok (.iload 6, 2) := by decide +kernel
theorem dX2_readAll_31 : decode cX2_readAll 31 = .ok (.iload 4, 2) := by decide +kernel
theorem dX2_readAll_33 : decode cX2_readAll 33 = .ok (.if_icmp .gt 69, 3) := by decide +kernel
theorem dX2_readAll_36 : decode cX2_readAll 36 = .ok (.aload_n 0, 1) := by decide +kernel
theorem dX2_readAll_37 : decode cX2_readAll 37 = .ok (.iload 6, 2) := by decide +kernel
theorem dX2_readAll_39 : decode cX2_readAll 39 = .ok (.invokevirtual 162, 3) := by decide +kernel
theorem dX2_readAll_42 : decode cX2_readAll 42 = .ok (.ifCond .ne 5, 3) := by decide +kernel
theorem dX2_readAll_45 : decode cX2_readAll 45 = .ok (.iload_n 2, 1) := by decide +kernel
theorem dX2_readAll_46 : decode cX2_readAll 46 = .ok (.ireturn, 1) := by decide +kernel
theorem dX2_readAll_47 : decode cX2_readAll 47 = .ok (.aload_n 0, 1) := by decide +kernel
theorem dX2_readAll_48 : decode cX2_readAll 48 = .ok (.iload 6, 2) := by decide +kernel
theorem dX2_readAll_50 : decode cX2_readAll 50 = .ok (.iload 4, 2) := by decide +kernel
theorem dX2_readAll_52 : decode cX2_readAll 52 = .ok (.invokevirtual 165, 3) := by decide +kernel
theorem dX2_readAll_55 : decode cX2_readAll 55 = .ok (.istore 7, 2) := by decide +kernel
theorem dX2_readAll_57 : decode cX2_readAll 57 = .ok (.iload_n 2, 1) := by decide +kernel
theorem dX2_readAll_58 : decode cX2_readAll 58 = .ok (.iload 7, 2) := by decide +kernel
theorem dX2_readAll_60 : decode cX2_readAll 60 = .ok (.ifCond .eq 12, 3) := by decide +kernel
theorem dX2_readAll_63 : decode cX2_readAll 63 = .ok (.aload_n 0, 1) := by decide +kernel
theorem dX2_readAll_64 : decode cX2_readAll 64 = .ok (.iload 6, 2) := by decide +kernel
theorem dX2_readAll_66 : decode cX2_readAll 66 = .ok (.invokevirtual 169, 3) := by decide +kernel
theorem dX2_readAll_69 : decode cX2_readAll 69 = .ok (.goto 9, 3) := by decide +kernel
theorem dX2_readAll_72 : decode cX2_readAll 72 = .ok (.aload_n 0, 1) := by decide +kernel
theorem dX2_readAll_73 : decode cX2_readAll 73 = .ok (.iload 6, 2) := by decide +kernel
theorem dX2_readAll_75 : decode cX2_readAll 75 = .ok (.invokevirtual 172, 3) := by decide +kernel
theorem dX2_readAll_78 : decode cX2_readAll 78 = .ok (.iadd, 1) := by decide +kernel
theorem dX2_readAll_79 : decode cX2_readAll 79 = .ok (.istore_n 2, 1) := by decide +kernel
theorem dX2_readAll_80 : decode cX2_readAll 80 = .ok (.iload 7, 2) := by decide +kernel
theorem dX2_readAll_82 : decode cX2_readAll 82 = .ok (.ifCond .eq 7, 3) := by decide +kernel
theorem dX2_readAll_85 : decode cX2_readAll 85 = .ok (.iconst 2, 1) := by decide +kernel
theorem dX2_readAll_86 : decode cX2_readAll 86 = .ok (.goto 4, 3) := by decide +kernel
theorem dX2_readAll_89 : decode cX2_readAll 89 = .ok (.iconst 1, 1) := by decide +kernel
theorem dX2_readAll_90 : decode cX2_readAll 90 = .ok (.istore 5, 2) := by decide +kernel
theorem dX2_readAll_92 : decode cX2_readAll 92 = .ok (.iload 6, 2) := by decide +kernel
theorem dX2_readAll_94 : decode cX2_readAll 94 = .ok (.iload 5, 2) := by decide +kernel
theorem dX2_readAll_96 : decode cX2_readAll 96 = .ok (.iadd, 1) := by decide +kernel
theorem dX2_readAll_97 : decode cX2_readAll 97 = .ok (.istore 6, 2) := by decide +kernel
theorem dX2_readAll_99 : decode cX2_readAll 99 = .ok (.goto (-70), 3) := by decide +kernel
theorem dX2_readAll_102 : decode cX2_readAll 102 = .ok (.iinc 3 1, 3) := by decide +kernel
theorem dX2_readAll_105 : decode cX2_readAll 105 = .ok (.goto (-101), 3) := by decide +kernel
theorem dX2_readAll_108 : decode cX2_readAll 108 = .ok (.iload_n 2, 1) := by decide +kernel
theorem dX2_readAll_109 : decode cX2_readAll 109 = .ok (.ireturn, 1) := by decide +kernel
theorem dX2_readsPair_0 : decode cX2_readsPair 0 = .ok (.aload_n 0, 1) := by decide +kernel
theorem dX2_readsPair_1 : decode cX2_readsPair 1 = .ok (.getfield 40, 3) := by decide +kernel
theorem dX2_readsPair_4 : decode cX2_readsPair 4 = .ok (.iconst 1, 1) := by decide +kernel
theorem dX2_readsPair_5 : decode cX2_readsPair 5 = .ok (.if_icmp .ne 33, 3) := by decide +kernel
theorem dX2_readsPair_8 : decode cX2_readsPair 8 = .ok (.aload_n 0, 1) := by decide +kernel
theorem dX2_readsPair_9 : decode cX2_readsPair 9 = .ok (.getfield 21, 3) := by decide +kernel
theorem dX2_readsPair_12 : decode cX2_readsPair 12 = .ok (.iload_n 1, 1) := by decide +kernel
theorem dX2_readsPair_13 : decode cX2_readsPair 13 = .ok (.invokevirtual 175, 3) := by decide +kernel
theorem dX2_readsPair_16 : decode cX2_readsPair 16 = .ok (.ifCond .eq 22, 3) := by decide +kernel
theorem dX2_readsPair_19 : decode cX2_readsPair 19 = .ok (.iload_n 1, 1) := by decide +kernel
theorem dX2_readsPair_20 : decode cX2_readsPair 20 = .ok (.iload_n 2, 1) := by decide +kernel
theorem dX2_readsPair_21 : decode cX2_readsPair 21 = .ok (.if_icmp .ge 17, 3) := by decide +kernel
theorem dX2_readsPair_24 : decode cX2_readsPair 24 = .ok (.aload_n 0, 1) := by decide +kernel
theorem dX2_readsPair_25 : decode cX2_readsPair 25 = .ok (.iload_n 1, 1) := by decide +kernel
theorem dX2_readsPair_26 : decode cX2_readsPair 26 = .ok (.iconst 1, 1) := by decide +kernel
theorem dX2_readsPair_27 : decode cX2_readsPair 27 = .ok (.iadd, 1) := by decide +kernel
theorem dX2_readsPair_28 : decode cX2_readsPair 28 = .ok (.invokevirtual 162, 3) := by decide +kernel
theorem dX2_readsPair_31 : decode cX2_readsPair 31 = .ok (.ifCond .eq 7, 3) := by decide +kernel
theorem dX2_readsPair_34 : decode cX2_readsPair 34 = .ok (.iconst 1, 1) := by decide +kernel
theorem dX2_readsPair_35 : decode cX2_readsPair 35 = .ok (.goto 4, 3) := by decide +kernel
theorem dX2_readsPair_38 : decode cX2_readsPair 38 = .ok (.iconst 0, 1) := by decide +kernel
theorem dX2_readsPair_39 : decode cX2_readsPair 39 = .ok (.ireturn, 1) := by decide +kernel
theorem dX2_slotNumber_0 : decode cX2_slotNumber 0 = .ok (.aload_n 0, 1) := by decide +kernel
theorem dX2_slotNumber_1 : decode cX2_slotNumber 1 = .ok (.getfield 12, 3) := by decide +kernel
theorem dX2_slotNumber_4 : decode cX2_slotNumber 4 = .ok (.iload_n 1, 1) := by decide +kernel
theorem dX2_slotNumber_5 : decode cX2_slotNumber 5 = .ok (.invokevirtual 178, 3) := by decide +kernel
theorem dX2_slotNumber_8 : decode cX2_slotNumber 8 = .ok (.ifCond .ne 5, 3) := by decide +kernel
theorem dX2_slotNumber_11 : decode cX2_slotNumber 11 = .ok (.iconst (-1), 1) := by decide +kernel
theorem dX2_slotNumber_12 : decode cX2_slotNumber 12 = .ok (.ireturn, 1) := by decide +kernel
theorem dX2_slotNumber_13 : decode cX2_slotNumber 13 = .ok (.iload_n 2, 1) := by decide +kernel
theorem dX2_slotNumber_14 : decode cX2_slotNumber 14 = .ok (.tableswitch 139 0 6 #[42, 51, 60, 69, 86, 103, 113], 42) := by decide +kernel
theorem dX2_slotNumber_56 : decode cX2_slotNumber 56 = .ok (.aload_n 0, 1) := by decide +kernel
theorem dX2_slotNumber_57 : decode cX2_slotNumber 57 = .ok (.getfield 12, 3) := by decide +kernel
theorem dX2_slotNumber_60 : decode cX2_slotNumber 60 = .ok (.iload_n 1, 1) := by decide +kernel
theorem dX2_slotNumber_61 : decode cX2_slotNumber 61 = .ok (.invokevirtual 181, 3) := by decide +kernel
theorem dX2_slotNumber_64 : decode cX2_slotNumber 64 = .ok (.ireturn, 1) := by decide +kernel
theorem dX2_slotNumber_65 : decode cX2_slotNumber 65 = .ok (.aload_n 0, 1) := by decide +kernel
theorem dX2_slotNumber_66 : decode cX2_slotNumber 66 = .ok (.getfield 12, 3) := by decide +kernel
theorem dX2_slotNumber_69 : decode cX2_slotNumber 69 = .ok (.iload_n 1, 1) := by decide +kernel
theorem dX2_slotNumber_70 : decode cX2_slotNumber 70 = .ok (.invokevirtual 184, 3) := by decide +kernel
theorem dX2_slotNumber_73 : decode cX2_slotNumber 73 = .ok (.ireturn, 1) := by decide +kernel
theorem dX2_slotNumber_74 : decode cX2_slotNumber 74 = .ok (.aload_n 0, 1) := by decide +kernel
theorem dX2_slotNumber_75 : decode cX2_slotNumber 75 = .ok (.getfield 12, 3) := by decide +kernel
theorem dX2_slotNumber_78 : decode cX2_slotNumber 78 = .ok (.iload_n 1, 1) := by decide +kernel
theorem dX2_slotNumber_79 : decode cX2_slotNumber 79 = .ok (.invokevirtual 136, 3) := by decide +kernel
theorem dX2_slotNumber_82 : decode cX2_slotNumber 82 = .ok (.ireturn, 1) := by decide +kernel
theorem dX2_slotNumber_83 : decode cX2_slotNumber 83 = .ok (.aload_n 0, 1) := by decide +kernel
theorem dX2_slotNumber_84 : decode cX2_slotNumber 84 = .ok (.getfield 12, 3) := by decide +kernel
theorem dX2_slotNumber_87 : decode cX2_slotNumber 87 = .ok (.iload_n 1, 1) := by decide +kernel
theorem dX2_slotNumber_88 : decode cX2_slotNumber 88 = .ok (.invokevirtual 187, 3) := by decide +kernel
theorem dX2_slotNumber_91 : decode cX2_slotNumber 91 = .ok (.ifCond .eq 7, 3) := by decide +kernel
theorem dX2_slotNumber_94 : decode cX2_slotNumber 94 = .ok (.iconst 1, 1) := by decide +kernel
theorem dX2_slotNumber_95 : decode cX2_slotNumber 95 = .ok (.goto 4, 3) := by decide +kernel
theorem dX2_slotNumber_98 : decode cX2_slotNumber 98 = .ok (.iconst 0, 1) := by decide +kernel
theorem dX2_slotNumber_99 : decode cX2_slotNumber 99 = .ok (.ireturn, 1) := by decide +kernel
theorem dX2_slotNumber_100 : decode cX2_slotNumber 100 = .ok (.aload_n 0, 1) := by decide +kernel
theorem dX2_slotNumber_101 : decode cX2_slotNumber 101 = .ok (.getfield 12, 3) := by decide +kernel
theorem dX2_slotNumber_104 : decode cX2_slotNumber 104 = .ok (.iload_n 1, 1) := by decide +kernel
theorem dX2_slotNumber_105 : decode cX2_slotNumber 105 = .ok (.invokevirtual 190, 3) := by decide +kernel
theorem dX2_slotNumber_108 : decode cX2_slotNumber 108 = .ok (.ifCond .eq 7, 3) := by decide +kernel
theorem dX2_slotNumber_111 : decode cX2_slotNumber 111 = .ok (.iconst 1, 1) := by decide +kernel
theorem dX2_slotNumber_112 : decode cX2_slotNumber 112 = .ok (.goto 4, 3) := by decide +kernel
theorem dX2_slotNumber_115 : decode cX2_slotNumber 115 = .ok (.iconst 0, 1) := by decide +kernel
theorem dX2_slotNumber_116 : decode cX2_slotNumber 116 = .ok (.ireturn, 1) := by decide +kernel
theorem dX2_slotNumber_117 : decode cX2_slotNumber 117 = .ok (.aload_n 0, 1) := by decide +kernel
theorem dX2_slotNumber_118 : decode cX2_slotNumber 118 = .ok (.getfield 28, 3) := by decide +kernel
theorem dX2_slotNumber_121 : decode cX2_slotNumber 121 = .ok (.iload_n 1, 1) := by decide +kernel
theorem dX2_slotNumber_122 : decode cX2_slotNumber 122 = .ok (.iconst 0, 1) := by decide +kernel
theorem dX2_slotNumber_123 : decode cX2_slotNumber 123 = .ok (.invokevirtual 193, 3) := by decide +kernel
theorem dX2_slotNumber_126 : decode cX2_slotNumber 126 = .ok (.ireturn, 1) := by decide +kernel
theorem dX2_slotNumber_127 : decode cX2_slotNumber 127 = .ok (.aload_n 0, 1) := by decide +kernel
theorem dX2_slotNumber_128 : decode cX2_slotNumber 128 = .ok (.getfield 12, 3) := by decide +kernel
theorem dX2_slotNumber_131 : decode cX2_slotNumber 131 = .ok (.iload_n 1, 1) := by decide +kernel
theorem dX2_slotNumber_132 : decode cX2_slotNumber 132 = .ok (.invokevirtual 184, 3) := by decide +kernel
theorem dX2_slotNumber_135 : decode cX2_slotNumber 135 = .ok (.iconst 2, 1) := by decide +kernel
theorem dX2_slotNumber_136 : decode cX2_slotNumber 136 = .ok (.if_icmp .ne 15, 3) := by decide +kernel
theorem dX2_slotNumber_139 : decode cX2_slotNumber 139 = .ok (.aload_n 0, 1) := by decide +kernel
theorem dX2_slotNumber_140 : decode cX2_slotNumber 140 = .ok (.getfield 28, 3) := by decide +kernel
theorem dX2_slotNumber_143 : decode cX2_slotNumber 143 = .ok (.iload_n 1, 1) := by decide +kernel
theorem dX2_slotNumber_144 : decode cX2_slotNumber 144 = .ok (.iconst 1, 1) := by decide +kernel
theorem dX2_slotNumber_145 : decode cX2_slotNumber 145 = .ok (.invokevirtual 193, 3) := by decide +kernel
theorem dX2_slotNumber_148 : decode cX2_slotNumber 148 = .ok (.goto 4, 3) := by decide +kernel
theorem dX2_slotNumber_151 : decode cX2_slotNumber 151 = .ok (.iconst (-1), 1) := by decide +kernel
theorem dX2_slotNumber_152 : decode cX2_slotNumber 152 = .ok (.ireturn, 1) := by decide +kernel
theorem dX2_slotNumber_153 : decode cX2_slotNumber 153 = .ok (.aload_n 0, 1) := by decide +kernel
theorem dX2_slotNumber_154 : decode cX2_slotNumber 154 = .ok (.getfield 12, 3) := by decide +kernel
theorem dX2_slotNumber_157 : decode cX2_slotNumber 157 = .ok (.iload_n 1, 1) := by decide +kernel
theorem dX2_slotNumber_158 : decode cX2_slotNumber 158 = .ok (.invokevirtual 196, 3) := by decide +kernel
theorem dX2_slotNumber_161 : decode cX2_slotNumber 161 = .ok (.ireturn, 1) := by decide +kernel
theorem dX2_blockNumber_0 : decode cX2_blockNumber 0 = .ok (.iload_n 2, 1) := by decide +kernel
theorem dX2_blockNumber_1 : decode cX2_blockNumber 1 = .ok (.tableswitch 127 0 5 #[39, 48, 57, 78, 109, 118], 39) := by decide +kernel
theorem dX2_blockNumber_40 : decode cX2_blockNumber 40 = .ok (.aload_n 0, 1) := by decide +kernel
theorem dX2_blockNumber_41 : decode cX2_blockNumber 41 = .ok (.getfield 21, 3) := by decide +kernel
theorem dX2_blockNumber_44 : decode cX2_blockNumber 44 = .ok (.iload_n 1, 1) := by decide +kernel
theorem dX2_blockNumber_45 : decode cX2_blockNumber 45 = .ok (.invokevirtual 117, 3) := by decide +kernel
theorem dX2_blockNumber_48 : decode cX2_blockNumber 48 = .ok (.ireturn, 1) := by decide +kernel
theorem dX2_blockNumber_49 : decode cX2_blockNumber 49 = .ok (.aload_n 0, 1) := by decide +kernel
theorem dX2_blockNumber_50 : decode cX2_blockNumber 50 = .ok (.getfield 21, 3) := by decide +kernel
theorem dX2_blockNumber_53 : decode cX2_blockNumber 53 = .ok (.iload_n 1, 1) := by decide +kernel
theorem dX2_blockNumber_54 : decode cX2_blockNumber 54 = .ok (.invokevirtual 126, 3) := by decide +kernel
theorem dX2_blockNumber_57 : decode cX2_blockNumber 57 = .ok (.ireturn, 1) := by decide +kernel
theorem dX2_blockNumber_58 : decode cX2_blockNumber 58 = .ok (.aload_n 0, 1) := by decide +kernel
theorem dX2_blockNumber_59 : decode cX2_blockNumber 59 = .ok (.aload_n 0, 1) := by decide +kernel
theorem dX2_blockNumber_60 : decode cX2_blockNumber 60 = .ok (.getfield 21, 3) := by decide +kernel
theorem dX2_blockNumber_63 : decode cX2_blockNumber 63 = .ok (.iload_n 1, 1) := by decide +kernel
theorem dX2_blockNumber_64 : decode cX2_blockNumber 64 = .ok (.invokevirtual 117, 3) := by decide +kernel
theorem dX2_blockNumber_67 : decode cX2_blockNumber 67 = .ok (.aload_n 0, 1) := by decide +kernel
theorem dX2_blockNumber_68 : decode cX2_blockNumber 68 = .ok (.getfield 21, 3) := by decide +kernel
theorem dX2_blockNumber_71 : decode cX2_blockNumber 71 = .ok (.iload_n 1, 1) := by decide +kernel
theorem dX2_blockNumber_72 : decode cX2_blockNumber 72 = .ok (.invokevirtual 126, 3) := by decide +kernel
theorem dX2_blockNumber_75 : decode cX2_blockNumber 75 = .ok (.invokevirtual 199, 3) := by decide +kernel
theorem dX2_blockNumber_78 : decode cX2_blockNumber 78 = .ok (.ireturn, 1) := by decide +kernel
theorem dX2_blockNumber_79 : decode cX2_blockNumber 79 = .ok (.aload_n 0, 1) := by decide +kernel
theorem dX2_blockNumber_80 : decode cX2_blockNumber 80 = .ok (.getfield 21, 3) := by decide +kernel
theorem dX2_blockNumber_83 : decode cX2_blockNumber 83 = .ok (.invokevirtual 202, 3) := by decide +kernel
theorem dX2_blockNumber_86 : decode cX2_blockNumber 86 = .ok (.ifCond .eq 7, 3) := by decide +kernel
theorem dX2_blockNumber_89 : decode cX2_blockNumber 89 = .ok (.iconst 2, 1) := by decide +kernel
theorem dX2_blockNumber_90 : decode cX2_blockNumber 90 = .ok (.goto 19, 3) := by decide +kernel
theorem dX2_blockNumber_93 : decode cX2_blockNumber 93 = .ok (.aload_n 0, 1) := by decide +kernel
theorem dX2_blockNumber_94 : decode cX2_blockNumber 94 = .ok (.getfield 21, 3) := by decide +kernel
theorem dX2_blockNumber_97 : decode cX2_blockNumber 97 = .ok (.iload_n 1, 1) := by decide +kernel
theorem dX2_blockNumber_98 : decode cX2_blockNumber 98 = .ok (.invokevirtual 206, 3) := by decide +kernel
theorem dX2_blockNumber_101 : decode cX2_blockNumber 101 = .ok (.ifCond .eq 7, 3) := by decide +kernel
theorem dX2_blockNumber_104 : decode cX2_blockNumber 104 = .ok (.iconst 1, 1) := by decide +kernel
theorem dX2_blockNumber_105 : decode cX2_blockNumber 105 = .ok (.goto 4, 3) := by decide +kernel
theorem dX2_blockNumber_108 : decode cX2_blockNumber 108 = .ok (.iconst 0, 1) := by decide +kernel
theorem dX2_blockNumber_109 : decode cX2_blockNumber 109 = .ok (.ireturn, 1) := by decide +kernel
theorem dX2_blockNumber_110 : decode cX2_blockNumber 110 = .ok (.aload_n 0, 1) := by decide +kernel
theorem dX2_blockNumber_111 : decode cX2_blockNumber 111 = .ok (.getfield 21, 3) := by decide +kernel
theorem dX2_blockNumber_114 : decode cX2_blockNumber 114 = .ok (.iload_n 1, 1) := by decide +kernel
theorem dX2_blockNumber_115 : decode cX2_blockNumber 115 = .ok (.invokevirtual 120, 3) := by decide +kernel
theorem dX2_blockNumber_118 : decode cX2_blockNumber 118 = .ok (.ireturn, 1) := by decide +kernel
theorem dX2_blockNumber_119 : decode cX2_blockNumber 119 = .ok (.aload_n 0, 1) := by decide +kernel
theorem dX2_blockNumber_120 : decode cX2_blockNumber 120 = .ok (.getfield 21, 3) := by decide +kernel
theorem dX2_blockNumber_123 : decode cX2_blockNumber 123 = .ok (.iload_n 1, 1) := by decide +kernel
theorem dX2_blockNumber_124 : decode cX2_blockNumber 124 = .ok (.invokevirtual 123, 3) := by decide +kernel
theorem dX2_blockNumber_127 : decode cX2_blockNumber 127 = .ok (.ireturn, 1) := by decide +kernel
theorem dX2_blockNumber_128 : decode cX2_blockNumber 128 = .ok (.aload_n 0, 1) := by decide +kernel
theorem dX2_blockNumber_129 : decode cX2_blockNumber 129 = .ok (.iload_n 1, 1) := by decide +kernel
theorem dX2_blockNumber_130 : decode cX2_blockNumber 130 = .ok (.invokevirtual 162, 3) := by decide +kernel
theorem dX2_blockNumber_133 : decode cX2_blockNumber 133 = .ok (.ifCond .eq 7, 3) := by decide +kernel
theorem dX2_blockNumber_136 : decode cX2_blockNumber 136 = .ok (.iconst 1, 1) := by decide +kernel
theorem dX2_blockNumber_137 : decode cX2_blockNumber 137 = .ok (.goto 4, 3) := by decide +kernel
theorem dX2_blockNumber_140 : decode cX2_blockNumber 140 = .ok (.iconst 0, 1) := by decide +kernel
theorem dX2_blockNumber_141 : decode cX2_blockNumber 141 = .ok (.ireturn, 1) := by decide +kernel
theorem dX2_rankOrNone_0 : decode cX2_rankOrNone 0 = .ok (.aload_n 0, 1) := by decide +kernel
theorem dX2_rankOrNone_1 : decode cX2_rankOrNone 1 = .ok (.getfield 12, 3) := by decide +kernel
theorem dX2_rankOrNone_4 : decode cX2_rankOrNone 4 = .ok (.iload_n 1, 1) := by decide +kernel
theorem dX2_rankOrNone_5 : decode cX2_rankOrNone 5 = .ok (.invokevirtual 190, 3) := by decide +kernel
theorem dX2_rankOrNone_8 : decode cX2_rankOrNone 8 = .ok (.ifCond .eq 15, 3) := by decide +kernel
theorem dX2_rankOrNone_11 : decode cX2_rankOrNone 11 = .ok (.aload_n 0, 1) := by decide +kernel
theorem dX2_rankOrNone_12 : decode cX2_rankOrNone 12 = .ok (.getfield 12, 3) := by decide +kernel
theorem dX2_rankOrNone_15 : decode cX2_rankOrNone 15 = .ok (.iload_n 1, 1) := by decide +kernel
theorem dX2_rankOrNone_16 : decode cX2_rankOrNone 16 = .ok (.iload_n 2, 1) := by decide +kernel
theorem dX2_rankOrNone_17 : decode cX2_rankOrNone 17 = .ok (.invokevirtual 209, 3) := by decide +kernel
theorem dX2_rankOrNone_20 : decode cX2_rankOrNone 20 = .ok (.goto 4, 3) := by decide +kernel
theorem dX2_rankOrNone_23 : decode cX2_rankOrNone 23 = .ok (.iconst (-1), 1) := by decide +kernel
theorem dX2_rankOrNone_24 : decode cX2_rankOrNone 24 = .ok (.ireturn, 1) := by decide +kernel
theorem dX2_lostBlocks_0 : decode cX2_lostBlocks 0 = .ok (.iconst 0, 1) := by decide +kernel
theorem dX2_lostBlocks_1 : decode cX2_lostBlocks 1 = .ok (.istore_n 1, 1) := by decide +kernel
theorem dX2_lostBlocks_2 : decode cX2_lostBlocks 2 = .ok (.iconst 0, 1) := by decide +kernel
theorem dX2_lostBlocks_3 : decode cX2_lostBlocks 3 = .ok (.istore_n 2, 1) := by decide +kernel
theorem dX2_lostBlocks_4 : decode cX2_lostBlocks 4 = .ok (.iload_n 2, 1) := by decide +kernel
theorem dX2_lostBlocks_5 : decode cX2_lostBlocks 5 = .ok (.aload_n 0, 1) := by decide +kernel
theorem dX2_lostBlocks_6 : decode cX2_lostBlocks 6 = .ok (.getfield 21, 3) := by decide +kernel
theorem dX2_lostBlocks_9 : decode cX2_lostBlocks 9 = .ok (.getfield 101, 3) := by decide +kernel
theorem dX2_lostBlocks_12 : decode cX2_lostBlocks 12 = .ok (.if_icmp .ge 25, 3) := by decide +kernel
theorem dX2_lostBlocks_15 : decode cX2_lostBlocks 15 = .ok (.iload_n 1, 1) := by decide +kernel
theorem dX2_lostBlocks_16 : decode cX2_lostBlocks 16 = .ok (.aload_n 0, 1) := by decide +kernel
theorem dX2_lostBlocks_17 : decode cX2_lostBlocks 17 = .ok (.iload_n 2, 1) := by decide +kernel
theorem dX2_lostBlocks_18 : decode cX2_lostBlocks 18 = .ok (.invokevirtual 162, 3) := by decide +kernel
theorem dX2_lostBlocks_21 : decode cX2_lostBlocks 21 = .ok (.ifCond .eq 7, 3) := by decide +kernel
theorem dX2_lostBlocks_24 : decode cX2_lostBlocks 24 = .ok (.iconst 0, 1) := by decide +kernel
theorem dX2_lostBlocks_25 : decode cX2_lostBlocks 25 = .ok (.goto 4, 3) := by decide +kernel
theorem dX2_lostBlocks_28 : decode cX2_lostBlocks 28 = .ok (.iconst 1, 1) := by decide +kernel
theorem dX2_lostBlocks_29 : decode cX2_lostBlocks 29 = .ok (.iadd, 1) := by decide +kernel
theorem dX2_lostBlocks_30 : decode cX2_lostBlocks 30 = .ok (.istore_n 1, 1) := by decide +kernel
theorem dX2_lostBlocks_31 : decode cX2_lostBlocks 31 = .ok (.iinc 2 1, 3) := by decide +kernel
theorem dX2_lostBlocks_34 : decode cX2_lostBlocks 34 = .ok (.goto (-30), 3) := by decide +kernel
theorem dX2_lostBlocks_37 : decode cX2_lostBlocks 37 = .ok (.iload_n 1, 1) := by decide +kernel
theorem dX2_lostBlocks_38 : decode cX2_lostBlocks 38 = .ok (.ireturn, 1) := by decide +kernel
theorem dX2_sumOfValues_0 : decode cX2_sumOfValues 0 = .ok (.iconst 0, 1) := by decide +kernel
theorem dX2_sumOfValues_1 : decode cX2_sumOfValues 1 = .ok (.istore_n 1, 1) := by decide +kernel
theorem dX2_sumOfValues_2 : decode cX2_sumOfValues 2 = .ok (.iconst 0, 1) := by decide +kernel
theorem dX2_sumOfValues_3 : decode cX2_sumOfValues 3 = .ok (.istore_n 2, 1) := by decide +kernel
theorem dX2_sumOfValues_4 : decode cX2_sumOfValues 4 = .ok (.iload_n 2, 1) := by decide +kernel
theorem dX2_sumOfValues_5 : decode cX2_sumOfValues 5 = .ok (.aload_n 0, 1) := by decide +kernel
theorem dX2_sumOfValues_6 : decode cX2_sumOfValues 6 = .ok (.getfield 21, 3) := by decide +kernel
theorem dX2_sumOfValues_9 : decode cX2_sumOfValues 9 = .ok (.getfield 101, 3) := by decide +kernel
theorem dX2_sumOfValues_12 : decode cX2_sumOfValues 12 = .ok (.if_icmp .ge 29, 3) := by decide +kernel
theorem dX2_sumOfValues_15 : decode cX2_sumOfValues 15 = .ok (.iload_n 1, 1) := by decide +kernel
theorem dX2_sumOfValues_16 : decode cX2_sumOfValues 16 = .ok (.aload_n 0, 1) := by decide +kernel
theorem dX2_sumOfValues_17 : decode cX2_sumOfValues 17 = .ok (.iload_n 2, 1) := by decide +kernel
theorem dX2_sumOfValues_18 : decode cX2_sumOfValues 18 = .ok (.invokevirtual 162, 3) := by decide +kernel
theorem dX2_sumOfValues_21 : decode cX2_sumOfValues 21 = .ok (.ifCond .eq 11, 3) := by decide +kernel
theorem dX2_sumOfValues_24 : decode cX2_sumOfValues 24 = .ok (.aload_n 0, 1) := by decide +kernel
theorem dX2_sumOfValues_25 : decode cX2_sumOfValues 25 = .ok (.iload_n 2, 1) := by decide +kernel
theorem dX2_sumOfValues_26 : decode cX2_sumOfValues 26 = .ok (.invokevirtual 114, 3) := by decide +kernel
theorem dX2_sumOfValues_29 : decode cX2_sumOfValues 29 = .ok (.goto 4, 3) := by decide +kernel
theorem dX2_sumOfValues_32 : decode cX2_sumOfValues 32 = .ok (.iconst 0, 1) := by decide +kernel
theorem dX2_sumOfValues_33 : decode cX2_sumOfValues 33 = .ok (.iadd, 1) := by decide +kernel
theorem dX2_sumOfValues_34 : decode cX2_sumOfValues 34 = .ok (.istore_n 1, 1) := by decide +kernel
theorem dX2_sumOfValues_35 : decode cX2_sumOfValues 35 = .ok (.iinc 2 1, 3) := by decide +kernel
theorem dX2_sumOfValues_38 : decode cX2_sumOfValues 38 = .ok (.goto (-34), 3) := by decide +kernel
theorem dX2_sumOfValues_41 : decode cX2_sumOfValues 41 = .ok (.iload_n 1, 1) := by decide +kernel
theorem dX2_sumOfValues_42 : decode cX2_sumOfValues 42 = .ok (.ireturn, 1) := by decide +kernel
theorem dX3_init_0 : decode cX3_init 0 = .ok (.aload_n 0, 1) := by decide +kernel
theorem dX3_init_1 : decode cX3_init 1 = .ok (.invokespecial 3, 3) := by decide +kernel
theorem dX3_init_4 : decode cX3_init 4 = .ok (.aload_n 0, 1) := by decide +kernel
theorem dX3_init_5 : decode cX3_init 5 = .ok (.iconst 4, 1) := by decide +kernel
theorem dX3_init_6 : decode cX3_init 6 = .ok (.newarray .int, 2) := by decide +kernel
theorem dX3_init_8 : decode cX3_init 8 = .ok (.putfield 9, 3) := by decide +kernel
theorem dX3_init_11 : decode cX3_init 11 = .ok (.aload_n 0, 1) := by decide +kernel
theorem dX3_init_12 : decode cX3_init 12 = .ok (.iconst 4, 1) := by decide +kernel
theorem dX3_init_13 : decode cX3_init 13 = .ok (.newarray .int, 2) := by decide +kernel
theorem dX3_init_15 : decode cX3_init 15 = .ok (.putfield 15, 3) := by decide +kernel
theorem dX3_init_18 : decode cX3_init 18 = .ok (.aload_n 0, 1) := by decide +kernel
theorem dX3_init_19 : decode cX3_init 19 = .ok (.iconst 4, 1) := by decide +kernel
theorem dX3_init_20 : decode cX3_init 20 = .ok (.newarray .int, 2) := by decide +kernel
theorem dX3_init_22 : decode cX3_init 22 = .ok (.putfield 18, 3) := by decide +kernel
theorem dX3_init_25 : decode cX3_init 25 = .ok (.aload_n 0, 1) := by decide +kernel
theorem dX3_init_26 : decode cX3_init 26 = .ok (.iconst 4, 1) := by decide +kernel
theorem dX3_init_27 : decode cX3_init 27 = .ok (.newarray .int, 2) := by decide +kernel
theorem dX3_init_29 : decode cX3_init 29 = .ok (.putfield 21, 3) := by decide +kernel
theorem dX3_init_32 : decode cX3_init 32 = .ok (.aload_n 0, 1) := by decide +kernel
theorem dX3_init_33 : decode cX3_init 33 = .ok (.iconst 4, 1) := by decide +kernel
theorem dX3_init_34 : decode cX3_init 34 = .ok (.newarray .boolean, 2) := by decide +kernel
theorem dX3_init_36 : decode cX3_init 36 = .ok (.putfield 24, 3) := by decide +kernel
theorem dX3_init_39 : decode cX3_init 39 = .ok (.aload_n 0, 1) := by decide +kernel
theorem dX3_init_40 : decode cX3_init 40 = .ok (.iconst 4, 1) := by decide +kernel
theorem dX3_init_41 : decode cX3_init 41 = .ok (.newarray .boolean, 2) := by decide +kernel
theorem dX3_init_43 : decode cX3_init 43 = .ok (.putfield 28, 3) := by decide +kernel
theorem dX3_init_46 : decode cX3_init 46 = .ok (.return_, 1) := by decide +kernel
theorem dX3_copyFrom_0 : decode cX3_copyFrom 0 = .ok (.iconst 0, 1) := by decide +kernel
theorem dX3_copyFrom_1 : decode cX3_copyFrom 1 = .ok (.istore_n 2, 1) := by decide +kernel
theorem dX3_copyFrom_2 : decode cX3_copyFrom 2 = .ok (.iload_n 2, 1) := by decide +kernel
theorem dX3_copyFrom_3 : decode cX3_copyFrom 3 = .ok (.iconst 4, 1) := by decide +kernel
theorem dX3_copyFrom_4 : decode cX3_copyFrom 4 = .ok (.if_icmp .ge 81, 3) := by decide +kernel
theorem dX3_copyFrom_7 : decode cX3_copyFrom 7 = .ok (.aload_n 0, 1) := by decide +kernel
theorem dX3_copyFrom_8 : decode cX3_copyFrom 8 = .ok (.getfield 9, 3) := by decide +kernel
theorem dX3_copyFrom_11 : decode cX3_copyFrom 11 = .ok (.iload_n 2, 1) := by decide +kernel
theorem dX3_copyFrom_12 : decode cX3_copyFrom 12 = .ok (.aload_n 1, 1) := by decide +kernel
theorem dX3_copyFrom_13 : decode cX3_copyFrom 13 = .ok (.getfield 9, 3) := by decide +kernel
theorem dX3_copyFrom_16 : decode cX3_copyFrom 16 = .ok (.iload_n 2, 1) := by decide +kernel
theorem dX3_copyFrom_17 : decode cX3_copyFrom 17 = .ok (.iaload, 1) := by decide +kernel
theorem dX3_copyFrom_18 : decode cX3_copyFrom 18 = .ok (.iastore, 1) := by decide +kernel
theorem dX3_copyFrom_19 : decode cX3_copyFrom 19 = .ok (.aload_n 0, 1) := by decide +kernel
theorem dX3_copyFrom_20 : decode cX3_copyFrom 20 = .ok (.getfield 15, 3) := by decide +kernel
theorem dX3_copyFrom_23 : decode cX3_copyFrom 23 = .ok (.iload_n 2, 1) := by decide +kernel
theorem dX3_copyFrom_24 : decode cX3_copyFrom 24 = .ok (.aload_n 1, 1) := by decide +kernel
theorem dX3_copyFrom_25 : decode cX3_copyFrom 25 = .ok (.getfield 15, 3) := by decide +kernel
theorem dX3_copyFrom_28 : decode cX3_copyFrom 28 = .ok (.iload_n 2, 1) := by decide +kernel
theorem dX3_copyFrom_29 : decode cX3_copyFrom 29 = .ok (.iaload, 1) := by decide +kernel
theorem dX3_copyFrom_30 : decode cX3_copyFrom 30 = .ok (.iastore, 1) := by decide +kernel
theorem dX3_copyFrom_31 : decode cX3_copyFrom 31 = .ok (.aload_n 0, 1) := by decide +kernel
theorem dX3_copyFrom_32 : decode cX3_copyFrom 32 = .ok (.getfield 18, 3) := by decide +kernel
theorem dX3_copyFrom_35 : decode cX3_copyFrom 35 = .ok (.iload_n 2, 1) := by decide +kernel
theorem dX3_copyFrom_36 : decode cX3_copyFrom 36 = .ok (.aload_n 1, 1) := by decide +kernel
theorem dX3_copyFrom_37 : decode cX3_copyFrom 37 = .ok (.getfield 18, 3) := by decide +kernel
theorem dX3_copyFrom_40 : decode cX3_copyFrom 40 = .ok (.iload_n 2, 1) := by decide +kernel
theorem dX3_copyFrom_41 : decode cX3_copyFrom 41 = .ok (.iaload, 1) := by decide +kernel
theorem dX3_copyFrom_42 : decode cX3_copyFrom 42 = .ok (.iastore, 1) := by decide +kernel
theorem dX3_copyFrom_43 : decode cX3_copyFrom 43 = .ok (.aload_n 0, 1) := by decide +kernel
theorem dX3_copyFrom_44 : decode cX3_copyFrom 44 = .ok (.getfield 21, 3) := by decide +kernel
theorem dX3_copyFrom_47 : decode cX3_copyFrom 47 = .ok (.iload_n 2, 1) := by decide +kernel
theorem dX3_copyFrom_48 : decode cX3_copyFrom 48 = .ok (.aload_n 1, 1) := by decide +kernel
theorem dX3_copyFrom_49 : decode cX3_copyFrom 49 = .ok (.getfield 21, 3) := by decide +kernel
theorem dX3_copyFrom_52 : decode cX3_copyFrom 52 = .ok (.iload_n 2, 1) := by decide +kernel
theorem dX3_copyFrom_53 : decode cX3_copyFrom 53 = .ok (.iaload, 1) := by decide +kernel
theorem dX3_copyFrom_54 : decode cX3_copyFrom 54 = .ok (.iastore, 1) := by decide +kernel
theorem dX3_copyFrom_55 : decode cX3_copyFrom 55 = .ok (.aload_n 0, 1) := by decide +kernel
theorem dX3_copyFrom_56 : decode cX3_copyFrom 56 = .ok (.getfield 24, 3) := by decide +kernel
theorem dX3_copyFrom_59 : decode cX3_copyFrom 59 = .ok (.iload_n 2, 1) := by decide +kernel
theorem dX3_copyFrom_60 : decode cX3_copyFrom 60 = .ok (.aload_n 1, 1) := by decide +kernel
theorem dX3_copyFrom_61 : decode cX3_copyFrom 61 = .ok (.getfield 24, 3) := by decide +kernel
theorem dX3_copyFrom_64 : decode cX3_copyFrom 64 = .ok (.iload_n 2, 1) := by decide +kernel
theorem dX3_copyFrom_65 : decode cX3_copyFrom 65 = .ok (.baload, 1) := by decide +kernel
theorem dX3_copyFrom_66 : decode cX3_copyFrom 66 = .ok (.bastore, 1) := by decide +kernel
theorem dX3_copyFrom_67 : decode cX3_copyFrom 67 = .ok (.aload_n 0, 1) := by decide +kernel
theorem dX3_copyFrom_68 : decode cX3_copyFrom 68 = .ok (.getfield 28, 3) := by decide +kernel
theorem dX3_copyFrom_71 : decode cX3_copyFrom 71 = .ok (.iload_n 2, 1) := by decide +kernel
theorem dX3_copyFrom_72 : decode cX3_copyFrom 72 = .ok (.aload_n 1, 1) := by decide +kernel
theorem dX3_copyFrom_73 : decode cX3_copyFrom 73 = .ok (.getfield 28, 3) := by decide +kernel
theorem dX3_copyFrom_76 : decode cX3_copyFrom 76 = .ok (.iload_n 2, 1) := by decide +kernel
theorem dX3_copyFrom_77 : decode cX3_copyFrom 77 = .ok (.baload, 1) := by decide +kernel
theorem dX3_copyFrom_78 : decode cX3_copyFrom 78 = .ok (.bastore, 1) := by decide +kernel
theorem dX3_copyFrom_79 : decode cX3_copyFrom 79 = .ok (.iinc 2 1, 3) := by decide +kernel
theorem dX3_copyFrom_82 : decode cX3_copyFrom 82 = .ok (.goto (-80), 3) := by decide +kernel
theorem dX3_copyFrom_85 : decode cX3_copyFrom 85 = .ok (.return_, 1) := by decide +kernel
theorem dX3_put_0 : decode cX3_put 0 = .ok (.iload_n 1, 1) := by decide +kernel
theorem dX3_put_1 : decode cX3_put 1 = .ok (.invokestatic 31, 3) := by decide +kernel
theorem dX3_put_4 : decode cX3_put 4 = .ok (.ifCond .eq 46, 3) := by decide +kernel
theorem dX3_put_7 : decode cX3_put 7 = .ok (.aload_n 0, 1) := by decide +kernel
theorem dX3_put_8 : decode cX3_put 8 = .ok (.getfield 9, 3) := by decide +kernel
theorem dX3_put_11 : decode cX3_put 11 = .ok (.iload_n 1, 1) := by decide +kernel
theorem dX3_put_12 : decode cX3_put 12 = .ok (.iload_n 2, 1) := by decide +kernel
theorem dX3_put_13 : decode cX3_put 13 = .ok (.iastore, 1) := by decide +kernel
theorem dX3_put_14 : decode cX3_put 14 = .ok (.aload_n 0, 1) := by decide +kernel
theorem dX3_put_15 : decode cX3_put 15 = .ok (.getfield 15, 3) := by decide +kernel
theorem dX3_put_18 : decode cX3_put 18 = .ok (.iload_n 1, 1) := by decide +kernel
theorem dX3_put_19 : decode cX3_put 19 = .ok (.iload_n 3, 1) := by decide +kernel
theorem dX3_put_20 : decode cX3_put 20 = .ok (.iastore, 1) := by decide +kernel
theorem dX3_put_21 : decode cX3_put 21 = .ok (.aload_n 0, 1) := by decide +kernel
theorem dX3_put_22 : decode cX3_put 22 = .ok (.getfield 18, 3) := by decide +kernel
theorem dX3_put_25 : decode cX3_put 25 = .ok (.iload_n 1, 1) := by decide +kernel
theorem dX3_put_26 : decode cX3_put 26 = .ok (.iload 4, 2) := by decide +kernel
theorem dX3_put_28 : decode cX3_put 28 = .ok (.iastore, 1) := by decide +kernel
theorem dX3_put_29 : decode cX3_put 29 = .ok (.aload_n 0, 1) := by decide +kernel
theorem dX3_put_30 : decode cX3_put 30 = .ok (.getfield 21, 3) := by decide +kernel
theorem dX3_put_33 : decode cX3_put 33 = .ok (.iload_n 1, 1) := by decide +kernel
theorem dX3_put_34 : decode cX3_put 34 = .ok (.iconst 0, 1) := by decide +kernel
theorem dX3_put_35 : decode cX3_put 35 = .ok (.iastore, 1) := by decide +kernel
theorem dX3_put_36 : decode cX3_put 36 = .ok (.aload_n 0, 1) := by decide +kernel
theorem dX3_put_37 : decode cX3_put 37 = .ok (.getfield 24, 3) := by decide +kernel
theorem dX3_put_40 : decode cX3_put 40 = .ok (.iload_n 1, 1) := by decide +kernel
theorem dX3_put_41 : decode cX3_put 41 = .ok (.iconst 0, 1) := by decide +kernel
theorem dX3_put_42 : decode cX3_put 42 = .ok (.bastore, 1) := by decide +kernel
theorem dX3_put_43 : decode cX3_put 43 = .ok (.aload_n 0, 1) := by decide +kernel
theorem dX3_put_44 : decode cX3_put 44 = .ok (.getfield 28, 3) := by decide +kernel
theorem dX3_put_47 : decode cX3_put 47 = .ok (.iload_n 1, 1) := by decide +kernel
theorem dX3_put_48 : decode cX3_put 48 = .ok (.iconst 0, 1) := by decide +kernel
theorem dX3_put_49 : decode cX3_put 49 = .ok (.bastore, 1) := by decide +kernel
theorem dX3_put_50 : decode cX3_put 50 = .ok (.return_, 1) := by decide +kernel
theorem dX3_take_0 : decode cX3_take 0 = .ok (.aload_n 0, 1) := by decide +kernel
theorem dX3_take_1 : decode cX3_take 1 = .ok (.iload_n 1, 1) := by decide +kernel
theorem dX3_take_2 : decode cX3_take 2 = .ok (.iconst 0, 1) := by decide +kernel
theorem dX3_take_3 : decode cX3_take 3 = .ok (.iconst 0, 1) := by decide +kernel
theorem dX3_take_4 : decode cX3_take 4 = .ok (.iconst 0, 1) := by decide +kernel
theorem dX3_take_5 : decode cX3_take 5 = .ok (.invokevirtual 35, 3) := by decide +kernel
theorem dX3_take_8 : decode cX3_take 8 = .ok (.return_, 1) := by decide +kernel
theorem dX3_spoil_0 : decode cX3_spoil 0 = .ok (.iload_n 1, 1) := by decide +kernel
theorem dX3_spoil_1 : decode cX3_spoil 1 = .ok (.invokestatic 31, 3) := by decide +kernel
theorem dX3_spoil_4 : decode cX3_spoil 4 = .ok (.ifCond .eq 10, 3) := by decide +kernel
theorem dX3_spoil_7 : decode cX3_spoil 7 = .ok (.aload_n 0, 1) := by decide +kernel
theorem dX3_spoil_8 : decode cX3_spoil 8 = .ok (.getfield 24, 3) := by decide +kernel
theorem dX3_spoil_11 : decode cX3_spoil 11 = .ok (.iload_n 1, 1) := by decide +kernel
theorem dX3_spoil_12 : decode cX3_spoil 12 = .ok (.iconst 1, 1) := by decide +kernel
theorem dX3_spoil_13 : decode cX3_spoil 13 = .ok (.bastore, 1) := by decide +kernel
theorem dX3_spoil_14 : decode cX3_spoil 14 = .ok (.return_, 1) := by decide +kernel
theorem dX3_tellRead_0 : decode cX3_tellRead 0 = .ok (.iload_n 1, 1) := by decide +kernel
theorem dX3_tellRead_1 : decode cX3_tellRead 1 = .ok (.invokestatic 31, 3) := by decide +kernel
theorem dX3_tellRead_4 : decode cX3_tellRead 4 = .ok (.ifCond .eq 13, 3) := by decide +kernel
theorem dX3_tellRead_7 : decode cX3_tellRead 7 = .ok (.aload_n 0, 1) := by decide +kernel
theorem dX3_tellRead_8 : decode cX3_tellRead 8 = .ok (.getfield 21, 3) := by decide +kernel
theorem dX3_tellRead_11 : decode cX3_tellRead 11 = .ok (.iload_n 1, 1) := by decide +kernel
theorem dX3_tellRead_12 : decode cX3_tellRead 12 = .ok (.dup2, 1) := by decide +kernel
theorem dX3_tellRead_13 : decode cX3_tellRead 13 = .ok (.iaload, 1) := by decide +kernel
theorem dX3_tellRead_14 : decode cX3_tellRead 14 = .ok (.iconst 1, 1) := by decide +kernel
theorem dX3_tellRead_15 : decode cX3_tellRead 15 = .ok (.iadd, 1) := by decide +kernel
theorem dX3_tellRead_16 : decode cX3_tellRead 16 = .ok (.iastore, 1) := by decide +kernel
theorem dX3_tellRead_17 : decode cX3_tellRead 17 = .ok (.return_, 1) := by decide +kernel
theorem dX3_mapGoodOnes_0 : decode cX3_mapGoodOnes 0 = .ok (.iconst 0, 1) := by decide +kernel
theorem dX3_mapGoodOnes_1 : decode cX3_mapGoodOnes 1 = .ok (.istore_n 1, 1) := by decide +kernel
theorem dX3_mapGoodOnes_2 : decode cX3_mapGoodOnes 2 = .ok (.iload_n 1, 1) := by decide +kernel
theorem dX3_mapGoodOnes_3 : decode cX3_mapGoodOnes 3 = .ok (.iconst 4, 1) := by decide +kernel
theorem dX3_mapGoodOnes_4 : decode cX3_mapGoodOnes 4 = .ok (.if_icmp .ge 20, 3) := by decide +kernel
theorem dX3_mapGoodOnes_7 : decode cX3_mapGoodOnes 7 = .ok (.aload_n 0, 1) := by decide +kernel
theorem dX3_mapGoodOnes_8 : decode cX3_mapGoodOnes 8 = .ok (.getfield 28, 3) := by decide +kernel
theorem dX3_mapGoodOnes_11 : decode cX3_mapGoodOnes 11 = .ok (.iload_n 1, 1) := by decide +kernel
theorem dX3_mapGoodOnes_12 : decode cX3_mapGoodOnes 12 = .ok (.aload_n 0, 1) := by decide +kernel
theorem dX3_mapGoodOnes_13 : decode cX3_mapGoodOnes 13 = .ok (.iload_n 1, 1) := by decide +kernel
theorem dX3_mapGoodOnes_14 : decode cX3_mapGoodOnes 14 = .ok (.invokevirtual 39, 3) := by decide +kernel
theorem dX3_mapGoodOnes_17 : decode cX3_mapGoodOnes 17 = .ok (.bastore, 1) := by decide +kernel
theorem dX3_mapGoodOnes_18 : decode cX3_mapGoodOnes 18 = .ok (.iinc 1 1, 3) := by decide +kernel
theorem dX3_mapGoodOnes_21 : decode cX3_mapGoodOnes 21 = .ok (.goto (-19), 3) := by decide +kernel
theorem dX3_mapGoodOnes_24 : decode cX3_mapGoodOnes 24 = .ok (.return_, 1) := by decide +kernel
theorem dX3_unmapAll_0 : decode cX3_unmapAll 0 = .ok (.iconst 0, 1) := by decide +kernel
theorem dX3_unmapAll_1 : decode cX3_unmapAll 1 = .ok (.istore_n 1, 1) := by decide +kernel
theorem dX3_unmapAll_2 : decode cX3_unmapAll 2 = .ok (.iload_n 1, 1) := by decide +kernel
theorem dX3_unmapAll_3 : decode cX3_unmapAll 3 = .ok (.iconst 4, 1) := by decide +kernel
theorem dX3_unmapAll_4 : decode cX3_unmapAll 4 = .ok (.if_icmp .ge 16, 3) := by decide +kernel
theorem dX3_unmapAll_7 : decode cX3_unmapAll 7 = .ok (.aload_n 0, 1) := by decide +kernel
theorem dX3_unmapAll_8 : decode cX3_unmapAll 8 = .ok (.getfield 28, 3) := by decide +kernel
theorem dX3_unmapAll_11 : decode cX3_unmapAll 11 = .ok (.iload_n 1, 1) := by decide +kernel
theorem dX3_unmapAll_12 : decode cX3_unmapAll 12 = .ok (.iconst 0, 1) := by decide +kernel
theorem dX3_unmapAll_13 : decode cX3_unmapAll 13 = .ok (.bastore, 1) := by decide +kernel
theorem dX3_unmapAll_14 : decode cX3_unmapAll 14 = .ok (.iinc 1 1, 3) := by decide +kernel
theorem dX3_unmapAll_17 : decode cX3_unmapAll 17 = .ok (.goto (-15), 3) := by decide +kernel
theorem dX3_unmapAll_20 : decode cX3_unmapAll 20 = .ok (.return_, 1) := by decide +kernel
theorem dX3_isPlugged_0 : decode cX3_isPlugged 0 = .ok (.aload_n 0, 1) := by decide +kernel
theorem dX3_isPlugged_1 : decode cX3_isPlugged 1 = .ok (.getfield 9, 3) := by decide +kernel
theorem dX3_isPlugged_4 : decode cX3_isPlugged 4 = .ok (.iload_n 1, 1) := by decide +kernel
theorem dX3_isPlugged_5 : decode cX3_isPlugged 5 = .ok (.invokestatic 42, 3) := by decide +kernel
theorem dX3_isPlugged_8 : decode cX3_isPlugged 8 = .ok (.ifCond .le 7, 3) := by decide +kernel
theorem dX3_isPlugged_11 : decode cX3_isPlugged 11 = .ok (.iconst 1, 1) := by decide +kernel
theorem dX3_isPlugged_12 : decode cX3_isPlugged 12 = .ok (.goto 4, 3) := by decide +kernel
theorem dX3_isPlugged_15 : decode cX3_isPlugged 15 = .ok (.iconst 0, 1) := by decide +kernel
theorem dX3_isPlugged_16 : decode cX3_isPlugged 16 = .ok (.ireturn, 1) := by decide +kernel
theorem dX3_hasFailed_0 : decode cX3_hasFailed 0 = .ok (.iload_n 1, 1) := by decide +kernel
theorem dX3_hasFailed_1 : decode cX3_hasFailed 1 = .ok (.invokestatic 31, 3) := by decide +kernel
theorem dX3_hasFailed_4 : decode cX3_hasFailed 4 = .ok (.ifCond .eq 16, 3) := by decide +kernel
theorem dX3_hasFailed_7 : decode cX3_hasFailed 7 = .ok (.aload_n 0, 1) := by decide +kernel
theorem dX3_hasFailed_8 : decode cX3_hasFailed 8 = .ok (.getfield 24, 3) := by decide +kernel
theorem dX3_hasFailed_11 : decode cX3_hasFailed 11 = .ok (.iload_n 1, 1) := by decide +kernel
theorem dX3_hasFailed_12 : decode cX3_hasFailed 12 = .ok (.baload, 1) := by decide +kernel
theorem dX3_hasFailed_13 : decode cX3_hasFailed 13 = .ok (.ifCond .eq 7, 3) := by decide +kernel
theorem dX3_hasFailed_16 : decode cX3_hasFailed 16 = .ok (.iconst 1, 1) := by decide +kernel
theorem dX3_hasFailed_17 : decode cX3_hasFailed 17 = .ok (.goto 4, 3) := by decide +kernel
theorem dX3_hasFailed_20 : decode cX3_hasFailed 20 = .ok (.iconst 0, 1) := by decide +kernel
theorem dX3_hasFailed_21 : decode cX3_hasFailed 21 = .ok (.ireturn, 1) := by decide +kernel
theorem dX3_isMapped_0 : decode cX3_isMapped 0 = .ok (.iload_n 1, 1) := by decide +kernel
theorem dX3_isMapped_1 : decode cX3_isMapped 1 = .ok (.invokestatic 31, 3) := by decide +kernel
theorem dX3_isMapped_4 : decode cX3_isMapped 4 = .ok (.ifCond .eq 16, 3) := by decide +kernel
theorem dX3_isMapped_7 : decode cX3_isMapped 7 = .ok (.aload_n 0, 1) := by decide +kernel
theorem dX3_isMapped_8 : decode cX3_isMapped 8 = .ok (.getfield 28, 3) := by decide +kernel
theorem dX3_isMapped_11 : decode cX3_isMapped 11 = .ok (.iload_n 1, 1) := by decide +kernel
theorem dX3_isMapped_12 : decode cX3_isMapped 12 = .ok (.baload, 1) := by decide +kernel
theorem dX3_isMapped_13 : decode cX3_isMapped 13 = .ok (.ifCond .eq 7, 3) := by decide +kernel
theorem dX3_isMapped_16 : decode cX3_isMapped 16 = .ok (.iconst 1, 1) := by decide +kernel
theorem dX3_isMapped_17 : decode cX3_isMapped 17 = .ok (.goto 4, 3) := by decide +kernel
theorem dX3_isMapped_20 : decode cX3_isMapped 20 = .ok (.iconst 0, 1) := by decide +kernel
theorem dX3_isMapped_21 : decode cX3_isMapped 21 = .ok (.ireturn, 1) := by decide +kernel
theorem dX3_isGood_0 : decode cX3_isGood 0 = .ok (.iload_n 1, 1) := by decide +kernel
theorem dX3_isGood_1 : decode cX3_isGood 1 = .ok (.invokestatic 31, 3) := by decide +kernel
theorem dX3_isGood_4 : decode cX3_isGood 4 = .ok (.ifCond .eq 25, 3) := by decide +kernel
theorem dX3_isGood_7 : decode cX3_isGood 7 = .ok (.aload_n 0, 1) := by decide +kernel
theorem dX3_isGood_8 : decode cX3_isGood 8 = .ok (.getfield 9, 3) := by decide +kernel
theorem dX3_isGood_11 : decode cX3_isGood 11 = .ok (.iload_n 1, 1) := by decide +kernel
theorem dX3_isGood_12 : decode cX3_isGood 12 = .ok (.iaload, 1) := by decide +kernel
theorem dX3_isGood_13 : decode cX3_isGood 13 = .ok (.ifCond .le 16, 3) := by decide +kernel
theorem dX3_isGood_16 : decode cX3_isGood 16 = .ok (.aload_n 0, 1) := by decide +kernel
theorem dX3_isGood_17 : decode cX3_isGood 17 = .ok (.getfield 24, 3) := by decide +kernel
theorem dX3_isGood_20 : decode cX3_isGood 20 = .ok (.iload_n 1, 1) := by decide +kernel
theorem dX3_isGood_21 : decode cX3_isGood 21 = .ok (.baload, 1) := by decide +kernel
theorem dX3_isGood_22 : decode cX3_isGood 22 = .ok (.ifCond .ne 7, 3) := by decide +kernel
theorem dX3_isGood_25 : decode cX3_isGood 25 = .ok (.iconst 1, 1) := by decide +kernel
theorem dX3_isGood_26 : decode cX3_isGood 26 = .ok (.goto 4, 3) := by decide +kernel
theorem dX3_isGood_29 : decode cX3_isGood 29 = .ok (.iconst 0, 1) := by decide +kernel
theorem dX3_isGood_30 : decode cX3_isGood 30 = .ok (.ireturn, 1) := by decide +kernel
theorem dX3_isLeft_0 : decode cX3_isLeft 0 = .ok (.iload_n 1, 1) := by decide +kernel
theorem dX3_isLeft_1 : decode cX3_isLeft 1 = .ok (.invokestatic 31, 3) := by decide +kernel
theorem dX3_isLeft_4 : decode cX3_isLeft 4 = .ok (.ifCond .eq 25, 3) := by decide +kernel
theorem dX3_isLeft_7 : decode cX3_isLeft 7 = .ok (.aload_n 0, 1) := by decide +kernel
theorem dX3_isLeft_8 : decode cX3_isLeft 8 = .ok (.getfield 28, 3) := by decide +kernel
theorem dX3_isLeft_11 : decode cX3_isLeft 11 = .ok (.iload_n 1, 1) := by decide +kernel
theorem dX3_isLeft_12 : decode cX3_isLeft 12 = .ok (.baload, 1) := by decide +kernel
theorem dX3_isLeft_13 : decode cX3_isLeft 13 = .ok (.ifCond .eq 16, 3) := by decide +kernel
theorem dX3_isLeft_16 : decode cX3_isLeft 16 = .ok (.aload_n 0, 1) := by decide +kernel
theorem dX3_isLeft_17 : decode cX3_isLeft 17 = .ok (.getfield 24, 3) := by decide +kernel
theorem dX3_isLeft_20 : decode cX3_isLeft 20 = .ok (.iload_n 1, 1) := by decide +kernel
theorem dX3_isLeft_21 : decode cX3_isLeft 21 = .ok (.baload, 1) := by decide +kernel
theorem dX3_isLeft_22 : decode cX3_isLeft 22 = .ok (.ifCond .ne 7, 3) := by decide +kernel
theorem dX3_isLeft_25 : decode cX3_isLeft 25 = .ok (.iconst 1, 1) := by decide +kernel
theorem dX3_isLeft_26 : decode cX3_isLeft 26 = .ok (.goto 4, 3) := by decide +kernel
theorem dX3_isLeft_29 : decode cX3_isLeft 29 = .ok (.iconst 0, 1) := by decide +kernel
theorem dX3_isLeft_30 : decode cX3_isLeft 30 = .ok (.ireturn, 1) := by decide +kernel
theorem dX3_pluggedOnes_0 : decode cX3_pluggedOnes 0 = .ok (.iconst 0, 1) := by decide +kernel
theorem dX3_pluggedOnes_1 : decode cX3_pluggedOnes 1 = .ok (.istore_n 1, 1) := by decide +kernel
theorem dX3_pluggedOnes_2 : decode cX3_pluggedOnes 2 = .ok (.iconst 0, 1) := by decide +kernel
theorem dX3_pluggedOnes_3 : decode cX3_pluggedOnes 3 = .ok (.istore_n 2, 1) := by decide +kernel
theorem dX3_pluggedOnes_4 : decode cX3_pluggedOnes 4 = .ok (.iload_n 2, 1) := by decide +kernel
theorem dX3_pluggedOnes_5 : decode cX3_pluggedOnes 5 = .ok (.iconst 4, 1) := by decide +kernel
theorem dX3_pluggedOnes_6 : decode cX3_pluggedOnes 6 = .ok (.if_icmp .ge 25, 3) := by decide +kernel
theorem dX3_pluggedOnes_9 : decode cX3_pluggedOnes 9 = .ok (.iload_n 1, 1) := by decide +kernel
theorem dX3_pluggedOnes_10 : decode cX3_pluggedOnes 10 = .ok (.aload_n 0, 1) := by decide +kernel
theorem dX3_pluggedOnes_11 : decode cX3_pluggedOnes 11 = .ok (.iload_n 2, 1) := by decide +kernel
theorem dX3_pluggedOnes_12 : decode cX3_pluggedOnes 12 = .ok (.invokevirtual 46, 3) := by decide +kernel
theorem dX3_pluggedOnes_15 : decode cX3_pluggedOnes 15 = .ok (.ifCond .eq 7, 3) := by decide +kernel
theorem dX3_pluggedOnes_18 : decode cX3_pluggedOnes 18 = .ok (.iconst 1, 1) := by decide +kernel
theorem dX3_pluggedOnes_19 : decode cX3_pluggedOnes 19 = .ok (.goto 4, 3) := by decide +kernel
theorem dX3_pluggedOnes_22 : decode cX3_pluggedOnes 22 = .ok (.iconst 0, 1) := by decide +kernel
theorem dX3_pluggedOnes_23 : decode cX3_pluggedOnes 23 = .ok (.iadd, 1) := by decide +kernel
theorem dX3_pluggedOnes_24 : decode cX3_pluggedOnes 24 = .ok (.istore_n 1, 1) := by decide +kernel
theorem dX3_pluggedOnes_25 : decode cX3_pluggedOnes 25 = .ok (.iinc 2 1, 3) := by decide +kernel
theorem dX3_pluggedOnes_28 : decode cX3_pluggedOnes 28 = .ok (.goto (-24), 3) := by decide +kernel
theorem dX3_pluggedOnes_31 : decode cX3_pluggedOnes 31 = .ok (.iload_n 1, 1) := by decide +kernel
theorem dX3_pluggedOnes_32 : decode cX3_pluggedOnes 32 = .ok (.ireturn, 1) := by decide +kernel
theorem dX3_failedOnes_0 : decode cX3_failedOnes 0 = .ok (.iconst 0, 1) := by decide +kernel
theorem dX3_failedOnes_1 : decode cX3_failedOnes 1 = .ok (.istore_n 1, 1) := by decide +kernel
theorem dX3_failedOnes_2 : decode cX3_failedOnes 2 = .ok (.iconst 0, 1) := by decide +kernel
theorem dX3_failedOnes_3 : decode cX3_failedOnes 3 = .ok (.istore_n 2, 1) := by decide +kernel
theorem dX3_failedOnes_4 : decode cX3_failedOnes 4 = .ok (.iload_n 2, 1) := by decide +kernel
theorem dX3_failedOnes_5 : decode cX3_failedOnes 5 = .ok (.iconst 4, 1) := by decide +kernel
theorem dX3_failedOnes_6 : decode cX3_failedOnes 6 = .ok (.if_icmp .ge 25, 3) := by decide +kernel
theorem dX3_failedOnes_9 : decode cX3_failedOnes 9 = .ok (.iload_n 1, 1) := by decide +kernel
theorem dX3_failedOnes_10 : decode cX3_failedOnes 10 = .ok (.aload_n 0, 1) := by decide +kernel
theorem dX3_failedOnes_11 : decode cX3_failedOnes 11 = .ok (.iload_n 2, 1) := by decide +kernel
theorem dX3_failedOnes_12 : decode cX3_failedOnes 12 = .ok (.invokevirtual 49, 3) := by decide +kernel
theorem dX3_failedOnes_15 : decode cX3_failedOnes 15 = .ok (.ifCond .eq 7, 3) := by decide +kernel
theorem dX3_failedOnes_18 : decode cX3_failedOnes 18 = .ok (.iconst 1, 1) := by decide +kernel
theorem dX3_failedOnes_19 : decode cX3_failedOnes 19 = .ok (.goto 4, 3) := by decide +kernel
theorem dX3_failedOnes_22 : decode cX3_failedOnes 22 = .ok (.iconst 0, 1) := by decide +kernel
theorem dX3_failedOnes_23 : decode cX3_failedOnes 23 = .ok (.iadd, 1) := by decide +kernel
theorem dX3_failedOnes_24 : decode cX3_failedOnes 24 = .ok (.istore_n 1, 1) := by decide +kernel
theorem dX3_failedOnes_25 : decode cX3_failedOnes 25 = .ok (.iinc 2 1, 3) := by decide +kernel
theorem dX3_failedOnes_28 : decode cX3_failedOnes 28 = .ok (.goto (-24), 3) := by decide +kernel
theorem dX3_failedOnes_31 : decode cX3_failedOnes 31 = .ok (.iload_n 1, 1) := by decide +kernel
theorem dX3_failedOnes_32 : decode cX3_failedOnes 32 = .ok (.ireturn, 1) := by decide +kernel
theorem dX3_sizeIn_0 : decode cX3_sizeIn 0 = .ok (.aload_n 0, 1) := by decide +kernel
theorem dX3_sizeIn_1 : decode cX3_sizeIn 1 = .ok (.getfield 9, 3) := by decide +kernel
theorem dX3_sizeIn_4 : decode cX3_sizeIn 4 = .ok (.iload_n 1, 1) := by decide +kernel
theorem dX3_sizeIn_5 : decode cX3_sizeIn 5 = .ok (.invokestatic 42, 3) := by decide +kernel
theorem dX3_sizeIn_8 : decode cX3_sizeIn 8 = .ok (.ireturn, 1) := by decide +kernel
theorem dX3_ranksIn_0 : decode cX3_ranksIn 0 = .ok (.aload_n 0, 1) := by decide +kernel
theorem dX3_ranksIn_1 : decode cX3_ranksIn 1 = .ok (.getfield 15, 3) := by decide +kernel
theorem dX3_ranksIn_4 : decode cX3_ranksIn 4 = .ok (.iload_n 1, 1) := by decide +kernel
theorem dX3_ranksIn_5 : decode cX3_ranksIn 5 = .ok (.invokestatic 42, 3) := by decide +kernel
theorem dX3_ranksIn_8 : decode cX3_ranksIn 8 = .ok (.ireturn, 1) := by decide +kernel
theorem dX3_delayIn_0 : decode cX3_delayIn 0 = .ok (.aload_n 0, 1) := by decide +kernel
theorem dX3_delayIn_1 : decode cX3_delayIn 1 = .ok (.getfield 18, 3) := by decide +kernel
theorem dX3_delayIn_4 : decode cX3_delayIn 4 = .ok (.iload_n 1, 1) := by decide +kernel
theorem dX3_delayIn_5 : decode cX3_delayIn 5 = .ok (.invokestatic 42, 3) := by decide +kernel
theorem dX3_delayIn_8 : decode cX3_delayIn 8 = .ok (.ireturn, 1) := by decide +kernel
theorem dX3_readsIn_0 : decode cX3_readsIn 0 = .ok (.aload_n 0, 1) := by decide +kernel
theorem dX3_readsIn_1 : decode cX3_readsIn 1 = .ok (.getfield 21, 3) := by decide +kernel
theorem dX3_readsIn_4 : decode cX3_readsIn 4 = .ok (.iload_n 1, 1) := by decide +kernel
theorem dX3_readsIn_5 : decode cX3_readsIn 5 = .ok (.invokestatic 42, 3) := by decide +kernel
theorem dX3_readsIn_8 : decode cX3_readsIn 8 = .ok (.ireturn, 1) := by decide +kernel
theorem dX3_goodSizeIn_0 : decode cX3_goodSizeIn 0 = .ok (.aload_n 0, 1) := by decide +kernel
theorem dX3_goodSizeIn_1 : decode cX3_goodSizeIn 1 = .ok (.iload_n 1, 1) := by decide +kernel
theorem dX3_goodSizeIn_2 : decode cX3_goodSizeIn 2 = .ok (.invokevirtual 39, 3) := by decide +kernel
theorem dX3_goodSizeIn_5 : decode cX3_goodSizeIn 5 = .ok (.ifCond .eq 14, 3) := by decide +kernel
theorem dX3_goodSizeIn_8 : decode cX3_goodSizeIn 8 = .ok (.aload_n 0, 1) := by decide +kernel
theorem dX3_goodSizeIn_9 : decode cX3_goodSizeIn 9 = .ok (.getfield 9, 3) := by decide +kernel
theorem dX3_goodSizeIn_12 : decode cX3_goodSizeIn 12 = .ok (.iload_n 1, 1) := by decide +kernel
theorem dX3_goodSizeIn_13 : decode cX3_goodSizeIn 13 = .ok (.invokestatic 42, 3) := by decide +kernel
theorem dX3_goodSizeIn_16 : decode cX3_goodSizeIn 16 = .ok (.goto 4, 3) := by decide +kernel
theorem dX3_goodSizeIn_19 : decode cX3_goodSizeIn 19 = .ok (.iconst 0, 1) := by decide +kernel
theorem dX3_goodSizeIn_20 : decode cX3_goodSizeIn 20 = .ok (.ireturn, 1) := by decide +kernel
theorem dX3_rankOf_0 : decode cX3_rankOf 0 = .ok (.aload_n 0, 1) := by decide +kernel
theorem dX3_rankOf_1 : decode cX3_rankOf 1 = .ok (.getfield 15, 3) := by decide +kernel
theorem dX3_rankOf_4 : decode cX3_rankOf 4 = .ok (.iload_n 1, 1) := by decide +kernel
theorem dX3_rankOf_5 : decode cX3_rankOf 5 = .ok (.invokestatic 42, 3) := by decide +kernel
theorem dX3_rankOf_8 : decode cX3_rankOf 8 = .ok (.iconst 2, 1) := by decide +kernel
theorem dX3_rankOf_9 : decode cX3_rankOf 9 = .ok (.if_icmp .ne 9, 3) := by decide +kernel
theorem dX3_rankOf_12 : decode cX3_rankOf 12 = .ok (.iload_n 2, 1) := by decide +kernel
theorem dX3_rankOf_13 : decode cX3_rankOf 13 = .ok (.iconst 1, 1) := by decide +kernel
theorem dX3_rankOf_14 : decode cX3_rankOf 14 = .ok (.iand, 1) := by decide +kernel
theorem dX3_rankOf_15 : decode cX3_rankOf 15 = .ok (.goto 4, 3) := by decide +kernel
theorem dX3_rankOf_18 : decode cX3_rankOf 18 = .ok (.iconst 0, 1) := by decide +kernel
theorem dX3_rankOf_19 : decode cX3_rankOf 19 = .ok (.ireturn, 1) := by decide +kernel
theorem dX3_rankRow_0 : decode cX3_rankRow 0 = .ok (.iconst 2, 1) := by decide +kernel
theorem dX3_rankRow_1 : decode cX3_rankRow 1 = .ok (.iload_n 1, 1) := by decide +kernel
theorem dX3_rankRow_2 : decode cX3_rankRow 2 = .ok (.imul, 1) := by decide +kernel
theorem dX3_rankRow_3 : decode cX3_rankRow 3 = .ok (.aload_n 0, 1) := by decide +kernel
theorem dX3_rankRow_4 : decode cX3_rankRow 4 = .ok (.iload_n 1, 1) := by decide +kernel
theorem dX3_rankRow_5 : decode cX3_rankRow 5 = .ok (.iload_n 2, 1) := by decide +kernel
theorem dX3_rankRow_6 : decode cX3_rankRow 6 = .ok (.invokevirtual 52, 3) := by decide +kernel
theorem dX3_rankRow_9 : decode cX3_rankRow 9 = .ok (.iadd, 1) := by decide +kernel
theorem dX3_rankRow_10 : decode cX3_rankRow 10 = .ok (.ireturn, 1) := by decide +kernel
theorem dX3_hindrance_0 : decode cX3_hindrance 0 = .ok (.aload_n 0, 1) := by decide +kernel
theorem dX3_hindrance_1 : decode cX3_hindrance 1 = .ok (.iconst 0, 1) := by decide +kernel
theorem dX3_hindrance_2 : decode cX3_hindrance 2 = .ok (.invokevirtual 56, 3) := by decide +kernel
theorem dX3_hindrance_5 : decode cX3_hindrance 5 = .ok (.aload_n 0, 1) := by decide +kernel
theorem dX3_hindrance_6 : decode cX3_hindrance 6 = .ok (.iconst 1, 1) := by decide +kernel
theorem dX3_hindrance_7 : decode cX3_hindrance 7 = .ok (.invokevirtual 56, 3) := by decide +kernel
theorem dX3_hindrance_10 : decode cX3_hindrance 10 = .ok (.iadd, 1) := by decide +kernel
theorem dX3_hindrance_11 : decode cX3_hindrance 11 = .ok (.istore_n 2, 1) := by decide +kernel
theorem dX3_hindrance_12 : decode cX3_hindrance 12 = .ok (.aload_n 0, 1) := by decide +kernel
theorem dX3_hindrance_13 : decode cX3_hindrance 13 = .ok (.iconst 2, 1) := by decide +kernel
theorem dX3_hindrance_14 : decode cX3_hindrance 14 = .ok (.invokevirtual 56, 3) := by decide +kernel
theorem dX3_hindrance_17 : decode cX3_hindrance 17 = .ok (.aload_n 0, 1) := by decide +kernel
theorem dX3_hindrance_18 : decode cX3_hindrance 18 = .ok (.iconst 3, 1) := by decide +kernel
theorem dX3_hindrance_19 : decode cX3_hindrance 19 = .ok (.invokevirtual 56, 3) := by decide +kernel
theorem dX3_hindrance_22 : decode cX3_hindrance 22 = .ok (.iadd, 1) := by decide +kernel
theorem dX3_hindrance_23 : decode cX3_hindrance 23 = .ok (.istore_n 3, 1) := by decide +kernel
theorem dX3_hindrance_24 : decode cX3_hindrance 24 = .ok (.iload_n 2, 1) := by decide +kernel
theorem dX3_hindrance_25 : decode cX3_hindrance 25 = .ok (.iload_n 3, 1) := by decide +kernel
theorem dX3_hindrance_26 : decode cX3_hindrance 26 = .ok (.iadd, 1) := by decide +kernel
theorem dX3_hindrance_27 : decode cX3_hindrance 27 = .ok (.ifCond .ne 5, 3) := by decide +kernel
theorem dX3_hindrance_30 : decode cX3_hindrance 30 = .ok (.iconst 1, 1) := by decide +kernel
theorem dX3_hindrance_31 : decode cX3_hindrance 31 = .ok (.ireturn, 1) := by decide +kernel
theorem dX3_hindrance_32 : decode cX3_hindrance 32 = .ok (.iload_n 1, 1) := by decide +kernel
theorem dX3_hindrance_33 : decode cX3_hindrance 33 = .ok (.iconst 2, 1) := by decide +kernel
theorem dX3_hindrance_34 : decode cX3_hindrance 34 = .ok (.if_icmp .ne 15, 3) := by decide +kernel
theorem dX3_hindrance_37 : decode cX3_hindrance 37 = .ok (.iload_n 2, 1) := by decide +kernel
theorem dX3_hindrance_38 : decode cX3_hindrance 38 = .ok (.ifCond .eq 7, 3) := by decide +kernel
theorem dX3_hindrance_41 : decode cX3_hindrance 41 = .ok (.iload_n 3, 1) := by decide +kernel
theorem dX3_hindrance_42 : decode cX3_hindrance 42 = .ok (.ifCond .ne 7, 3) := by decide +kernel
theorem dX3_hindrance_45 : decode cX3_hindrance 45 = .ok (.iconst 2, 1) := by decide +kernel
theorem dX3_hindrance_46 : decode cX3_hindrance 46 = .ok (.goto 4, 3) := by decide +kernel
theorem dX3_hindrance_49 : decode cX3_hindrance 49 = .ok (.iconst 0, 1) := by decide +kernel
theorem dX3_hindrance_50 : decode cX3_hindrance 50 = .ok (.ireturn, 1) := by decide +kernel
theorem dX3_wideIfChanged_0 : decode cX3_wideIfChanged 0 = .ok (.iconst 0, 1) := by decide +kernel
theorem dX3_wideIfChanged_1 : decode cX3_wideIfChanged 1 = .ok (.istore_n 3, 1) := by decide +kernel
theorem dX3_wideIfChanged_2 : decode cX3_wideIfChanged 2 = .ok (.iconst 0, 1) := by decide +kernel
theorem dX3_wideIfChanged_3 : decode cX3_wideIfChanged 3 = .ok (.istore 4, 2) := by decide +kernel
theorem dX3_wideIfChanged_5 : decode cX3_wideIfChanged 5 = .ok (.iconst 0, 1) := by decide +kernel
theorem dX3_wideIfChanged_6 : decode cX3_wideIfChanged 6 = .ok (.istore 5, 2) := by decide +kernel
theorem dX3_wideIfChanged_8 : decode cX3_wideIfChanged 8 = .ok (.iload 5, 2) := by decide +kernel
theorem dX3_wideIfChanged_10 : decode cX3_wideIfChanged 10 = .ok (.iconst 4, 1) := by decide +kernel
theorem dX3_wideIfChanged_11 : decode cX3_wideIfChanged 11 = .ok (.if_icmp .ge 62, 3) := by decide +kernel
theorem dX3_wideIfChanged_14 : decode cX3_wideIfChanged 14 = .ok (.iload 5, 2) := by decide +kernel
theorem dX3_wideIfChanged_16 : decode cX3_wideIfChanged 16 = .ok (.iload_n 1, 1) := by decide +kernel
theorem dX3_wideIfChanged_17 : decode cX3_wideIfChanged 17 = .ok (.if_icmp .ne 7, 3) := by decide +kernel
theorem dX3_wideIfChanged_20 : decode cX3_wideIfChanged 20 = .ok (.iload_n 2, 1) := by decide +kernel
theorem dX3_wideIfChanged_21 : decode cX3_wideIfChanged 21 = .ok (.goto 15, 3) := by decide +kernel
theorem dX3_wideIfChanged_24 : decode cX3_wideIfChanged 24 = .ok (.iload 5, 2) := by decide +kernel
theorem dX3_wideIfChanged_26 : decode cX3_wideIfChanged 26 = .ok (.iload_n 2, 1) := by decide +kernel
theorem dX3_wideIfChanged_27 : decode cX3_wideIfChanged 27 = .ok (.if_icmp .ne 7, 3) := by decide +kernel
theorem dX3_wideIfChanged_30 : decode cX3_wideIfChanged 30 = .ok (.iload_n 1, 1) := by decide +kernel
theorem dX3_wideIfChanged_31 : decode cX3_wideIfChanged 31 = .ok (.goto 5, 3) := by decide +kernel
theorem dX3_wideIfChanged_34 : decode cX3_wideIfChanged 34 = .ok (.iload 5, 2) := by decide +kernel
theorem dX3_wideIfChanged_36 : decode cX3_wideIfChanged 36 = .ok (.istore 6, 2) := by decide +kernel
theorem dX3_wideIfChanged_38 : decode cX3_wideIfChanged 38 = .ok (.iload 5, 2) := by decide +kernel
theorem dX3_wideIfChanged_40 : decode cX3_wideIfChanged 40 = .ok (.iconst 2, 1) := by decide +kernel
theorem dX3_wideIfChanged_41 : decode cX3_wideIfChanged 41 = .ok (.if_icmp .ge 15, 3) := by decide +kernel
theorem dX3_wideIfChanged_44 : decode cX3_wideIfChanged 44 = .ok (.iload_n 3, 1) := by decide +kernel
theorem dX3_wideIfChanged_45 : decode cX3_wideIfChanged 45 = .ok (.aload_n 0, 1) := by decide +kernel
theorem dX3_wideIfChanged_46 : decode cX3_wideIfChanged 46 = .ok (.iload 6, 2) := by decide +kernel
theorem dX3_wideIfChanged_48 : decode cX3_wideIfChanged 48 = .ok (.invokevirtual 56, 3) := by decide +kernel
theorem dX3_wideIfChanged_51 : decode cX3_wideIfChanged 51 = .ok (.iadd, 1) := by decide +kernel
theorem dX3_wideIfChanged_52 : decode cX3_wideIfChanged 52 = .ok (.istore_n 3, 1) := by decide +kernel
theorem dX3_wideIfChanged_53 : decode cX3_wideIfChanged 53 = .ok (.goto 14, 3) := by decide +kernel
theorem dX3_wideIfChanged_56 : decode cX3_wideIfChanged 56 = .ok (.iload 4, 2) := by decide +kernel
theorem dX3_wideIfChanged_58 : decode cX3_wideIfChanged 58 = .ok (.aload_n 0, 1) := by decide +kernel
theorem dX3_wideIfChanged_59 : decode cX3_wideIfChanged 59 = .ok (.iload 6, 2) := by decide +kernel
theorem dX3_wideIfChanged_61 : decode cX3_wideIfChanged 61 = .ok (.invokevirtual 56, 3) := by decide +kernel
theorem dX3_wideIfChanged_64 : decode cX3_wideIfChanged 64 = .ok (.iadd, 1) := by decide +kernel
theorem dX3_wideIfChanged_65 : decode cX3_wideIfChanged 65 = .ok (.istore 4, 2) := by decide +kernel
theorem dX3_wideIfChanged_67 : decode cX3_wideIfChanged 67 = .ok (.iinc 5 1, 3) := by decide +kernel
theorem dX3_wideIfChanged_70 : decode cX3_wideIfChanged 70 = .ok (.goto (-62), 3) := by decide +kernel
theorem dX3_wideIfChanged_73 : decode cX3_wideIfChanged 73 = .ok (.iconst 2, 1) := by decide +kernel
theorem dX3_wideIfChanged_74 : decode cX3_wideIfChanged 74 = .ok (.iload_n 3, 1) := by decide +kernel
theorem dX3_wideIfChanged_75 : decode cX3_wideIfChanged 75 = .ok (.iload 4, 2) := by decide +kernel
theorem dX3_wideIfChanged_77 : decode cX3_wideIfChanged 77 = .ok (.invokestatic 60, 3) := by decide +kernel
theorem dX3_wideIfChanged_80 : decode cX3_wideIfChanged 80 = .ok (.imul, 1) := by decide +kernel
theorem dX3_wideIfChanged_81 : decode cX3_wideIfChanged 81 = .ok (.ireturn, 1) := by decide +kernel
theorem dX4_init_0 : decode cX4_init 0 = .ok (.aload_n 0, 1) := by decide +kernel
theorem dX4_init_1 : decode cX4_init 1 = .ok (.invokespecial 3, 3) := by decide +kernel
theorem dX4_init_4 : decode cX4_init 4 = .ok (.aload_n 0, 1) := by decide +kernel
theorem dX4_init_5 : decode cX4_init 5 = .ok (.bipush 60, 2) := by decide +kernel
theorem dX4_init_7 : decode cX4_init 7 = .ok (.newarray .int, 2) := by decide +kernel
theorem dX4_init_9 : decode cX4_init 9 = .ok (.putfield 9, 3) := by decide +kernel
theorem dX4_init_12 : decode cX4_init 12 = .ok (.aload_n 0, 1) := by decide +kernel
theorem dX4_init_13 : decode cX4_init 13 = .ok (.bipush 30, 2) := by decide +kernel
theorem dX4_init_15 : decode cX4_init 15 = .ok (.newarray .int, 2) := by decide +kernel
theorem dX4_init_17 : decode cX4_init 17 = .ok (.putfield 15, 3) := by decide +kernel
theorem dX4_init_20 : decode cX4_init 20 = .ok (.aload_n 0, 1) := by decide +kernel
theorem dX4_init_21 : decode cX4_init 21 = .ok (.bipush 30, 2) := by decide +kernel
theorem dX4_init_23 : decode cX4_init 23 = .ok (.newarray .int, 2) := by decide +kernel
theorem dX4_init_25 : decode cX4_init 25 = .ok (.putfield 18, 3) := by decide +kernel
theorem dX4_init_28 : decode cX4_init 28 = .ok (.return_, 1) := by decide +kernel
theorem dX4_isFull_0 : decode cX4_isFull 0 = .ok (.aload_n 0, 1) := by decide +kernel
theorem dX4_isFull_1 : decode cX4_isFull 1 = .ok (.getfield 21, 3) := by decide +kernel
theorem dX4_isFull_4 : decode cX4_isFull 4 = .ok (.bipush 60, 2) := by decide +kernel
theorem dX4_isFull_6 : decode cX4_isFull 6 = .ok (.if_icmp .lt 7, 3) := by decide +kernel
theorem dX4_isFull_9 : decode cX4_isFull 9 = .ok (.iconst 1, 1) := by decide +kernel
theorem dX4_isFull_10 : decode cX4_isFull 10 = .ok (.goto 4, 3) := by decide +kernel
theorem dX4_isFull_13 : decode cX4_isFull 13 = .ok (.iconst 0, 1) := by decide +kernel
theorem dX4_isFull_14 : decode cX4_isFull 14 = .ok (.ireturn, 1) := by decide +kernel
theorem dX4_add_0 : decode cX4_add 0 = .ok (.aload_n 0, 1) := by decide +kernel
theorem dX4_add_1 : decode cX4_add 1 = .ok (.getfield 21, 3) := by decide +kernel
theorem dX4_add_4 : decode cX4_add 4 = .ok (.ifCond .lt 32, 3) := by decide +kernel
theorem dX4_add_7 : decode cX4_add 7 = .ok (.aload_n 0, 1) := by decide +kernel
theorem dX4_add_8 : decode cX4_add 8 = .ok (.getfield 21, 3) := by decide +kernel
theorem dX4_add_11 : decode cX4_add 11 = .ok (.bipush 60, 2) := by decide +kernel
theorem dX4_add_13 : decode cX4_add 13 = .ok (.if_icmp .ge 23, 3) := by decide +kernel
theorem dX4_add_16 : decode cX4_add 16 = .ok (.aload_n 0, 1) := by decide +kernel
theorem dX4_add_17 : decode cX4_add 17 = .ok (.getfield 9, 3) := by decide +kernel
theorem dX4_add_20 : decode cX4_add 20 = .ok (.aload_n 0, 1) := by decide +kernel
theorem dX4_add_21 : decode cX4_add 21 = .ok (.getfield 21, 3) := by decide +kernel
theorem dX4_add_24 : decode cX4_add 24 = .ok (.iload_n 1, 1) := by decide +kernel
theorem dX4_add_25 : decode cX4_add 25 = .ok (.iastore, 1) := by decide +kernel
theorem dX4_add_26 : decode cX4_add 26 = .ok (.aload_n 0, 1) := by decide +kernel
theorem dX4_add_27 : decode cX4_add 27 = .ok (.dup, 1) := by decide +kernel
theorem dX4_add_28 : decode cX4_add 28 = .ok (.getfield 21, 3) := by decide +kernel
theorem dX4_add_31 : decode cX4_add 31 = .ok (.iconst 1, 1) := by decide +kernel
theorem dX4_add_32 : decode cX4_add 32 = .ok (.iadd, 1) := by decide +kernel
theorem dX4_add_33 : decode cX4_add 33 = .ok (.putfield 21, 3) := by decide +kernel
theorem dX4_add_36 : decode cX4_add 36 = .ok (.return_, 1) := by decide +kernel
theorem dX4_empty_0 : decode cX4_empty 0 = .ok (.aload_n 0, 1) := by decide +kernel
theorem dX4_empty_1 : decode cX4_empty 1 = .ok (.iconst 0, 1) := by decide +kernel
theorem dX4_empty_2 : decode cX4_empty 2 = .ok (.putfield 21, 3) := by decide +kernel
theorem dX4_empty_5 : decode cX4_empty 5 = .ok (.return_, 1) := by decide +kernel
theorem dX4_scan_0 : decode cX4_scan 0 = .ok (.aload_n 0, 1) := by decide +kernel
theorem dX4_scan_1 : decode cX4_scan 1 = .ok (.iconst 0, 1) := by decide +kernel
theorem dX4_scan_2 : decode cX4_scan 2 = .ok (.putfield 25, 3) := by decide +kernel
theorem dX4_scan_5 : decode cX4_scan 5 = .ok (.aload_n 0, 1) := by decide +kernel
theorem dX4_scan_6 : decode cX4_scan 6 = .ok (.iconst 0, 1) := by decide +kernel
theorem dX4_scan_7 : decode cX4_scan 7 = .ok (.putfield 28, 3) := by decide +kernel
theorem dX4_scan_10 : decode cX4_scan 10 = .ok (.aload_n 0, 1) := by decide +kernel
theorem dX4_scan_11 : decode cX4_scan 11 = .ok (.iconst (-1), 1) := by decide +kernel
theorem dX4_scan_12 : decode cX4_scan 12 = .ok (.putfield 32, 3) := by decide +kernel
theorem dX4_scan_15 : decode cX4_scan 15 = .ok (.iconst 0, 1) := by decide +kernel
theorem dX4_scan_16 : decode cX4_scan 16 = .ok (.istore_n 1, 1) := by decide +kernel
theorem dX4_scan_17 : decode cX4_scan 17 = .ok (.iload_n 1, 1) := by decide +kernel
theorem dX4_scan_18 : decode cX4_scan 18 = .ok (.aload_n 0, 1) := by decide +kernel
theorem dX4_scan_19 : decode cX4_scan 19 = .ok (.getfield 21, 3) := by decide +kernel
theorem dX4_scan_22 : decode cX4_scan 22 = .ok (.if_icmp .ge 26, 3) := by decide +kernel
theorem dX4_scan_25 : decode cX4_scan 25 = .ok (.aload_n 0, 1) := by decide +kernel
theorem dX4_scan_26 : decode cX4_scan 26 = .ok (.aload_n 0, 1) := by decide +kernel
theorem dX4_scan_27 : decode cX4_scan 27 = .ok (.getfield 9, 3) := by decide +kernel
theorem dX4_scan_30 : decode cX4_scan 30 = .ok (.iload_n 1, 1) := by decide +kernel
theorem dX4_scan_31 : decode cX4_scan 31 = .ok (.invokestatic 35, 3) := by decide +kernel
theorem dX4_scan_34 : decode cX4_scan 34 = .ok (.invokevirtual 39, 3) := by decide +kernel
theorem dX4_scan_37 : decode cX4_scan 37 = .ok (.ifCond .ne 5, 3) := by decide +kernel
theorem dX4_scan_40 : decode cX4_scan 40 = .ok (.iload_n 1, 1) := by decide +kernel
theorem dX4_scan_41 : decode cX4_scan 41 = .ok (.ireturn, 1) := by decide +kernel
theorem dX4_scan_42 : decode cX4_scan 42 = .ok (.iinc 1 1, 3) := by decide +kernel
theorem dX4_scan_45 : decode cX4_scan 45 = .ok (.goto (-28), 3) := by decide +kernel
theorem dX4_scan_48 : decode cX4_scan 48 = .ok (.aload_n 0, 1) := by decide +kernel
theorem dX4_scan_49 : decode cX4_scan 49 = .ok (.getfield 21, 3) := by decide +kernel
theorem dX4_scan_52 : decode cX4_scan 52 = .ok (.ireturn, 1) := by decide +kernel
theorem dX4_accepts_0 : decode cX4_accepts 0 = .ok (.iload_n 1, 1) := by decide +kernel
theorem dX4_accepts_1 : decode cX4_accepts 1 = .ok (.bipush 48, 2) := by decide +kernel
theorem dX4_accepts_3 : decode cX4_accepts 3 = .ok (.if_icmp .lt 18, 3) := by decide +kernel
theorem dX4_accepts_6 : decode cX4_accepts 6 = .ok (.iload_n 1, 1) := by decide +kernel
theorem dX4_accepts_7 : decode cX4_accepts 7 = .ok (.bipush 57, 2) := by decide +kernel
theorem dX4_accepts_9 : decode cX4_accepts 9 = .ok (.if_icmp .gt 12, 3) := by decide +kernel
theorem dX4_accepts_12 : decode cX4_accepts 12 = .ok (.aload_n 0, 1) := by decide +kernel
theorem dX4_accepts_13 : decode cX4_accepts 13 = .ok (.iload_n 1, 1) := by decide +kernel
theorem dX4_accepts_14 : decode cX4_accepts 14 = .ok (.bipush 48, 2) := by decide +kernel
theorem dX4_accepts_16 : decode cX4_accepts 16 = .ok (.isub, 1) := by decide +kernel
theorem dX4_accepts_17 : decode cX4_accepts 17 = .ok (.invokevirtual 43, 3) := by decide +kernel
theorem dX4_accepts_20 : decode cX4_accepts 20 = .ok (.ireturn, 1) := by decide +kernel
theorem dX4_accepts_21 : decode cX4_accepts 21 = .ok (.aload_n 0, 1) := by decide +kernel
theorem dX4_accepts_22 : decode cX4_accepts 22 = .ok (.getfield 32, 3) := by decide +kernel
theorem dX4_accepts_25 : decode cX4_accepts 25 = .ok (.iconst (-1), 1) := by decide +kernel
theorem dX4_accepts_26 : decode cX4_accepts 26 = .ok (.if_icmp .ne 5, 3) := by decide +kernel
theorem dX4_accepts_29 : decode cX4_accepts 29 = .ok (.iconst 0, 1) := by decide +kernel
theorem dX4_accepts_30 : decode cX4_accepts 30 = .ok (.ireturn, 1) := by decide +kernel
theorem dX4_accepts_31 : decode cX4_accepts 31 = .ok (.iload_n 1, 1) := by decide +kernel
theorem dX4_accepts_32 : decode cX4_accepts 32 = .ok (.bipush 44, 2) := by decide +kernel
theorem dX4_accepts_34 : decode cX4_accepts 34 = .ok (.if_icmp .ne 21, 3) := by decide +kernel
theorem dX4_accepts_37 : decode cX4_accepts 37 = .ok (.aload_n 0, 1) := by decide +kernel
theorem dX4_accepts_38 : decode cX4_accepts 38 = .ok (.dup, 1) := by decide +kernel
theorem dX4_accepts_39 : decode cX4_accepts 39 = .ok (.getfield 25, 3) := by decide +kernel
theorem dX4_accepts_42 : decode cX4_accepts 42 = .ok (.iconst 1, 1) := by decide +kernel
theorem dX4_accepts_43 : decode cX4_accepts 43 = .ok (.iadd, 1) := by decide +kernel
theorem dX4_accepts_44 : decode cX4_accepts 44 = .ok (.putfield 25, 3) := by decide +kernel
theorem dX4_accepts_47 : decode cX4_accepts 47 = .ok (.aload_n 0, 1) := by decide +kernel
theorem dX4_accepts_48 : decode cX4_accepts 48 = .ok (.iconst 0, 1) := by decide +kernel
theorem dX4_accepts_49 : decode cX4_accepts 49 = .ok (.putfield 28, 3) := by decide +kernel
theorem dX4_accepts_52 : decode cX4_accepts 52 = .ok (.goto 26, 3) := by decide +kernel
theorem dX4_accepts_55 : decode cX4_accepts 55 = .ok (.iload_n 1, 1) := by decide +kernel
theorem dX4_accepts_56 : decode cX4_accepts 56 = .ok (.bipush 45, 2) := by decide +kernel
theorem dX4_accepts_58 : decode cX4_accepts 58 = .ok (.if_icmp .ne 18, 3) := by decide +kernel
theorem dX4_accepts_61 : decode cX4_accepts 61 = .ok (.aload_n 0, 1) := by decide +kernel
theorem dX4_accepts_62 : decode cX4_accepts 62 = .ok (.getfield 28, 3) := by decide +kernel
theorem dX4_accepts_65 : decode cX4_accepts 65 = .ok (.ifCond .ne 11, 3) := by decide +kernel
theorem dX4_accepts_68 : decode cX4_accepts 68 = .ok (.aload_n 0, 1) := by decide +kernel
theorem dX4_accepts_69 : decode cX4_accepts 69 = .ok (.iconst 1, 1) := by decide +kernel
theorem dX4_accepts_70 : decode cX4_accepts 70 = .ok (.putfield 28, 3) := by decide +kernel
theorem dX4_accepts_73 : decode cX4_accepts 73 = .ok (.goto 5, 3) := by decide +kernel
theorem dX4_accepts_76 : decode cX4_accepts 76 = .ok (.iconst 0, 1) := by decide +kernel
theorem dX4_accepts_77 : decode cX4_accepts 77 = .ok (.ireturn, 1) := by decide +kernel
theorem dX4_accepts_78 : decode cX4_accepts 78 = .ok (.aload_n 0, 1) := by decide +kernel
theorem dX4_accepts_79 : decode cX4_accepts 79 = .ok (.iconst (-1), 1) := by decide +kernel
theorem dX4_accepts_80 : decode cX4_accepts 80 = .ok (.putfield 32, 3) := by decide +kernel
theorem dX4_accepts_83 : decode cX4_accepts 83 = .ok (.iconst 1, 1) := by decide +kernel
theorem dX4_accepts_84 : decode cX4_accepts 84 = .ok (.ireturn, 1) := by decide +kernel
theorem dX4_acceptsDigit_0 : decode cX4_acceptsDigit 0 = .ok (.aload_n 0, 1) := by decide +kernel
theorem dX4_acceptsDigit_1 : decode cX4_acceptsDigit 1 = .ok (.getfield 32, 3) := by decide +kernel
theorem dX4_acceptsDigit_4 : decode cX4_acceptsDigit 4 = .ok (.iconst (-1), 1) := by decide +kernel
theorem dX4_acceptsDigit_5 : decode cX4_acceptsDigit 5 = .ok (.if_icmp .ne 7, 3) := by decide +kernel
theorem dX4_acceptsDigit_8 : decode cX4_acceptsDigit 8 = .ok (.iload_n 1, 1) := by decide +kernel
theorem dX4_acceptsDigit_9 : decode cX4_acceptsDigit 9 = .ok (.goto 12, 3) := by decide +kernel
theorem dX4_acceptsDigit_12 : decode cX4_acceptsDigit 12 = .ok (.bipush 10, 2) := by decide +kernel
theorem dX4_acceptsDigit_14 : decode cX4_acceptsDigit 14 = .ok (.aload_n 0, 1) := by decide +kernel
theorem dX4_acceptsDigit_15 : decode cX4_acceptsDigit 15 = .ok (.getfield 32, 3) := by decide +kernel
theorem dX4_acceptsDigit_18 : decode cX4_acceptsDigit 18 = .ok (.imul, 1) := by decide +kernel
theorem dX4_acceptsDigit_19 : decode cX4_acceptsDigit 19 = .ok (.iload_n 1, 1) := by decide +kernel
theorem dX4_acceptsDigit_20 : decode cX4_acceptsDigit 20 = .ok (.iadd, 1) := by decide +kernel
theorem dX4_acceptsDigit_21 : decode cX4_acceptsDigit 21 = .ok (.istore_n 2, 1) := by decide +kernel
theorem dX4_acceptsDigit_22 : decode cX4_acceptsDigit 22 = .ok (.aload_n 0, 1) := by decide +kernel
theorem dX4_acceptsDigit_23 : decode cX4_acceptsDigit 23 = .ok (.getfield 32, 3) := by decide +kernel
theorem dX4_acceptsDigit_26 : decode cX4_acceptsDigit 26 = .ok (.ifCond .eq 25, 3) := by decide +kernel
theorem dX4_acceptsDigit_29 : decode cX4_acceptsDigit 29 = .ok (.iload_n 2, 1) := by decide +kernel
theorem dX4_acceptsDigit_30 : decode cX4_acceptsDigit 30 = .ok (.bipush 48, 2) := by decide +kernel
theorem dX4_acceptsDigit_32 : decode cX4_acceptsDigit 32 = .ok (.if_icmp .ge 19, 3) := by decide +kernel
theorem dX4_acceptsDigit_35 : decode cX4_acceptsDigit 35 = .ok (.aload_n 0, 1) := by decide +kernel
theorem dX4_acceptsDigit_36 : decode cX4_acceptsDigit 36 = .ok (.getfield 25, 3) := by decide +kernel
theorem dX4_acceptsDigit_39 : decode cX4_acceptsDigit 39 = .ok (.ifCond .lt 12, 3) := by decide +kernel
theorem dX4_acceptsDigit_42 : decode cX4_acceptsDigit 42 = .ok (.aload_n 0, 1) := by decide +kernel
theorem dX4_acceptsDigit_43 : decode cX4_acceptsDigit 43 = .ok (.getfield 25, 3) := by decide +kernel
theorem dX4_acceptsDigit_46 : decode cX4_acceptsDigit 46 = .ok (.bipush 30, 2) := by decide +kernel
theorem dX4_acceptsDigit_48 : decode cX4_acceptsDigit 48 = .ok (.if_icmp .lt 5, 3) := by decide +kernel
theorem dX4_acceptsDigit_51 : decode cX4_acceptsDigit 51 = .ok (.iconst 0, 1) := by decide +kernel
theorem dX4_acceptsDigit_52 : decode cX4_acceptsDigit 52 = .ok (.ireturn, 1) := by decide +kernel
theorem dX4_acceptsDigit_53 : decode cX4_acceptsDigit 53 = .ok (.aload_n 0, 1) := by decide +kernel
theorem dX4_acceptsDigit_54 : decode cX4_acceptsDigit 54 = .ok (.iload_n 2, 1) := by decide +kernel
theorem dX4_acceptsDigit_55 : decode cX4_acceptsDigit 55 = .ok (.putfield 32, 3) := by decide +kernel
theorem dX4_acceptsDigit_58 : decode cX4_acceptsDigit 58 = .ok (.aload_n 0, 1) := by decide +kernel
theorem dX4_acceptsDigit_59 : decode cX4_acceptsDigit 59 = .ok (.getfield 28, 3) := by decide +kernel
theorem dX4_acceptsDigit_62 : decode cX4_acceptsDigit 62 = .ok (.ifCond .ne 16, 3) := by decide +kernel
theorem dX4_acceptsDigit_65 : decode cX4_acceptsDigit 65 = .ok (.aload_n 0, 1) := by decide +kernel
theorem dX4_acceptsDigit_66 : decode cX4_acceptsDigit 66 = .ok (.getfield 15, 3) := by decide +kernel
theorem dX4_acceptsDigit_69 : decode cX4_acceptsDigit 69 = .ok (.aload_n 0, 1) := by decide +kernel
theorem dX4_acceptsDigit_70 : decode cX4_acceptsDigit 70 = .ok (.getfield 25, 3) := by decide +kernel
theorem dX4_acceptsDigit_73 : decode cX4_acceptsDigit 73 = .ok (.aload_n 0, 1) := by decide +kernel
theorem dX4_acceptsDigit_74 : decode cX4_acceptsDigit 74 = .ok (.getfield 32, 3) := by decide +kernel
theorem dX4_acceptsDigit_77 : decode cX4_acceptsDigit 77 = .ok (.iastore, 1) := by decide +kernel
theorem dX4_acceptsDigit_78 : decode cX4_acceptsDigit 78 = .ok (.aload_n 0, 1) := by decide +kernel
theorem dX4_acceptsDigit_79 : decode cX4_acceptsDigit 79 = .ok (.getfield 18, 3) := by decide +kernel
theorem dX4_acceptsDigit_82 : decode cX4_acceptsDigit 82 = .ok (.aload_n 0, 1) := by decide +kernel
theorem dX4_acceptsDigit_83 : decode cX4_acceptsDigit 83 = .ok (.getfield 25, 3) := by decide +kernel
theorem dX4_acceptsDigit_86 : decode cX4_acceptsDigit 86 = .ok (.aload_n 0, 1) := by decide +kernel
theorem dX4_acceptsDigit_87 : decode cX4_acceptsDigit 87 = .ok (.getfield 32, 3) := by decide +kernel
theorem dX4_acceptsDigit_90 : decode cX4_acceptsDigit 90 = .ok (.iastore, 1) := by decide +kernel
theorem dX4_acceptsDigit_91 : decode cX4_acceptsDigit 91 = .ok (.iconst 1, 1) := by decide +kernel
theorem dX4_acceptsDigit_92 : decode cX4_acceptsDigit 92 = .ok (.ireturn, 1) := by decide +kernel
theorem dX4_tellsReadings_0 : decode cX4_tellsReadings 0 = .ok (.aload_n 0, 1) := by decide +kernel
theorem dX4_tellsReadings_1 : decode cX4_tellsReadings 1 = .ok (.invokevirtual 46, 3) := by decide +kernel
theorem dX4_tellsReadings_4 : decode cX4_tellsReadings 4 = .ok (.aload_n 0, 1) := by decide +kernel
theorem dX4_tellsReadings_5 : decode cX4_tellsReadings 5 = .ok (.getfield 21, 3) := by decide +kernel
theorem dX4_tellsReadings_8 : decode cX4_tellsReadings 8 = .ok (.if_icmp .lt 11, 3) := by decide +kernel
theorem dX4_tellsReadings_11 : decode cX4_tellsReadings 11 = .ok (.aload_n 0, 1) := by decide +kernel
theorem dX4_tellsReadings_12 : decode cX4_tellsReadings 12 = .ok (.getfield 32, 3) := by decide +kernel
theorem dX4_tellsReadings_15 : decode cX4_tellsReadings 15 = .ok (.iconst (-1), 1) := by decide +kernel
theorem dX4_tellsReadings_16 : decode cX4_tellsReadings 16 = .ok (.if_icmp .ne 5, 3) := by decide +kernel
theorem dX4_tellsReadings_19 : decode cX4_tellsReadings 19 = .ok (.iconst 0, 1) := by decide +kernel
theorem dX4_tellsReadings_20 : decode cX4_tellsReadings 20 = .ok (.ireturn, 1) := by decide +kernel
theorem dX4_tellsReadings_21 : decode cX4_tellsReadings 21 = .ok (.iconst 0, 1) := by decide +kernel
theorem dX4_tellsReadings_22 : decode cX4_tellsReadings 22 = .ok (.istore_n 1, 1) := by decide +kernel
theorem dX4_tellsReadings_23 : decode cX4_tellsReadings 23 = .ok (.iload_n 1, 1) := by decide +kernel
theorem dX4_tellsReadings_24 : decode cX4_tellsReadings 24 = .ok (.aload_n 0, 1) := by decide +kernel
theorem dX4_tellsReadings_25 : decode cX4_tellsReadings 25 = .ok (.getfield 25, 3) := by decide +kernel
theorem dX4_tellsReadings_28 : decode cX4_tellsReadings 28 = .ok (.if_icmp .gt 24, 3) := by decide +kernel
theorem dX4_tellsReadings_31 : decode cX4_tellsReadings 31 = .ok (.aload_n 0, 1) := by decide +kernel
theorem dX4_tellsReadings_32 : decode cX4_tellsReadings 32 = .ok (.iload_n 1, 1) := by decide +kernel
theorem dX4_tellsReadings_33 : decode cX4_tellsReadings 33 = .ok (.invokevirtual 50, 3) := by decide +kernel
theorem dX4_tellsReadings_36 : decode cX4_tellsReadings 36 = .ok (.aload_n 0, 1) := by decide +kernel
theorem dX4_tellsReadings_37 : decode cX4_tellsReadings 37 = .ok (.iload_n 1, 1) := by decide +kernel
theorem dX4_tellsReadings_38 : decode cX4_tellsReadings 38 = .ok (.invokevirtual 54, 3) := by decide +kernel
theorem dX4_tellsReadings_41 : decode cX4_tellsReadings 41 = .ok (.if_icmp .ge 5, 3) := by decide +kernel
theorem dX4_tellsReadings_44 : decode cX4_tellsReadings 44 = .ok (.iconst 0, 1) := by decide +kernel
theorem dX4_tellsReadings_45 : decode cX4_tellsReadings 45 = .ok (.ireturn, 1) := by decide +kernel
theorem dX4_tellsReadings_46 : decode cX4_tellsReadings 46 = .ok (.iinc 1 1, 3) := by decide +kernel
theorem dX4_tellsReadings_49 : decode cX4_tellsReadings 49 = .ok (.goto (-26), 3) := by decide +kernel
theorem dX4_tellsReadings_52 : decode cX4_tellsReadings 52 = .ok (.iconst 1, 1) := by decide +kernel
theorem dX4_tellsReadings_53 : decode cX4_tellsReadings 53 = .ok (.ireturn, 1) := by decide +kernel
theorem dX4_firstOf_0 : decode cX4_firstOf 0 = .ok (.aload_n 0, 1) := by decide +kernel
theorem dX4_firstOf_1 : decode cX4_firstOf 1 = .ok (.getfield 15, 3) := by decide +kernel
theorem dX4_firstOf_4 : decode cX4_firstOf 4 = .ok (.iload_n 1, 1) := by decide +kernel
theorem dX4_firstOf_5 : decode cX4_firstOf 5 = .ok (.invokestatic 35, 3) := by decide +kernel
theorem dX4_firstOf_8 : decode cX4_firstOf 8 = .ok (.ireturn, 1) := by decide +kernel
theorem dX4_lastOf_0 : decode cX4_lastOf 0 = .ok (.aload_n 0, 1) := by decide +kernel
theorem dX4_lastOf_1 : decode cX4_lastOf 1 = .ok (.getfield 18, 3) := by decide +kernel
theorem dX4_lastOf_4 : decode cX4_lastOf 4 = .ok (.iload_n 1, 1) := by decide +kernel
theorem dX4_lastOf_5 : decode cX4_lastOf 5 = .ok (.invokestatic 35, 3) := by decide +kernel
theorem dX4_lastOf_8 : decode cX4_lastOf 8 = .ok (.ireturn, 1) := by decide +kernel
theorem dX4_fold_0 : decode cX4_fold 0 = .ok (.ldc2_w 57, 3) := by decide +kernel
theorem dX4_fold_3 : decode cX4_fold 3 = .ok (.lload_n 1, 1) := by decide +kernel
theorem dX4_fold_4 : decode cX4_fold 4 = .ok (.lmul, 1) := by decide +kernel
theorem dX4_fold_5 : decode cX4_fold 5 = .ok (.aload_n 0, 1) := by decide +kernel
theorem dX4_fold_6 : decode cX4_fold 6 = .ok (.getfield 21, 3) := by decide +kernel
theorem dX4_fold_9 : decode cX4_fold 9 = .ok (.i2l, 1) := by decide +kernel
theorem dX4_fold_10 : decode cX4_fold 10 = .ok (.ladd, 1) := by decide +kernel
theorem dX4_fold_11 : decode cX4_fold 11 = .ok (.lstore_n 3, 1) := by decide +kernel
theorem dX4_fold_12 : decode cX4_fold 12 = .ok (.iconst 0, 1) := by decide +kernel
theorem dX4_fold_13 : decode cX4_fold 13 = .ok (.istore 5, 2) := by decide +kernel
theorem dX4_fold_15 : decode cX4_fold 15 = .ok (.iload 5, 2) := by decide +kernel
theorem dX4_fold_17 : decode cX4_fold 17 = .ok (.aload_n 0, 1) := by decide +kernel
theorem dX4_fold_18 : decode cX4_fold 18 = .ok (.getfield 21, 3) := by decide +kernel
theorem dX4_fold_21 : decode cX4_fold 21 = .ok (.if_icmp .ge 26, 3) := by decide +kernel
theorem dX4_fold_24 : decode cX4_fold 24 = .ok (.ldc2_w 57, 3) := by decide +kernel
theorem dX4_fold_27 : decode cX4_fold 27 = .ok (.lload_n 3, 1) := by decide +kernel
theorem dX4_fold_28 : decode cX4_fold 28 = .ok (.lmul, 1) := by decide +kernel
theorem dX4_fold_29 : decode cX4_fold 29 = .ok (.aload_n 0, 1) := by decide +kernel
theorem dX4_fold_30 : decode cX4_fold 30 = .ok (.getfield 9, 3) := by decide +kernel
theorem dX4_fold_33 : decode cX4_fold 33 = .ok (.iload 5, 2) := by decide +kernel
theorem dX4_fold_35 : decode cX4_fold 35 = .ok (.invokestatic 35, 3) := by decide +kernel
theorem dX4_fold_38 : decode cX4_fold 38 = .ok (.i2l, 1) := by decide +kernel
theorem dX4_fold_39 : decode cX4_fold 39 = .ok (.ladd, 1) := by decide +kernel
theorem dX4_fold_40 : decode cX4_fold 40 = .ok (.lstore_n 3, 1) := by decide +kernel
theorem dX4_fold_41 : decode cX4_fold 41 = .ok (.iinc 5 1, 3) := by decide +kernel
theorem dX4_fold_44 : decode cX4_fold 44 = .ok (.goto (-29), 3) := by decide +kernel
theorem dX4_fold_47 : decode cX4_fold 47 = .ok (.lload_n 3, 1) := by decide +kernel
theorem dX4_fold_48 : decode cX4_fold 48 = .ok (.lreturn, 1) := by decide +kernel
theorem dX5_init_0 : decode cX5_init 0 = .ok (.aload_n 0, 1) := by decide +kernel
theorem dX5_init_1 : decode cX5_init 1 = .ok (.invokespecial 3, 3) := by decide +kernel
theorem dX5_init_4 : decode cX5_init 4 = .ok (.aload_n 0, 1) := by decide +kernel
theorem dX5_init_5 : decode cX5_init 5 = .ok (.new 9, 3) := by decide +kernel
theorem dX5_init_8 : decode cX5_init 8 = .ok (.dup, 1) := by decide +kernel
theorem dX5_init_9 : decode cX5_init 9 = .ok (.invokespecial 11, 3) := by decide +kernel
theorem dX5_init_12 : decode cX5_init 12 = .ok (.putfield 12, 3) := by decide +kernel
theorem dX5_init_15 : decode cX5_init 15 = .ok (.aload_n 0, 1) := by decide +kernel
theorem dX5_init_16 : decode cX5_init 16 = .ok (.new 9, 3) := by decide +kernel
theorem dX5_init_19 : decode cX5_init 19 = .ok (.dup, 1) := by decide +kernel
theorem dX5_init_20 : decode cX5_init 20 = .ok (.invokespecial 11, 3) := by decide +kernel
theorem dX5_init_23 : decode cX5_init 23 = .ok (.putfield 16, 3) := by decide +kernel
theorem dX5_init_26 : decode cX5_init 26 = .ok (.aload_n 0, 1) := by decide +kernel
theorem dX5_init_27 : decode cX5_init 27 = .ok (.bipush 6, 2) := by decide +kernel
theorem dX5_init_29 : decode cX5_init 29 = .ok (.anewarray 9, 3) := by decide +kernel
theorem dX5_init_32 : decode cX5_init 32 = .ok (.putfield 19, 3) := by decide +kernel
theorem dX5_init_35 : decode cX5_init 35 = .ok (.iconst 0, 1) := by decide +kernel
theorem dX5_init_36 : decode cX5_init 36 = .ok (.istore_n 1, 1) := by decide +kernel
theorem dX5_init_37 : decode cX5_init 37 = .ok (.iload_n 1, 1) := by decide +kernel
theorem dX5_init_38 : decode cX5_init 38 = .ok (.bipush 6, 2) := by decide +kernel
theorem dX5_init_40 : decode cX5_init 40 = .ok (.if_icmp .ge 22, 3) := by decide +kernel
theorem dX5_init_43 : decode cX5_init 43 = .ok (.aload_n 0, 1) := by decide +kernel
theorem dX5_init_44 : decode cX5_init 44 = .ok (.getfield 19, 3) := by decide +kernel
theorem dX5_init_47 : decode cX5_init 47 = .ok (.iload_n 1, 1) := by decide +kernel
theorem dX5_init_48 : decode cX5_init 48 = .ok (.new 9, 3) := by decide +kernel
theorem dX5_init_51 : decode cX5_init 51 = .ok (.dup, 1) := by decide +kernel
theorem dX5_init_52 : decode cX5_init 52 = .ok (.invokespecial 11, 3) := by decide +kernel
theorem dX5_init_55 : decode cX5_init 55 = .ok (.aastore, 1) := by decide +kernel
theorem dX5_init_56 : decode cX5_init 56 = .ok (.iinc 1 1, 3) := by decide +kernel
theorem dX5_init_59 : decode cX5_init 59 = .ok (.goto (-22), 3) := by decide +kernel
theorem dX5_init_62 : decode cX5_init 62 = .ok (.aload_n 0, 1) := by decide +kernel
theorem dX5_init_63 : decode cX5_init 63 = .ok (.new 23, 3) := by decide +kernel
theorem dX5_init_66 : decode cX5_init 66 = .ok (.dup, 1) := by decide +kernel
theorem dX5_init_67 : decode cX5_init 67 = .ok (.invokespecial 25, 3) := by decide +kernel
theorem dX5_init_70 : decode cX5_init 70 = .ok (.putfield 26, 3) := by decide +kernel
theorem dX5_init_73 : decode cX5_init 73 = .ok (.aload_n 0, 1) := by decide +kernel
theorem dX5_init_74 : decode cX5_init 74 = .ok (.new 30, 3) := by decide +kernel
theorem dX5_init_77 : decode cX5_init 77 = .ok (.dup, 1) := by decide +kernel
theorem dX5_init_78 : decode cX5_init 78 = .ok (.invokespecial 32, 3) := by decide +kernel
theorem dX5_init_81 : decode cX5_init 81 = .ok (.putfield 33, 3) := by decide +kernel
theorem dX5_init_84 : decode cX5_init 84 = .ok (.aload_n 0, 1) := by decide +kernel
theorem dX5_init_85 : decode cX5_init 85 = .ok (.new 37, 3) := by decide +kernel
theorem dX5_init_88 : decode cX5_init 88 = .ok (.dup, 1) := by decide +kernel
theorem dX5_init_89 : decode cX5_init 89 = .ok (.invokespecial 39, 3) := by decide +kernel
theorem dX5_init_92 : decode cX5_init 92 = .ok (.putfield 40, 3) := by decide +kernel
theorem dX5_init_95 : decode cX5_init 95 = .ok (.return_, 1) := by decide +kernel
theorem dX5_plug_0 : decode cX5_plug 0 = .ok (.iload_n 1, 1) := by decide +kernel
theorem dX5_plug_1 : decode cX5_plug 1 = .ok (.invokestatic 44, 3) := by decide +kernel
theorem dX5_plug_4 : decode cX5_plug 4 = .ok (.ifCond .ne 13, 3) := by decide +kernel
theorem dX5_plug_7 : decode cX5_plug 7 = .ok (.new 48, 3) := by decide +kernel
theorem dX5_plug_10 : decode cX5_plug 10 = .ok (.dup, 1) := by decide +kernel
theorem dX5_plug_11 : decode cX5_plug 11 = .ok (.ldc 50, 2) := by decide +kernel
theorem dX5_plug_13 : decode cX5_plug 13 = .ok (.invokespecial 52, 3) := by decide +kernel
theorem dX5_plug_16 : decode cX5_plug 16 = .ok (.athrow, 1) := by decide +kernel
theorem dX5_plug_17 : decode cX5_plug 17 = .ok (.iload_n 2, 1) := by decide +kernel
theorem dX5_plug_18 : decode cX5_plug 18 = .ok (.iconst 1, 1) := by decide +kernel
theorem dX5_plug_19 : decode cX5_plug 19 = .ok (.bipush 12, 2) := by decide +kernel
theorem dX5_plug_21 : decode cX5_plug 21 = .ok (.invokestatic 55, 3) := by decide +kernel
theorem dX5_plug_24 : decode cX5_plug 24 = .ok (.ifCond .eq 23, 3) := by decide +kernel
theorem dX5_plug_27 : decode cX5_plug 27 = .ok (.iload_n 3, 1) := by decide +kernel
theorem dX5_plug_28 : decode cX5_plug 28 = .ok (.iconst 1, 1) := by decide +kernel
theorem dX5_plug_29 : decode cX5_plug 29 = .ok (.iconst 2, 1) := by decide +kernel
theorem dX5_plug_30 : decode cX5_plug 30 = .ok (.invokestatic 55, 3) := by decide +kernel
theorem dX5_plug_33 : decode cX5_plug 33 = .ok (.ifCond .eq 14, 3) := by decide +kernel
theorem dX5_plug_36 : decode cX5_plug 36 = .ok (.iload 4, 2) := by decide +kernel
theorem dX5_plug_38 : decode cX5_plug 38 = .ok (.iconst 1, 1) := by decide +kernel
theorem dX5_plug_39 : decode cX5_plug 39 = .ok (.bipush 9, 2) := by decide +kernel
theorem dX5_plug_41 : decode cX5_plug 41 = .ok (.invokestatic 55, 3) := by decide +kernel
theorem dX5_plug_44 : decode cX5_plug 44 = .ok (.ifCond .ne 13, 3) := by decide +kernel
theorem dX5_plug_47 : decode cX5_plug 47 = .ok (.new 59, 3) := by decide +kernel
theorem dX5_plug_50 : decode cX5_plug 50 = .ok (.dup, 1) := by decide +kernel
theorem dX5_plug_51 : decode cX5_plug 51 = .ok (.ldc 61, 2) := by decide +kernel
theorem dX5_plug_53 : decode cX5_plug 53 = .ok (.invokespecial 63, 3) := by decide +kernel
theorem dX5_plug_56 : decode cX5_plug 56 = .ok (.athrow, 1) := by decide +kernel
theorem dX5_plug_57 : decode cX5_plug 57 = .ok (.aload_n 0, 1) := by decide +kernel
theorem dX5_plug_58 : decode cX5_plug 58 = .ok (.getfield 12, 3) := by decide +kernel
theorem dX5_plug_61 : decode cX5_plug 61 = .ok (.getfield 64, 3) := by decide +kernel
theorem dX5_plug_64 : decode cX5_plug 64 = .ok (.iload_n 1, 1) := by decide +kernel
theorem dX5_plug_65 : decode cX5_plug 65 = .ok (.invokevirtual 68, 3) := by decide +kernel
theorem dX5_plug_68 : decode cX5_plug 68 = .ok (.ifCond .eq 13, 3) := by decide +kernel
theorem dX5_plug_71 : decode cX5_plug 71 = .ok (.new 73, 3) := by decide +kernel
theorem dX5_plug_74 : decode cX5_plug 74 = .ok (.dup, 1) := by decide +kernel
theorem dX5_plug_75 : decode cX5_plug 75 = .ok (.ldc 75, 2) := by decide +kernel
theorem dX5_plug_77 : decode cX5_plug 77 = .ok (.invokespecial 77, 3) := by decide +kernel
theorem dX5_plug_80 : decode cX5_plug 80 = .ok (.athrow, 1) := by decide +kernel
theorem dX5_plug_81 : decode cX5_plug 81 = .ok (.aload_n 0, 1) := by decide +kernel
theorem dX5_plug_82 : decode cX5_plug 82 = .ok (.invokevirtual 78, 3) := by decide +kernel
theorem dX5_plug_85 : decode cX5_plug 85 = .ok (.aload_n 0, 1) := by decide +kernel
theorem dX5_plug_86 : decode cX5_plug 86 = .ok (.getfield 12, 3) := by decide +kernel
theorem dX5_plug_89 : decode cX5_plug 89 = .ok (.getfield 64, 3) := by decide +kernel
theorem dX5_plug_92 : decode cX5_plug 92 = .ok (.iload_n 1, 1) := by decide +kernel
theorem dX5_plug_93 : decode cX5_plug 93 = .ok (.iload_n 2, 1) := by decide +kernel
theorem dX5_plug_94 : decode cX5_plug 94 = .ok (.iload_n 3, 1) := by decide +kernel
theorem dX5_plug_95 : decode cX5_plug 95 = .ok (.iload 4, 2) := by decide +kernel
theorem dX5_plug_97 : decode cX5_plug 97 = .ok (.invokevirtual 81, 3) := by decide +kernel
theorem dX5_plug_100 : decode cX5_plug 100 = .ok (.aload_n 0, 1) := by decide +kernel
theorem dX5_plug_101 : decode cX5_plug 101 = .ok (.getfield 12, 3) := by decide +kernel
theorem dX5_plug_104 : decode cX5_plug 104 = .ok (.getfield 85, 3) := by decide +kernel
theorem dX5_plug_107 : decode cX5_plug 107 = .ok (.iload_n 1, 1) := by decide +kernel
theorem dX5_plug_108 : decode cX5_plug 108 = .ok (.invokevirtual 88, 3) := by decide +kernel
theorem dX5_plug_111 : decode cX5_plug 111 = .ok (.aload_n 0, 1) := by decide +kernel
theorem dX5_plug_112 : decode cX5_plug 112 = .ok (.getfield 12, 3) := by decide +kernel
theorem dX5_plug_115 : decode cX5_plug 115 = .ok (.getfield 64, 3) := by decide +kernel
theorem dX5_plug_118 : decode cX5_plug 118 = .ok (.invokevirtual 92, 3) := by decide +kernel
theorem dX5_plug_121 : decode cX5_plug 121 = .ok (.ireturn, 1) := by decide +kernel
theorem dX5_pull_0 : decode cX5_pull 0 = .ok (.iload_n 1, 1) := by decide +kernel
theorem dX5_pull_1 : decode cX5_pull 1 = .ok (.invokestatic 44, 3) := by decide +kernel
theorem dX5_pull_4 : decode cX5_pull 4 = .ok (.ifCond .ne 13, 3) := by decide +kernel
theorem dX5_pull_7 : decode cX5_pull 7 = .ok (.new 48, 3) := by decide +kernel
theorem dX5_pull_10 : decode cX5_pull 10 = .ok (.dup, 1) := by decide +kernel
theorem dX5_pull_11 : decode cX5_pull 11 = .ok (.ldc 50, 2) := by decide +kernel
theorem dX5_pull_13 : decode cX5_pull 13 = .ok (.invokespecial 52, 3) := by decide +kernel
theorem dX5_pull_16 : decode cX5_pull 16 = .ok (.athrow, 1) := by decide +kernel
theorem dX5_pull_17 : decode cX5_pull 17 = .ok (.aload_n 0, 1) := by decide +kernel
theorem dX5_pull_18 : decode cX5_pull 18 = .ok (.getfield 12, 3) := by decide +kernel
theorem dX5_pull_21 : decode cX5_pull 21 = .ok (.getfield 64, 3) := by decide +kernel
theorem dX5_pull_24 : decode cX5_pull 24 = .ok (.iload_n 1, 1) := by decide +kernel
theorem dX5_pull_25 : decode cX5_pull 25 = .ok (.invokevirtual 68, 3) := by decide +kernel
theorem dX5_pull_28 : decode cX5_pull 28 = .ok (.ifCond .ne 13, 3) := by decide +kernel
theorem dX5_pull_31 : decode cX5_pull 31 = .ok (.new 73, 3) := by decide +kernel
theorem dX5_pull_34 : decode cX5_pull 34 = .ok (.dup, 1) := by decide +kernel
theorem dX5_pull_35 : decode cX5_pull 35 = .ok (.ldc 96, 2) := by decide +kernel
theorem dX5_pull_37 : decode cX5_pull 37 = .ok (.invokespecial 77, 3) := by decide +kernel
theorem dX5_pull_40 : decode cX5_pull 40 = .ok (.athrow, 1) := by decide +kernel
theorem dX5_pull_41 : decode cX5_pull 41 = .ok (.aload_n 0, 1) := by decide +kernel
theorem dX5_pull_42 : decode cX5_pull 42 = .ok (.invokevirtual 78, 3) := by decide +kernel
theorem dX5_pull_45 : decode cX5_pull 45 = .ok (.aload_n 0, 1) := by decide +kernel
theorem dX5_pull_46 : decode cX5_pull 46 = .ok (.getfield 12, 3) := by decide +kernel
theorem dX5_pull_49 : decode cX5_pull 49 = .ok (.iload_n 1, 1) := by decide +kernel
theorem dX5_pull_50 : decode cX5_pull 50 = .ok (.invokevirtual 98, 3) := by decide +kernel
theorem dX5_pull_53 : decode cX5_pull 53 = .ok (.istore_n 2, 1) := by decide +kernel
theorem dX5_pull_54 : decode cX5_pull 54 = .ok (.aload_n 0, 1) := by decide +kernel
theorem dX5_pull_55 : decode cX5_pull 55 = .ok (.getfield 12, 3) := by decide +kernel
theorem dX5_pull_58 : decode cX5_pull 58 = .ok (.getfield 64, 3) := by decide +kernel
theorem dX5_pull_61 : decode cX5_pull 61 = .ok (.iload_n 1, 1) := by decide +kernel
theorem dX5_pull_62 : decode cX5_pull 62 = .ok (.invokevirtual 102, 3) := by decide +kernel
theorem dX5_pull_65 : decode cX5_pull 65 = .ok (.iload_n 2, 1) := by decide +kernel
theorem dX5_pull_66 : decode cX5_pull 66 = .ok (.ireturn, 1) := by decide +kernel
theorem dX5_fail_0 : decode cX5_fail 0 = .ok (.iload_n 1, 1) := by decide +kernel
theorem dX5_fail_1 : decode cX5_fail 1 = .ok (.invokestatic 44, 3) := by decide +kernel
theorem dX5_fail_4 : decode cX5_fail 4 = .ok (.ifCond .ne 13, 3) := by decide +kernel
theorem dX5_fail_7 : decode cX5_fail 7 = .ok (.new 48, 3) := by decide +kernel
theorem dX5_fail_10 : decode cX5_fail 10 = .ok (.dup, 1) := by decide +kernel
theorem dX5_fail_11 : decode cX5_fail 11 = .ok (.ldc 50, 2) := by decide +kernel
theorem dX5_fail_13 : decode cX5_fail 13 = .ok (.invokespecial 52, 3) := by decide +kernel
theorem dX5_fail_16 : decode cX5_fail 16 = .ok (.athrow, 1) := by decide +kernel
theorem dX5_fail_17 : decode cX5_fail 17 = .ok (.aload_n 0, 1) := by decide +kernel
theorem dX5_fail_18 : decode cX5_fail 18 = .ok (.getfield 12, 3) := by decide +kernel
theorem dX5_fail_21 : decode cX5_fail 21 = .ok (.getfield 64, 3) := by decide +kernel
theorem dX5_fail_24 : decode cX5_fail 24 = .ok (.iload_n 1, 1) := by decide +kernel
theorem dX5_fail_25 : decode cX5_fail 25 = .ok (.invokevirtual 105, 3) := by decide +kernel
theorem dX5_fail_28 : decode cX5_fail 28 = .ok (.ifCond .ne 13, 3) := by decide +kernel
theorem dX5_fail_31 : decode cX5_fail 31 = .ok (.new 73, 3) := by decide +kernel
theorem dX5_fail_34 : decode cX5_fail 34 = .ok (.dup, 1) := by decide +kernel
theorem dX5_fail_35 : decode cX5_fail 35 = .ok (.ldc 108, 2) := by decide +kernel
theorem dX5_fail_37 : decode cX5_fail 37 = .ok (.invokespecial 77, 3) := by decide +kernel
theorem dX5_fail_40 : decode cX5_fail 40 = .ok (.athrow, 1) := by decide +kernel
theorem dX5_fail_41 : decode cX5_fail 41 = .ok (.aload_n 0, 1) := by decide +kernel
theorem dX5_fail_42 : decode cX5_fail 42 = .ok (.invokevirtual 78, 3) := by decide +kernel
theorem dX5_fail_45 : decode cX5_fail 45 = .ok (.aload_n 0, 1) := by decide +kernel
theorem dX5_fail_46 : decode cX5_fail 46 = .ok (.getfield 12, 3) := by decide +kernel
theorem dX5_fail_49 : decode cX5_fail 49 = .ok (.iload_n 1, 1) := by decide +kernel
theorem dX5_fail_50 : decode cX5_fail 50 = .ok (.invokevirtual 98, 3) := by decide +kernel
theorem dX5_fail_53 : decode cX5_fail 53 = .ok (.istore_n 2, 1) := by decide +kernel
theorem dX5_fail_54 : decode cX5_fail 54 = .ok (.aload_n 0, 1) := by decide +kernel
theorem dX5_fail_55 : decode cX5_fail 55 = .ok (.getfield 12, 3) := by decide +kernel
theorem dX5_fail_58 : decode cX5_fail 58 = .ok (.getfield 64, 3) := by decide +kernel
theorem dX5_fail_61 : decode cX5_fail 61 = .ok (.iload_n 1, 1) := by decide +kernel
theorem dX5_fail_62 : decode cX5_fail 62 = .ok (.invokevirtual 110, 3) := by decide +kernel
theorem dX5_fail_65 : decode cX5_fail 65 = .ok (.iload_n 2, 1) := by decide +kernel
theorem dX5_fail_66 : decode cX5_fail 66 = .ok (.ireturn, 1) := by decide +kernel
theorem dX5_start_0 : decode cX5_start 0 = .ok (.aload_n 0, 1) := by decide +kernel
theorem dX5_start_1 : decode cX5_start 1 = .ok (.getfield 12, 3) := by decide +kernel
theorem dX5_start_4 : decode cX5_start 4 = .ok (.getfield 64, 3) := by decide +kernel
theorem dX5_start_7 : decode cX5_start 7 = .ok (.aload_n 0, 1) := by decide +kernel
theorem dX5_start_8 : decode cX5_start 8 = .ok (.getfield 12, 3) := by decide +kernel
theorem dX5_start_11 : decode cX5_start 11 = .ok (.getfield 113, 3) := by decide +kernel
theorem dX5_start_14 : decode cX5_start 14 = .ok (.invokevirtual 117, 3) := by decide +kernel
theorem dX5_start_17 : decode cX5_start 17 = .ok (.ifCond .eq 13, 3) := by decide +kernel
theorem dX5_start_20 : decode cX5_start 20 = .ok (.new 73, 3) := by decide +kernel
theorem dX5_start_23 : decode cX5_start 23 = .ok (.dup, 1) := by decide +kernel
theorem dX5_start_24 : decode cX5_start 24 = .ok (.ldc 120, 2) := by decide +kernel
theorem dX5_start_26 : decode cX5_start 26 = .ok (.invokespecial 77, 3) := by decide +kernel
theorem dX5_start_29 : decode cX5_start 29 = .ok (.athrow, 1) := by decide +kernel
theorem dX5_start_30 : decode cX5_start 30 = .ok (.aload_n 0, 1) := by decide +kernel
theorem dX5_start_31 : decode cX5_start 31 = .ok (.invokevirtual 78, 3) := by decide +kernel
theorem dX5_start_34 : decode cX5_start 34 = .ok (.aload_n 0, 1) := by decide +kernel
theorem dX5_start_35 : decode cX5_start 35 = .ok (.getfield 12, 3) := by decide +kernel
theorem dX5_start_38 : decode cX5_start 38 = .ok (.invokevirtual 122, 3) := by decide +kernel
theorem dX5_start_41 : decode cX5_start 41 = .ok (.aload_n 0, 1) := by decide +kernel
theorem dX5_start_42 : decode cX5_start 42 = .ok (.getfield 12, 3) := by decide +kernel
theorem dX5_start_45 : decode cX5_start 45 = .ok (.getfield 125, 3) := by decide +kernel
theorem dX5_start_48 : decode cX5_start 48 = .ok (.getfield 128, 3) := by decide +kernel
theorem dX5_start_51 : decode cX5_start 51 = .ok (.ireturn, 1) := by decide +kernel
theorem dX5_stop_0 : decode cX5_stop 0 = .ok (.aload_n 0, 1) := by decide +kernel
theorem dX5_stop_1 : decode cX5_stop 1 = .ok (.getfield 12, 3) := by decide +kernel
theorem dX5_stop_4 : decode cX5_stop 4 = .ok (.getfield 125, 3) := by decide +kernel
theorem dX5_stop_7 : decode cX5_stop 7 = .ok (.invokevirtual 131, 3) := by decide +kernel
theorem dX5_stop_10 : decode cX5_stop 10 = .ok (.ifCond .ne 13, 3) := by decide +kernel
theorem dX5_stop_13 : decode cX5_stop 13 = .ok (.new 73, 3) := by decide +kernel
theorem dX5_stop_16 : decode cX5_stop 16 = .ok (.dup, 1) := by decide +kernel
theorem dX5_stop_17 : decode cX5_stop 17 = .ok (.ldc 135, 2) := by decide +kernel
theorem dX5_stop_19 : decode cX5_stop 19 = .ok (.invokespecial 77, 3) := by decide +kernel
theorem dX5_stop_22 : decode cX5_stop 22 = .ok (.athrow, 1) := by decide +kernel
theorem dX5_stop_23 : decode cX5_stop 23 = .ok (.aload_n 0, 1) := by decide +kernel
theorem dX5_stop_24 : decode cX5_stop 24 = .ok (.invokevirtual 78, 3) := by decide +kernel
theorem dX5_stop_27 : decode cX5_stop 27 = .ok (.aload_n 0, 1) := by decide +kernel
theorem dX5_stop_28 : decode cX5_stop 28 = .ok (.getfield 12, 3) := by decide +kernel
theorem dX5_stop_31 : decode cX5_stop 31 = .ok (.getfield 125, 3) := by decide +kernel
theorem dX5_stop_34 : decode cX5_stop 34 = .ok (.getfield 128, 3) := by decide +kernel
theorem dX5_stop_37 : decode cX5_stop 37 = .ok (.istore_n 1, 1) := by decide +kernel
theorem dX5_stop_38 : decode cX5_stop 38 = .ok (.aload_n 0, 1) := by decide +kernel
theorem dX5_stop_39 : decode cX5_stop 39 = .ok (.getfield 12, 3) := by decide +kernel
theorem dX5_stop_42 : decode cX5_stop 42 = .ok (.invokevirtual 137, 3) := by decide +kernel
theorem dX5_stop_45 : decode cX5_stop 45 = .ok (.iload_n 1, 1) := by decide +kernel
theorem dX5_stop_46 : decode cX5_stop 46 = .ok (.ireturn, 1) := by decide +kernel
theorem dX5_write_0 : decode cX5_write 0 = .ok (.aload_n 0, 1) := by decide +kernel
theorem dX5_write_1 : decode cX5_write 1 = .ok (.getfield 12, 3) := by decide +kernel
theorem dX5_write_4 : decode cX5_write 4 = .ok (.iload_n 1, 1) := by decide +kernel
theorem dX5_write_5 : decode cX5_write 5 = .ok (.invokevirtual 140, 3) := by decide +kernel
theorem dX5_write_8 : decode cX5_write 8 = .ok (.ifCond .ne 13, 3) := by decide +kernel
theorem dX5_write_11 : decode cX5_write 11 = .ok (.new 48, 3) := by decide +kernel
theorem dX5_write_14 : decode cX5_write 14 = .ok (.dup, 1) := by decide +kernel
theorem dX5_write_15 : decode cX5_write 15 = .ok (.ldc 143, 2) := by decide +kernel
theorem dX5_write_17 : decode cX5_write 17 = .ok (.invokespecial 52, 3) := by decide +kernel
theorem dX5_write_20 : decode cX5_write 20 = .ok (.athrow, 1) := by decide +kernel
theorem dX5_write_21 : decode cX5_write 21 = .ok (.iload_n 2, 1) := by decide +kernel
theorem dX5_write_22 : decode cX5_write 22 = .ok (.iconst 0, 1) := by decide +kernel
theorem dX5_write_23 : decode cX5_write 23 = .ok (.bipush 99, 2) := by decide +kernel
theorem dX5_write_25 : decode cX5_write 25 = .ok (.invokestatic 55, 3) := by decide +kernel
theorem dX5_write_28 : decode cX5_write 28 = .ok (.ifCond .ne 13, 3) := by decide +kernel
theorem dX5_write_31 : decode cX5_write 31 = .ok (.new 59, 3) := by decide +kernel
theorem dX5_write_34 : decode cX5_write 34 = .ok (.dup, 1) := by decide +kernel
theorem dX5_write_35 : decode cX5_write 35 = .ok (.ldc 145, 2) := by decide +kernel
theorem dX5_write_37 : decode cX5_write 37 = .ok (.invokespecial 63, 3) := by decide +kernel
theorem dX5_write_40 : decode cX5_write 40 = .ok (.athrow, 1) := by decide +kernel
theorem dX5_write_41 : decode cX5_write 41 = .ok (.aload_n 0, 1) := by decide +kernel
theorem dX5_write_42 : decode cX5_write 42 = .ok (.getfield 12, 3) := by decide +kernel
theorem dX5_write_45 : decode cX5_write 45 = .ok (.iload_n 1, 1) := by decide +kernel
theorem dX5_write_46 : decode cX5_write 46 = .ok (.invokevirtual 147, 3) := by decide +kernel
theorem dX5_write_49 : decode cX5_write 49 = .ok (.ifCond .ne 13, 3) := by decide +kernel
theorem dX5_write_52 : decode cX5_write 52 = .ok (.new 73, 3) := by decide +kernel
theorem dX5_write_55 : decode cX5_write 55 = .ok (.dup, 1) := by decide +kernel
theorem dX5_write_56 : decode cX5_write 56 = .ok (.ldc 150, 2) := by decide +kernel
theorem dX5_write_58 : decode cX5_write 58 = .ok (.invokespecial 77, 3) := by decide +kernel
theorem dX5_write_61 : decode cX5_write 61 = .ok (.athrow, 1) := by decide +kernel
theorem dX5_write_62 : decode cX5_write 62 = .ok (.aload_n 0, 1) := by decide +kernel
theorem dX5_write_63 : decode cX5_write 63 = .ok (.invokevirtual 78, 3) := by decide +kernel
theorem dX5_write_66 : decode cX5_write 66 = .ok (.aload_n 0, 1) := by decide +kernel
theorem dX5_write_67 : decode cX5_write 67 = .ok (.getfield 12, 3) := by decide +kernel
theorem dX5_write_70 : decode cX5_write 70 = .ok (.iload_n 1, 1) := by decide +kernel
theorem dX5_write_71 : decode cX5_write 71 = .ok (.iload_n 2, 1) := by decide +kernel
theorem dX5_write_72 : decode cX5_write 72 = .ok (.invokevirtual 152, 3) := by decide +kernel
theorem dX5_write_75 : decode cX5_write 75 = .ok (.ireturn, 1) := by decide +kernel
theorem dX5_read_0 : decode cX5_read 0 = .ok (.aload_n 0, 1) := by decide +kernel
theorem dX5_read_1 : decode cX5_read 1 = .ok (.getfield 12, 3) := by decide +kernel
theorem dX5_read_4 : decode cX5_read 4 = .ok (.iload_n 1, 1) := by decide +kernel
theorem dX5_read_5 : decode cX5_read 5 = .ok (.invokevirtual 140, 3) := by decide +kernel
theorem dX5_read_8 : decode cX5_read 8 = .ok (.ifCond .ne 13, 3) := by decide +kernel
theorem dX5_read_11 : decode cX5_read 11 = .ok (.new 48, 3) := by decide +kernel
theorem dX5_read_14 : decode cX5_read 14 = .ok (.dup, 1) := by decide +kernel
theorem dX5_read_15 : decode cX5_read 15 = .ok (.ldc 143, 2) := by decide +kernel
theorem dX5_read_17 : decode cX5_read 17 = .ok (.invokespecial 52, 3) := by decide +kernel
theorem dX5_read_20 : decode cX5_read 20 = .ok (.athrow, 1) := by decide +kernel
theorem dX5_read_21 : decode cX5_read 21 = .ok (.aload_n 0, 1) := by decide +kernel
theorem dX5_read_22 : decode cX5_read 22 = .ok (.getfield 12, 3) := by decide +kernel
theorem dX5_read_25 : decode cX5_read 25 = .ok (.iload_n 1, 1) := by decide +kernel
theorem dX5_read_26 : decode cX5_read 26 = .ok (.invokevirtual 147, 3) := by decide +kernel
theorem dX5_read_29 : decode cX5_read 29 = .ok (.ifCond .ne 13, 3) := by decide +kernel
theorem dX5_read_32 : decode cX5_read 32 = .ok (.new 73, 3) := by decide +kernel
theorem dX5_read_35 : decode cX5_read 35 = .ok (.dup, 1) := by decide +kernel
theorem dX5_read_36 : decode cX5_read 36 = .ok (.ldc 150, 2) := by decide +kernel
theorem dX5_read_38 : decode cX5_read 38 = .ok (.invokespecial 77, 3) := by decide +kernel
theorem dX5_read_41 : decode cX5_read 41 = .ok (.athrow, 1) := by decide +kernel
theorem dX5_read_42 : decode cX5_read 42 = .ok (.aload_n 0, 1) := by decide +kernel
theorem dX5_read_43 : decode cX5_read 43 = .ok (.invokevirtual 78, 3) := by decide +kernel
theorem dX5_read_46 : decode cX5_read 46 = .ok (.aload_n 0, 1) := by decide +kernel
theorem dX5_read_47 : decode cX5_read 47 = .ok (.getfield 12, 3) := by decide +kernel
theorem dX5_read_50 : decode cX5_read 50 = .ok (.iload_n 1, 1) := by decide +kernel
theorem dX5_read_51 : decode cX5_read 51 = .ok (.invokevirtual 156, 3) := by decide +kernel
theorem dX5_read_54 : decode cX5_read 54 = .ok (.ireturn, 1) := by decide +kernel
theorem dX5_rest_0 : decode cX5_rest 0 = .ok (.iload_n 1, 1) := by decide +kernel
theorem dX5_rest_1 : decode cX5_rest 1 = .ok (.iconst 1, 1) := by decide +kernel
theorem dX5_rest_2 : decode cX5_rest 2 = .ok (.bipush 99, 2) := by decide +kernel
theorem dX5_rest_4 : decode cX5_rest 4 = .ok (.invokestatic 55, 3) := by decide +kernel
theorem dX5_rest_7 : decode cX5_rest 7 = .ok (.ifCond .ne 13, 3) := by decide +kernel
theorem dX5_rest_10 : decode cX5_rest 10 = .ok (.new 59, 3) := by decide +kernel
theorem dX5_rest_13 : decode cX5_rest 13 = .ok (.dup, 1) := by decide +kernel
theorem dX5_rest_14 : decode cX5_rest 14 = .ok (.ldc 159, 2) := by decide +kernel
theorem dX5_rest_16 : decode cX5_rest 16 = .ok (.invokespecial 63, 3) := by decide +kernel
theorem dX5_rest_19 : decode cX5_rest 19 = .ok (.athrow, 1) := by decide +kernel
theorem dX5_rest_20 : decode cX5_rest 20 = .ok (.aload_n 0, 1) := by decide +kernel
theorem dX5_rest_21 : decode cX5_rest 21 = .ok (.invokevirtual 78, 3) := by decide +kernel
theorem dX5_rest_24 : decode cX5_rest 24 = .ok (.aload_n 0, 1) := by decide +kernel
theorem dX5_rest_25 : decode cX5_rest 25 = .ok (.getfield 12, 3) := by decide +kernel
theorem dX5_rest_28 : decode cX5_rest 28 = .ok (.getfield 85, 3) := by decide +kernel
theorem dX5_rest_31 : decode cX5_rest 31 = .ok (.iload_n 1, 1) := by decide +kernel
theorem dX5_rest_32 : decode cX5_rest 32 = .ok (.invokevirtual 161, 3) := by decide +kernel
theorem dX5_rest_35 : decode cX5_rest 35 = .ok (.aload_n 0, 1) := by decide +kernel
theorem dX5_rest_36 : decode cX5_rest 36 = .ok (.getfield 12, 3) := by decide +kernel
theorem dX5_rest_39 : decode cX5_rest 39 = .ok (.getfield 85, 3) := by decide +kernel
theorem dX5_rest_42 : decode cX5_rest 42 = .ok (.getfield 164, 3) := by decide +kernel
theorem dX5_rest_45 : decode cX5_rest 45 = .ok (.ireturn, 1) := by decide +kernel
theorem dX5_set_0 : decode cX5_set 0 = .ok (.iload_n 1, 1) := by decide +kernel
theorem dX5_set_1 : decode cX5_set 1 = .ok (.iconst 0, 1) := by decide +kernel
theorem dX5_set_2 : decode cX5_set 2 = .ok (.iconst 1, 1) := by decide +kernel
theorem dX5_set_3 : decode cX5_set 3 = .ok (.invokestatic 55, 3) := by decide +kernel
theorem dX5_set_6 : decode cX5_set 6 = .ok (.ifCond .ne 13, 3) := by decide +kernel
theorem dX5_set_9 : decode cX5_set 9 = .ok (.new 48, 3) := by decide +kernel
theorem dX5_set_12 : decode cX5_set 12 = .ok (.dup, 1) := by decide +kernel
theorem dX5_set_13 : decode cX5_set 13 = .ok (.ldc 167, 2) := by decide +kernel
theorem dX5_set_15 : decode cX5_set 15 = .ok (.invokespecial 52, 3) := by decide +kernel
theorem dX5_set_18 : decode cX5_set 18 = .ok (.athrow, 1) := by decide +kernel
theorem dX5_set_19 : decode cX5_set 19 = .ok (.iload_n 2, 1) := by decide +kernel
theorem dX5_set_20 : decode cX5_set 20 = .ok (.iconst 0, 1) := by decide +kernel
theorem dX5_set_21 : decode cX5_set 21 = .ok (.iload_n 1, 1) := by decide +kernel
theorem dX5_set_22 : decode cX5_set 22 = .ok (.ifCond .ne 7, 3) := by decide +kernel
theorem dX5_set_25 : decode cX5_set 25 = .ok (.iconst 2, 1) := by decide +kernel
theorem dX5_set_26 : decode cX5_set 26 = .ok (.goto 4, 3) := by decide +kernel
theorem dX5_set_29 : decode cX5_set 29 = .ok (.iconst 1, 1) := by decide +kernel
theorem dX5_set_30 : decode cX5_set 30 = .ok (.invokestatic 55, 3) := by decide +kernel
theorem dX5_set_33 : decode cX5_set 33 = .ok (.ifCond .ne 13, 3) := by decide +kernel
theorem dX5_set_36 : decode cX5_set 36 = .ok (.new 59, 3) := by decide +kernel
theorem dX5_set_39 : decode cX5_set 39 = .ok (.dup, 1) := by decide +kernel
theorem dX5_set_40 : decode cX5_set 40 = .ok (.ldc 169, 2) := by decide +kernel
theorem dX5_set_42 : decode cX5_set 42 = .ok (.invokespecial 63, 3) := by decide +kernel
theorem dX5_set_45 : decode cX5_set 45 = .ok (.athrow, 1) := by decide +kernel
theorem dX5_set_46 : decode cX5_set 46 = .ok (.aload_n 0, 1) := by decide +kernel
theorem dX5_set_47 : decode cX5_set 47 = .ok (.invokevirtual 78, 3) := by decide +kernel
theorem dX5_set_50 : decode cX5_set 50 = .ok (.aload_n 0, 1) := by decide +kernel
theorem dX5_set_51 : decode cX5_set 51 = .ok (.getfield 12, 3) := by decide +kernel
theorem dX5_set_54 : decode cX5_set 54 = .ok (.iload_n 1, 1) := by decide +kernel
theorem dX5_set_55 : decode cX5_set 55 = .ok (.iload_n 2, 1) := by decide +kernel
theorem dX5_set_56 : decode cX5_set 56 = .ok (.invokevirtual 171, 3) := by decide +kernel
theorem dX5_set_59 : decode cX5_set 59 = .ok (.ireturn, 1) := by decide +kernel
theorem dX5_append_0 : decode cX5_append 0 = .ok (.iload_n 1, 1) := by decide +kernel
theorem dX5_append_1 : decode cX5_append 1 = .ok (.bipush 33, 2) := by decide +kernel
theorem dX5_append_3 : decode cX5_append 3 = .ok (.bipush 126, 2) := by decide +kernel
theorem dX5_append_5 : decode cX5_append 5 = .ok (.invokestatic 55, 3) := by decide +kernel
theorem dX5_append_8 : decode cX5_append 8 = .ok (.ifCond .ne 13, 3) := by decide +kernel
theorem dX5_append_11 : decode cX5_append 11 = .ok (.new 59, 3) := by decide +kernel
theorem dX5_append_14 : decode cX5_append 14 = .ok (.dup, 1) := by decide +kernel
theorem dX5_append_15 : decode cX5_append 15 = .ok (.ldc 174, 2) := by decide +kernel
theorem dX5_append_17 : decode cX5_append 17 = .ok (.invokespecial 63, 3) := by decide +kernel
theorem dX5_append_20 : decode cX5_append 20 = .ok (.athrow, 1) := by decide +kernel
theorem dX5_append_21 : decode cX5_append 21 = .ok (.aload_n 0, 1) := by decide +kernel
theorem dX5_append_22 : decode cX5_append 22 = .ok (.getfield 26, 3) := by decide +kernel
theorem dX5_append_25 : decode cX5_append 25 = .ok (.invokevirtual 176, 3) := by decide +kernel
theorem dX5_append_28 : decode cX5_append 28 = .ok (.ifCond .eq 13, 3) := by decide +kernel
theorem dX5_append_31 : decode cX5_append 31 = .ok (.new 73, 3) := by decide +kernel
theorem dX5_append_34 : decode cX5_append 34 = .ok (.dup, 1) := by decide +kernel
theorem dX5_append_35 : decode cX5_append 35 = .ok (.ldc 179, 2) := by decide +kernel
theorem dX5_append_37 : decode cX5_append 37 = .ok (.invokespecial 77, 3) := by decide +kernel
theorem dX5_append_40 : decode cX5_append 40 = .ok (.athrow, 1) := by decide +kernel
theorem dX5_append_41 : decode cX5_append 41 = .ok (.aload_n 0, 1) := by decide +kernel
theorem dX5_append_42 : decode cX5_append 42 = .ok (.getfield 26, 3) := by decide +kernel
theorem dX5_append_45 : decode cX5_append 45 = .ok (.iload_n 1, 1) := by decide +kernel
theorem dX5_append_46 : decode cX5_append 46 = .ok (.invokevirtual 181, 3) := by decide +kernel
theorem dX5_append_49 : decode cX5_append 49 = .ok (.aload_n 0, 1) := by decide +kernel
theorem dX5_append_50 : decode cX5_append 50 = .ok (.getfield 26, 3) := by decide +kernel
theorem dX5_append_53 : decode cX5_append 53 = .ok (.getfield 184, 3) := by decide +kernel
theorem dX5_append_56 : decode cX5_append 56 = .ok (.ireturn, 1) := by decide +kernel
theorem dX5_clearBuffer_0 : decode cX5_clearBuffer 0 = .ok (.aload_n 0, 1) := by decide +kernel
theorem dX5_clearBuffer_1 : decode cX5_clearBuffer 1 = .ok (.getfield 26, 3) := by decide +kernel
theorem dX5_clearBuffer_4 : decode cX5_clearBuffer 4 = .ok (.getfield 184, 3) := by decide +kernel
theorem dX5_clearBuffer_7 : decode cX5_clearBuffer 7 = .ok (.istore_n 1, 1) := by decide +kernel
theorem dX5_clearBuffer_8 : decode cX5_clearBuffer 8 = .ok (.aload_n 0, 1) := by decide +kernel
theorem dX5_clearBuffer_9 : decode cX5_clearBuffer 9 = .ok (.getfield 26, 3) := by decide +kernel
theorem dX5_clearBuffer_12 : decode cX5_clearBuffer 12 = .ok (.invokevirtual 187, 3) := by decide +kernel
theorem dX5_clearBuffer_15 : decode cX5_clearBuffer 15 = .ok (.iload_n 1, 1) := by decide +kernel
theorem dX5_clearBuffer_16 : decode cX5_clearBuffer 16 = .ok (.ireturn, 1) := by decide +kernel
theorem dX5_firstError_0 : decode cX5_firstError 0 = .ok (.aload_n 0, 1) := by decide +kernel
theorem dX5_firstError_1 : decode cX5_firstError 1 = .ok (.getfield 26, 3) := by decide +kernel
theorem dX5_firstError_4 : decode cX5_firstError 4 = .ok (.invokevirtual 190, 3) := by decide +kernel
theorem dX5_firstError_7 : decode cX5_firstError 7 = .ok (.ireturn, 1) := by decide +kernel
theorem dX5_run_0 : decode cX5_run 0 = .ok (.aload_n 0, 1) := by decide +kernel
theorem dX5_run_1 : decode cX5_run 1 = .ok (.getfield 26, 3) := by decide +kernel
theorem dX5_run_4 : decode cX5_run 4 = .ok (.invokevirtual 193, 3) := by decide +kernel
theorem dX5_run_7 : decode cX5_run 7 = .ok (.ifCond .ne 13, 3) := by decide +kernel
theorem dX5_run_10 : decode cX5_run 10 = .ok (.new 59, 3) := by decide +kernel
theorem dX5_run_13 : decode cX5_run 13 = .ok (.dup, 1) := by decide +kernel
theorem dX5_run_14 : decode cX5_run 14 = .ok (.ldc 196, 2) := by decide +kernel
theorem dX5_run_16 : decode cX5_run 16 = .ok (.invokespecial 63, 3) := by decide +kernel
theorem dX5_run_19 : decode cX5_run 19 = .ok (.athrow, 1) := by decide +kernel
theorem dX5_run_20 : decode cX5_run 20 = .ok (.aload_n 0, 1) := by decide +kernel
theorem dX5_run_21 : decode cX5_run 21 = .ok (.invokevirtual 78, 3) := by decide +kernel
theorem dX5_run_24 : decode cX5_run 24 = .ok (.aload_n 0, 1) := by decide +kernel
theorem dX5_run_25 : decode cX5_run 25 = .ok (.getfield 12, 3) := by decide +kernel
theorem dX5_run_28 : decode cX5_run 28 = .ok (.aload_n 0, 1) := by decide +kernel
theorem dX5_run_29 : decode cX5_run 29 = .ok (.getfield 26, 3) := by decide +kernel
theorem dX5_run_32 : decode cX5_run 32 = .ok (.invokevirtual 198, 3) := by decide +kernel
theorem dX5_run_35 : decode cX5_run 35 = .ok (.istore_n 1, 1) := by decide +kernel
theorem dX5_run_36 : decode cX5_run 36 = .ok (.aload_n 0, 1) := by decide +kernel
theorem dX5_run_37 : decode cX5_run 37 = .ok (.getfield 26, 3) := by decide +kernel
theorem dX5_run_40 : decode cX5_run 40 = .ok (.invokevirtual 187, 3) := by decide +kernel
theorem dX5_run_43 : decode cX5_run 43 = .ok (.iload_n 1, 1) := by decide +kernel
theorem dX5_run_44 : decode cX5_run 44 = .ok (.ireturn, 1) := by decide +kernel
theorem dX5_keep_0 : decode cX5_keep 0 = .ok (.aload_n 0, 1) := by decide +kernel
theorem dX5_keep_1 : decode cX5_keep 1 = .ok (.getfield 16, 3) := by decide +kernel
theorem dX5_keep_4 : decode cX5_keep 4 = .ok (.aload_n 0, 1) := by decide +kernel
theorem dX5_keep_5 : decode cX5_keep 5 = .ok (.getfield 12, 3) := by decide +kernel
theorem dX5_keep_8 : decode cX5_keep 8 = .ok (.invokevirtual 202, 3) := by decide +kernel
theorem dX5_keep_11 : decode cX5_keep 11 = .ok (.aload_n 0, 1) := by decide +kernel
theorem dX5_keep_12 : decode cX5_keep 12 = .ok (.iconst 1, 1) := by decide +kernel
theorem dX5_keep_13 : decode cX5_keep 13 = .ok (.putfield 206, 3) := by decide +kernel
theorem dX5_keep_16 : decode cX5_keep 16 = .ok (.aload_n 0, 1) := by decide +kernel
theorem dX5_keep_17 : decode cX5_keep 17 = .ok (.getfield 12, 3) := by decide +kernel
theorem dX5_keep_20 : decode cX5_keep 20 = .ok (.getfield 85, 3) := by decide +kernel
theorem dX5_keep_23 : decode cX5_keep 23 = .ok (.getfield 164, 3) := by decide +kernel
theorem dX5_keep_26 : decode cX5_keep 26 = .ok (.ireturn, 1) := by decide +kernel
theorem dX5_goBack_0 : decode cX5_goBack 0 = .ok (.aload_n 0, 1) := by decide +kernel
theorem dX5_goBack_1 : decode cX5_goBack 1 = .ok (.getfield 206, 3) := by decide +kernel
theorem dX5_goBack_4 : decode cX5_goBack 4 = .ok (.ifCond .ne 13, 3) := by decide +kernel
theorem dX5_goBack_7 : decode cX5_goBack 7 = .ok (.new 73, 3) := by decide +kernel
theorem dX5_goBack_10 : decode cX5_goBack 10 = .ok (.dup, 1) := by decide +kernel
theorem dX5_goBack_11 : decode cX5_goBack 11 = .ok (.ldc 210, 2) := by decide +kernel
theorem dX5_goBack_13 : decode cX5_goBack 13 = .ok (.invokespecial 77, 3) := by decide +kernel
theorem dX5_goBack_16 : decode cX5_goBack 16 = .ok (.athrow, 1) := by decide +kernel
theorem dX5_goBack_17 : decode cX5_goBack 17 = .ok (.aload_n 0, 1) := by decide +kernel
theorem dX5_goBack_18 : decode cX5_goBack 18 = .ok (.invokevirtual 78, 3) := by decide +kernel
theorem dX5_goBack_21 : decode cX5_goBack 21 = .ok (.aload_n 0, 1) := by decide +kernel
theorem dX5_goBack_22 : decode cX5_goBack 22 = .ok (.getfield 12, 3) := by decide +kernel
theorem dX5_goBack_25 : decode cX5_goBack 25 = .ok (.aload_n 0, 1) := by decide +kernel
theorem dX5_goBack_26 : decode cX5_goBack 26 = .ok (.getfield 16, 3) := by decide +kernel
theorem dX5_goBack_29 : decode cX5_goBack 29 = .ok (.invokevirtual 202, 3) := by decide +kernel
theorem dX5_goBack_32 : decode cX5_goBack 32 = .ok (.aload_n 0, 1) := by decide +kernel
theorem dX5_goBack_33 : decode cX5_goBack 33 = .ok (.getfield 12, 3) := by decide +kernel
theorem dX5_goBack_36 : decode cX5_goBack 36 = .ok (.getfield 85, 3) := by decide +kernel
theorem dX5_goBack_39 : decode cX5_goBack 39 = .ok (.getfield 164, 3) := by decide +kernel
theorem dX5_goBack_42 : decode cX5_goBack 42 = .ok (.ireturn, 1) := by decide +kernel
theorem dX5_undo_0 : decode cX5_undo 0 = .ok (.aload_n 0, 1) := by decide +kernel
theorem dX5_undo_1 : decode cX5_undo 1 = .ok (.getfield 212, 3) := by decide +kernel
theorem dX5_undo_4 : decode cX5_undo 4 = .ok (.iconst 1, 1) := by decide +kernel
theorem dX5_undo_5 : decode cX5_undo 5 = .ok (.if_icmp .lt 12, 3) := by decide +kernel
theorem dX5_undo_8 : decode cX5_undo 8 = .ok (.aload_n 0, 1) := by decide +kernel
theorem dX5_undo_9 : decode cX5_undo 9 = .ok (.getfield 212, 3) := by decide +kernel
theorem dX5_undo_12 : decode cX5_undo 12 = .ok (.bipush 6, 2) := by decide +kernel
theorem dX5_undo_14 : decode cX5_undo 14 = .ok (.if_icmp .le 13, 3) := by decide +kernel
theorem dX5_undo_17 : decode cX5_undo 17 = .ok (.new 73, 3) := by decide +kernel
theorem dX5_undo_20 : decode cX5_undo 20 = .ok (.dup, 1) := by decide +kernel
theorem dX5_undo_21 : decode cX5_undo 21 = .ok (.ldc 215, 2) := by decide +kernel
theorem dX5_undo_23 : decode cX5_undo 23 = .ok (.invokespecial 77, 3) := by decide +kernel
theorem dX5_undo_26 : decode cX5_undo 26 = .ok (.athrow, 1) := by decide +kernel
theorem dX5_undo_27 : decode cX5_undo 27 = .ok (.aload_n 0, 1) := by decide +kernel
theorem dX5_undo_28 : decode cX5_undo 28 = .ok (.dup, 1) := by decide +kernel
theorem dX5_undo_29 : decode cX5_undo 29 = .ok (.getfield 212, 3) := by decide +kernel
theorem dX5_undo_32 : decode cX5_undo 32 = .ok (.iconst 1, 1) := by decide +kernel
theorem dX5_undo_33 : decode cX5_undo 33 = .ok (.isub, 1) := by decide +kernel
theorem dX5_undo_34 : decode cX5_undo 34 = .ok (.putfield 212, 3) := by decide +kernel
theorem dX5_undo_37 : decode cX5_undo 37 = .ok (.aload_n 0, 1) := by decide +kernel
theorem dX5_undo_38 : decode cX5_undo 38 = .ok (.getfield 19, 3) := by decide +kernel
theorem dX5_undo_41 : decode cX5_undo 41 = .ok (.aload_n 0, 1) := by decide +kernel
theorem dX5_undo_42 : decode cX5_undo 42 = .ok (.getfield 212, 3) := by decide +kernel
theorem dX5_undo_45 : decode cX5_undo 45 = .ok (.aaload, 1) := by decide +kernel
theorem dX5_undo_46 : decode cX5_undo 46 = .ok (.astore_n 1, 1) := by decide +kernel
theorem dX5_undo_47 : decode cX5_undo 47 = .ok (.aload_n 1, 1) := by decide +kernel
theorem dX5_undo_48 : decode cX5_undo 48 = .ok (.ifnull 11, 3) := by decide +kernel
theorem dX5_undo_51 : decode cX5_undo 51 = .ok (.aload_n 0, 1) := by decide +kernel
theorem dX5_undo_52 : decode cX5_undo 52 = .ok (.getfield 12, 3) := by decide +kernel
theorem dX5_undo_55 : decode cX5_undo 55 = .ok (.aload_n 1, 1) := by decide +kernel
theorem dX5_undo_56 : decode cX5_undo 56 = .ok (.invokevirtual 202, 3) := by decide +kernel
theorem dX5_undo_59 : decode cX5_undo 59 = .ok (.aload_n 0, 1) := by decide +kernel
theorem dX5_undo_60 : decode cX5_undo 60 = .ok (.getfield 212, 3) := by decide +kernel
theorem dX5_undo_63 : decode cX5_undo 63 = .ok (.ireturn, 1) := by decide +kernel
theorem dX5_slot_0 : decode cX5_slot 0 = .ok (.iload_n 1, 1) := by decide +kernel
theorem dX5_slot_1 : decode cX5_slot 1 = .ok (.invokestatic 44, 3) := by decide +kernel
theorem dX5_slot_4 : decode cX5_slot 4 = .ok (.ifCond .ne 13, 3) := by decide +kernel
theorem dX5_slot_7 : decode cX5_slot 7 = .ok (.new 48, 3) := by decide +kernel
theorem dX5_slot_10 : decode cX5_slot 10 = .ok (.dup, 1) := by decide +kernel
theorem dX5_slot_11 : decode cX5_slot 11 = .ok (.ldc 50, 2) := by decide +kernel
theorem dX5_slot_13 : decode cX5_slot 13 = .ok (.invokespecial 52, 3) := by decide +kernel
theorem dX5_slot_16 : decode cX5_slot 16 = .ok (.athrow, 1) := by decide +kernel
theorem dX5_slot_17 : decode cX5_slot 17 = .ok (.iload_n 2, 1) := by decide +kernel
theorem dX5_slot_18 : decode cX5_slot 18 = .ok (.iconst 0, 1) := by decide +kernel
theorem dX5_slot_19 : decode cX5_slot 19 = .ok (.bipush 7, 2) := by decide +kernel
theorem dX5_slot_21 : decode cX5_slot 21 = .ok (.invokestatic 55, 3) := by decide +kernel
theorem dX5_slot_24 : decode cX5_slot 24 = .ok (.ifCond .ne 13, 3) := by decide +kernel
theorem dX5_slot_27 : decode cX5_slot 27 = .ok (.new 59, 3) := by decide +kernel
theorem dX5_slot_30 : decode cX5_slot 30 = .ok (.dup, 1) := by decide +kernel
theorem dX5_slot_31 : decode cX5_slot 31 = .ok (.ldc 217, 2) := by decide +kernel
theorem dX5_slot_33 : decode cX5_slot 33 = .ok (.invokespecial 63, 3) := by decide +kernel
theorem dX5_slot_36 : decode cX5_slot 36 = .ok (.athrow, 1) := by decide +kernel
theorem dX5_slot_37 : decode cX5_slot 37 = .ok (.aload_n 0, 1) := by decide +kernel
theorem dX5_slot_38 : decode cX5_slot 38 = .ok (.getfield 12, 3) := by decide +kernel
theorem dX5_slot_41 : decode cX5_slot 41 = .ok (.iload_n 1, 1) := by decide +kernel
theorem dX5_slot_42 : decode cX5_slot 42 = .ok (.iload_n 2, 1) := by decide +kernel
theorem dX5_slot_43 : decode cX5_slot 43 = .ok (.invokevirtual 219, 3) := by decide +kernel
theorem dX5_slot_46 : decode cX5_slot 46 = .ok (.ireturn, 1) := by decide +kernel
theorem dX5_where_0 : decode cX5_where 0 = .ok (.aload_n 0, 1) := by decide +kernel
theorem dX5_where_1 : decode cX5_where 1 = .ok (.getfield 12, 3) := by decide +kernel
theorem dX5_where_4 : decode cX5_where 4 = .ok (.iload_n 1, 1) := by decide +kernel
theorem dX5_where_5 : decode cX5_where 5 = .ok (.invokevirtual 140, 3) := by decide +kernel
theorem dX5_where_8 : decode cX5_where 8 = .ok (.ifCond .ne 13, 3) := by decide +kernel
theorem dX5_where_11 : decode cX5_where 11 = .ok (.new 48, 3) := by decide +kernel
theorem dX5_where_14 : decode cX5_where 14 = .ok (.dup, 1) := by decide +kernel
theorem dX5_where_15 : decode cX5_where 15 = .ok (.ldc 143, 2) := by decide +kernel
theorem dX5_where_17 : decode cX5_where 17 = .ok (.invokespecial 52, 3) := by decide +kernel
theorem dX5_where_20 : decode cX5_where 20 = .ok (.athrow, 1) := by decide +kernel
theorem dX5_where_21 : decode cX5_where 21 = .ok (.iload_n 2, 1) := by decide +kernel
theorem dX5_where_22 : decode cX5_where 22 = .ok (.iconst 0, 1) := by decide +kernel
theorem dX5_where_23 : decode cX5_where 23 = .ok (.bipush 6, 2) := by decide +kernel
theorem dX5_where_25 : decode cX5_where 25 = .ok (.invokestatic 55, 3) := by decide +kernel
theorem dX5_where_28 : decode cX5_where 28 = .ok (.ifCond .ne 13, 3) := by decide +kernel
theorem dX5_where_31 : decode cX5_where 31 = .ok (.new 59, 3) := by decide +kernel
theorem dX5_where_34 : decode cX5_where 34 = .ok (.dup, 1) := by decide +kernel
theorem dX5_where_35 : decode cX5_where 35 = .ok (.ldc 222, 2) := by decide +kernel
theorem dX5_where_37 : decode cX5_where 37 = .ok (.invokespecial 63, 3) := by decide +kernel
theorem dX5_where_40 : decode cX5_where 40 = .ok (.athrow, 1) := by decide +kernel
theorem dX5_where_41 : decode cX5_where 41 = .ok (.aload_n 0, 1) := by decide +kernel
theorem dX5_where_42 : decode cX5_where 42 = .ok (.getfield 12, 3) := by decide +kernel
theorem dX5_where_45 : decode cX5_where 45 = .ok (.iload_n 1, 1) := by decide +kernel
theorem dX5_where_46 : decode cX5_where 46 = .ok (.iload_n 2, 1) := by decide +kernel
theorem dX5_where_47 : decode cX5_where 47 = .ok (.invokevirtual 224, 3) := by decide +kernel
theorem dX5_where_50 : decode cX5_where 50 = .ok (.ireturn, 1) := by decide +kernel
theorem dX5_lies_0 : decode cX5_lies 0 = .ok (.iload_n 1, 1) := by decide +kernel
theorem dX5_lies_1 : decode cX5_lies 1 = .ok (.invokestatic 44, 3) := by decide +kernel
theorem dX5_lies_4 : decode cX5_lies 4 = .ok (.ifCond .eq 13, 3) := by decide +kernel
theorem dX5_lies_7 : decode cX5_lies 7 = .ok (.iload_n 2, 1) := by decide +kernel
theorem dX5_lies_8 : decode cX5_lies 8 = .ok (.iconst 0, 1) := by decide +kernel
theorem dX5_lies_9 : decode cX5_lies 9 = .ok (.bipush 11, 2) := by decide +kernel
theorem dX5_lies_11 : decode cX5_lies 11 = .ok (.invokestatic 55, 3) := by decide +kernel
theorem dX5_lies_14 : decode cX5_lies 14 = .ok (.ifCond .ne 13, 3) := by decide +kernel
theorem dX5_lies_17 : decode cX5_lies 17 = .ok (.new 48, 3) := by decide +kernel
theorem dX5_lies_20 : decode cX5_lies 20 = .ok (.dup, 1) := by decide +kernel
theorem dX5_lies_21 : decode cX5_lies 21 = .ok (.ldc 227, 2) := by decide +kernel
theorem dX5_lies_23 : decode cX5_lies 23 = .ok (.invokespecial 52, 3) := by decide +kernel
theorem dX5_lies_26 : decode cX5_lies 26 = .ok (.athrow, 1) := by decide +kernel
theorem dX5_lies_27 : decode cX5_lies 27 = .ok (.aload_n 0, 1) := by decide +kernel
theorem dX5_lies_28 : decode cX5_lies 28 = .ok (.getfield 12, 3) := by decide +kernel
theorem dX5_lies_31 : decode cX5_lies 31 = .ok (.getfield 125, 3) := by decide +kernel
theorem dX5_lies_34 : decode cX5_lies 34 = .ok (.iload_n 1, 1) := by decide +kernel
theorem dX5_lies_35 : decode cX5_lies 35 = .ok (.iload_n 2, 1) := by decide +kernel
theorem dX5_lies_36 : decode cX5_lies 36 = .ok (.invokevirtual 229, 3) := by decide +kernel
theorem dX5_lies_39 : decode cX5_lies 39 = .ok (.ireturn, 1) := by decide +kernel
theorem dX5_count_0 : decode cX5_count 0 = .ok (.iload_n 1, 1) := by decide +kernel
theorem dX5_count_1 : decode cX5_count 1 = .ok (.iconst 0, 1) := by decide +kernel
theorem dX5_count_2 : decode cX5_count 2 = .ok (.bipush 11, 2) := by decide +kernel
theorem dX5_count_4 : decode cX5_count 4 = .ok (.invokestatic 55, 3) := by decide +kernel
theorem dX5_count_7 : decode cX5_count 7 = .ok (.ifCond .ne 13, 3) := by decide +kernel
theorem dX5_count_10 : decode cX5_count 10 = .ok (.new 59, 3) := by decide +kernel
theorem dX5_count_13 : decode cX5_count 13 = .ok (.dup, 1) := by decide +kernel
theorem dX5_count_14 : decode cX5_count 14 = .ok (.ldc 232, 2) := by decide +kernel
theorem dX5_count_16 : decode cX5_count 16 = .ok (.invokespecial 63, 3) := by decide +kernel
theorem dX5_count_19 : decode cX5_count 19 = .ok (.athrow, 1) := by decide +kernel
theorem dX5_count_20 : decode cX5_count 20 = .ok (.aload_n 0, 1) := by decide +kernel
theorem dX5_count_21 : decode cX5_count 21 = .ok (.iload_n 1, 1) := by decide +kernel
theorem dX5_count_22 : decode cX5_count 22 = .ok (.invokevirtual 234, 3) := by decide +kernel
theorem dX5_count_25 : decode cX5_count 25 = .ok (.ireturn, 1) := by decide +kernel
theorem dX5_setting_0 : decode cX5_setting 0 = .ok (.iload_n 1, 1) := by decide +kernel
theorem dX5_setting_1 : decode cX5_setting 1 = .ok (.iconst 0, 1) := by decide +kernel
theorem dX5_setting_2 : decode cX5_setting 2 = .ok (.iconst 1, 1) := by decide +kernel
theorem dX5_setting_3 : decode cX5_setting 3 = .ok (.invokestatic 55, 3) := by decide +kernel
theorem dX5_setting_6 : decode cX5_setting 6 = .ok (.ifCond .ne 13, 3) := by decide +kernel
theorem dX5_setting_9 : decode cX5_setting 9 = .ok (.new 48, 3) := by decide +kernel
theorem dX5_setting_12 : decode cX5_setting 12 = .ok (.dup, 1) := by decide +kernel
theorem dX5_setting_13 : decode cX5_setting 13 = .ok (.ldc 167, 2) := by decide +kernel
theorem dX5_setting_15 : decode cX5_setting 15 = .ok (.invokespecial 52, 3) := by decide +kernel
theorem dX5_setting_18 : decode cX5_setting 18 = .ok (.athrow, 1) := by decide +kernel
theorem dX5_setting_19 : decode cX5_setting 19 = .ok (.aload_n 0, 1) := by decide +kernel
theorem dX5_setting_20 : decode cX5_setting 20 = .ok (.getfield 12, 3) := by decide +kernel
theorem dX5_setting_23 : decode cX5_setting 23 = .ok (.iload_n 1, 1) := by decide +kernel
theorem dX5_setting_24 : decode cX5_setting 24 = .ok (.invokevirtual 237, 3) := by decide +kernel
theorem dX5_setting_27 : decode cX5_setting 27 = .ok (.ireturn, 1) := by decide +kernel
theorem dX5_why_0 : decode cX5_why 0 = .ok (.aload_n 0, 1) := by decide +kernel
theorem dX5_why_1 : decode cX5_why 1 = .ok (.getfield 12, 3) := by decide +kernel
theorem dX5_why_4 : decode cX5_why 4 = .ok (.getfield 64, 3) := by decide +kernel
theorem dX5_why_7 : decode cX5_why 7 = .ok (.aload_n 0, 1) := by decide +kernel
theorem dX5_why_8 : decode cX5_why 8 = .ok (.getfield 12, 3) := by decide +kernel
theorem dX5_why_11 : decode cX5_why 11 = .ok (.getfield 113, 3) := by decide +kernel
theorem dX5_why_14 : decode cX5_why 14 = .ok (.invokevirtual 117, 3) := by decide +kernel
theorem dX5_why_17 : decode cX5_why 17 = .ok (.ireturn, 1) := by decide +kernel
theorem dX5_sweep_0 : decode cX5_sweep 0 = .ok (.iload_n 1, 1) := by decide +kernel
theorem dX5_sweep_1 : decode cX5_sweep 1 = .ok (.iconst 0, 1) := by decide +kernel
theorem dX5_sweep_2 : decode cX5_sweep 2 = .ok (.iconst 2, 1) := by decide +kernel
theorem dX5_sweep_3 : decode cX5_sweep 3 = .ok (.invokestatic 55, 3) := by decide +kernel
theorem dX5_sweep_6 : decode cX5_sweep 6 = .ok (.ifCond .ne 13, 3) := by decide +kernel
theorem dX5_sweep_9 : decode cX5_sweep 9 = .ok (.new 59, 3) := by decide +kernel
theorem dX5_sweep_12 : decode cX5_sweep 12 = .ok (.dup, 1) := by decide +kernel
theorem dX5_sweep_13 : decode cX5_sweep 13 = .ok (.ldc 240, 2) := by decide +kernel
theorem dX5_sweep_15 : decode cX5_sweep 15 = .ok (.invokespecial 63, 3) := by decide +kernel
theorem dX5_sweep_18 : decode cX5_sweep 18 = .ok (.athrow, 1) := by decide +kernel
theorem dX5_sweep_19 : decode cX5_sweep 19 = .ok (.aload_n 0, 1) := by decide +kernel
theorem dX5_sweep_20 : decode cX5_sweep 20 = .ok (.iload_n 1, 1) := by decide +kernel
theorem dX5_sweep_21 : decode cX5_sweep 21 = .ok (.invokevirtual 242, 3) := by decide +kernel
theorem dX5_sweep_24 : decode cX5_sweep 24 = .ok (.ireturn, 1) := by decide +kernel
theorem dX5_ifStarted_0 : decode cX5_ifStarted 0 = .ok (.iload_n 1, 1) := by decide +kernel
theorem dX5_ifStarted_1 : decode cX5_ifStarted 1 = .ok (.iconst 0, 1) := by decide +kernel
theorem dX5_ifStarted_2 : decode cX5_ifStarted 2 = .ok (.iconst 2, 1) := by decide +kernel
theorem dX5_ifStarted_3 : decode cX5_ifStarted 3 = .ok (.invokestatic 55, 3) := by decide +kernel
theorem dX5_ifStarted_6 : decode cX5_ifStarted 6 = .ok (.ifCond .eq 12, 3) := by decide +kernel
theorem dX5_ifStarted_9 : decode cX5_ifStarted 9 = .ok (.iload_n 2, 1) := by decide +kernel
theorem dX5_ifStarted_10 : decode cX5_ifStarted 10 = .ok (.iconst 0, 1) := by decide +kernel
theorem dX5_ifStarted_11 : decode cX5_ifStarted 11 = .ok (.iconst 1, 1) := by decide +kernel
theorem dX5_ifStarted_12 : decode cX5_ifStarted 12 = .ok (.invokestatic 55, 3) := by decide +kernel
theorem dX5_ifStarted_15 : decode cX5_ifStarted 15 = .ok (.ifCond .ne 13, 3) := by decide +kernel
theorem dX5_ifStarted_18 : decode cX5_ifStarted 18 = .ok (.new 59, 3) := by decide +kernel
theorem dX5_ifStarted_21 : decode cX5_ifStarted 21 = .ok (.dup, 1) := by decide +kernel
theorem dX5_ifStarted_22 : decode cX5_ifStarted 22 = .ok (.ldc 245, 2) := by decide +kernel
theorem dX5_ifStarted_24 : decode cX5_ifStarted 24 = .ok (.invokespecial 63, 3) := by decide +kernel
theorem dX5_ifStarted_27 : decode cX5_ifStarted 27 = .ok (.athrow, 1) := by decide +kernel
theorem dX5_ifStarted_28 : decode cX5_ifStarted 28 = .ok (.aload_n 0, 1) := by decide +kernel
theorem dX5_ifStarted_29 : decode cX5_ifStarted 29 = .ok (.iload_n 1, 1) := by decide +kernel
theorem dX5_ifStarted_30 : decode cX5_ifStarted 30 = .ok (.iload_n 2, 1) := by decide +kernel
theorem dX5_ifStarted_31 : decode cX5_ifStarted 31 = .ok (.invokevirtual 247, 3) := by decide +kernel
theorem dX5_ifStarted_34 : decode cX5_ifStarted 34 = .ok (.ireturn, 1) := by decide +kernel
theorem dX5_bestChange_0 : decode cX5_bestChange 0 = .ok (.iconst (-1), 1) := by decide +kernel
theorem dX5_bestChange_1 : decode cX5_bestChange 1 = .ok (.istore_n 1, 1) := by decide +kernel
theorem dX5_bestChange_2 : decode cX5_bestChange 2 = .ok (.aload_n 0, 1) := by decide +kernel
theorem dX5_bestChange_3 : decode cX5_bestChange 3 = .ok (.getfield 12, 3) := by decide +kernel
theorem dX5_bestChange_6 : decode cX5_bestChange 6 = .ok (.getfield 64, 3) := by decide +kernel
theorem dX5_bestChange_9 : decode cX5_bestChange 9 = .ok (.iconst 0, 1) := by decide +kernel
theorem dX5_bestChange_10 : decode cX5_bestChange 10 = .ok (.iconst 0, 1) := by decide +kernel
theorem dX5_bestChange_11 : decode cX5_bestChange 11 = .ok (.invokevirtual 250, 3) := by decide +kernel
theorem dX5_bestChange_14 : decode cX5_bestChange 14 = .ok (.istore_n 2, 1) := by decide +kernel
theorem dX5_bestChange_15 : decode cX5_bestChange 15 = .ok (.iconst 0, 1) := by decide +kernel
theorem dX5_bestChange_16 : decode cX5_bestChange 16 = .ok (.istore_n 3, 1) := by decide +kernel
theorem dX5_bestChange_17 : decode cX5_bestChange 17 = .ok (.iload_n 3, 1) := by decide +kernel
theorem dX5_bestChange_18 : decode cX5_bestChange 18 = .ok (.iconst 4, 1) := by decide +kernel
theorem dX5_bestChange_19 : decode cX5_bestChange 19 = .ok (.if_icmp .ge 57, 3) := by decide +kernel
theorem dX5_bestChange_22 : decode cX5_bestChange 22 = .ok (.iload_n 3, 1) := by decide +kernel
theorem dX5_bestChange_23 : decode cX5_bestChange 23 = .ok (.iconst 1, 1) := by decide +kernel
theorem dX5_bestChange_24 : decode cX5_bestChange 24 = .ok (.iadd, 1) := by decide +kernel
theorem dX5_bestChange_25 : decode cX5_bestChange 25 = .ok (.istore 4, 2) := by decide +kernel
theorem dX5_bestChange_27 : decode cX5_bestChange 27 = .ok (.iload 4, 2) := by decide +kernel
theorem dX5_bestChange_29 : decode cX5_bestChange 29 = .ok (.iconst 4, 1) := by decide +kernel
theorem dX5_bestChange_30 : decode cX5_bestChange 30 = .ok (.if_icmp .ge 40, 3) := by decide +kernel
theorem dX5_bestChange_33 : decode cX5_bestChange 33 = .ok (.aload_n 0, 1) := by decide +kernel
theorem dX5_bestChange_34 : decode cX5_bestChange 34 = .ok (.getfield 12, 3) := by decide +kernel
theorem dX5_bestChange_37 : decode cX5_bestChange 37 = .ok (.getfield 64, 3) := by decide +kernel
theorem dX5_bestChange_40 : decode cX5_bestChange 40 = .ok (.iload_n 3, 1) := by decide +kernel
theorem dX5_bestChange_41 : decode cX5_bestChange 41 = .ok (.iload 4, 2) := by decide +kernel
theorem dX5_bestChange_43 : decode cX5_bestChange 43 = .ok (.invokevirtual 250, 3) := by decide +kernel
theorem dX5_bestChange_46 : decode cX5_bestChange 46 = .ok (.istore 5, 2) := by decide +kernel
theorem dX5_bestChange_48 : decode cX5_bestChange 48 = .ok (.iload 5, 2) := by decide +kernel
theorem dX5_bestChange_50 : decode cX5_bestChange 50 = .ok (.iload_n 2, 1) := by decide +kernel
theorem dX5_bestChange_51 : decode cX5_bestChange 51 = .ok (.if_icmp .le 13, 3) := by decide +kernel
theorem dX5_bestChange_54 : decode cX5_bestChange 54 = .ok (.iload 5, 2) := by decide +kernel
theorem dX5_bestChange_56 : decode cX5_bestChange 56 = .ok (.istore_n 2, 1) := by decide +kernel
theorem dX5_bestChange_57 : decode cX5_bestChange 57 = .ok (.iconst 4, 1) := by decide +kernel
theorem dX5_bestChange_58 : decode cX5_bestChange 58 = .ok (.iload_n 3, 1) := by decide +kernel
theorem dX5_bestChange_59 : decode cX5_bestChange 59 = .ok (.imul, 1) := by decide +kernel
theorem dX5_bestChange_60 : decode cX5_bestChange 60 = .ok (.iload 4, 2) := by decide +kernel
theorem dX5_bestChange_62 : decode cX5_bestChange 62 = .ok (.iadd, 1) := by decide +kernel
theorem dX5_bestChange_63 : decode cX5_bestChange 63 = .ok (.istore_n 1, 1) := by decide +kernel
theorem dX5_bestChange_64 : decode cX5_bestChange 64 = .ok (.iinc 4 1, 3) := by decide +kernel
theorem dX5_bestChange_67 : decode cX5_bestChange 67 = .ok (.goto (-40), 3) := by decide +kernel
theorem dX5_bestChange_70 : decode cX5_bestChange 70 = .ok (.iinc 3 1, 3) := by decide +kernel
theorem dX5_bestChange_73 : decode cX5_bestChange 73 = .ok (.goto (-56), 3) := by decide +kernel
theorem dX5_bestChange_76 : decode cX5_bestChange 76 = .ok (.iload_n 1, 1) := by decide +kernel
theorem dX5_bestChange_77 : decode cX5_bestChange 77 = .ok (.ireturn, 1) := by decide +kernel
theorem dX5_wideShare_0 : decode cX5_wideShare 0 = .ok (.aload_n 0, 1) := by decide +kernel
theorem dX5_wideShare_1 : decode cX5_wideShare 1 = .ok (.getfield 12, 3) := by decide +kernel
theorem dX5_wideShare_4 : decode cX5_wideShare 4 = .ok (.getfield 125, 3) := by decide +kernel
theorem dX5_wideShare_7 : decode cX5_wideShare 7 = .ok (.getfield 128, 3) := by decide +kernel
theorem dX5_wideShare_10 : decode cX5_wideShare 10 = .ok (.istore_n 1, 1) := by decide +kernel
theorem dX5_wideShare_11 : decode cX5_wideShare 11 = .ok (.iload_n 1, 1) := by decide +kernel
theorem dX5_wideShare_12 : decode cX5_wideShare 12 = .ok (.ifCond .ne 7, 3) := by decide +kernel
theorem dX5_wideShare_15 : decode cX5_wideShare 15 = .ok (.dconst 0, 1) := by decide +kernel
theorem dX5_wideShare_16 : decode cX5_wideShare 16 = .ok (.goto 17, 3) := by decide +kernel
theorem dX5_wideShare_19 : decode cX5_wideShare 19 = .ok (.aload_n 0, 1) := by decide +kernel
theorem dX5_wideShare_20 : decode cX5_wideShare 20 = .ok (.getfield 12, 3) := by decide +kernel
theorem dX5_wideShare_23 : decode cX5_wideShare 23 = .ok (.getfield 125, 3) := by decide +kernel
theorem dX5_wideShare_26 : decode cX5_wideShare 26 = .ok (.getfield 253, 3) := by decide +kernel
theorem dX5_wideShare_29 : decode cX5_wideShare 29 = .ok (.i2d, 1) := by decide +kernel
theorem dX5_wideShare_30 : decode cX5_wideShare 30 = .ok (.iload_n 1, 1) := by decide +kernel
theorem dX5_wideShare_31 : decode cX5_wideShare 31 = .ok (.i2d, 1) := by decide +kernel
theorem dX5_wideShare_32 : decode cX5_wideShare 32 = .ok (.ddiv, 1) := by decide +kernel
theorem dX5_wideShare_33 : decode cX5_wideShare 33 = .ok (.dreturn, 1) := by decide +kernel
theorem dX5_meanTicks_0 : decode cX5_meanTicks 0 = .ok (.aload_n 0, 1) := by decide +kernel
theorem dX5_meanTicks_1 : decode cX5_meanTicks 1 = .ok (.getfield 12, 3) := by decide +kernel
theorem dX5_meanTicks_4 : decode cX5_meanTicks 4 = .ok (.getfield 256, 3) := by decide +kernel
theorem dX5_meanTicks_7 : decode cX5_meanTicks 7 = .ok (.istore_n 1, 1) := by decide +kernel
theorem dX5_meanTicks_8 : decode cX5_meanTicks 8 = .ok (.iload_n 1, 1) := by decide +kernel
theorem dX5_meanTicks_9 : decode cX5_meanTicks 9 = .ok (.ifCond .ne 7, 3) := by decide +kernel
theorem dX5_meanTicks_12 : decode cX5_meanTicks 12 = .ok (.fconst 0, 1) := by decide +kernel
theorem dX5_meanTicks_13 : decode cX5_meanTicks 13 = .ok (.goto 17, 3) := by decide +kernel
theorem dX5_meanTicks_16 : decode cX5_meanTicks 16 = .ok (.aload_n 0, 1) := by decide +kernel
theorem dX5_meanTicks_17 : decode cX5_meanTicks 17 = .ok (.getfield 12, 3) := by decide +kernel
theorem dX5_meanTicks_20 : decode cX5_meanTicks 20 = .ok (.getfield 85, 3) := by decide +kernel
theorem dX5_meanTicks_23 : decode cX5_meanTicks 23 = .ok (.getfield 164, 3) := by decide +kernel
theorem dX5_meanTicks_26 : decode cX5_meanTicks 26 = .ok (.i2f, 1) := by decide +kernel
theorem dX5_meanTicks_27 : decode cX5_meanTicks 27 = .ok (.iload_n 1, 1) := by decide +kernel
theorem dX5_meanTicks_28 : decode cX5_meanTicks 28 = .ok (.i2f, 1) := by decide +kernel
theorem dX5_meanTicks_29 : decode cX5_meanTicks 29 = .ok (.fdiv, 1) := by decide +kernel
theorem dX5_meanTicks_30 : decode cX5_meanTicks 30 = .ok (.freturn, 1) := by decide +kernel
theorem dX5_digest_0 : decode cX5_digest 0 = .ok (.ldc2_w 259, 3) := by decide +kernel
theorem dX5_digest_3 : decode cX5_digest 3 = .ok (.lstore_n 1, 1) := by decide +kernel
theorem dX5_digest_4 : decode cX5_digest 4 = .ok (.iconst 0, 1) := by decide +kernel
theorem dX5_digest_5 : decode cX5_digest 5 = .ok (.istore_n 3, 1) := by decide +kernel
theorem dX5_digest_6 : decode cX5_digest 6 = .ok (.iload_n 3, 1) := by decide +kernel
theorem dX5_digest_7 : decode cX5_digest 7 = .ok (.bipush 12, 2) := by decide +kernel
theorem dX5_digest_9 : decode cX5_digest 9 = .ok (.if_icmp .ge 22, 3) := by decide +kernel
theorem dX5_digest_12 : decode cX5_digest 12 = .ok (.ldc2_w 261, 3) := by decide +kernel
theorem dX5_digest_15 : decode cX5_digest 15 = .ok (.lload_n 1, 1) := by decide +kernel
theorem dX5_digest_16 : decode cX5_digest 16 = .ok (.lmul, 1) := by decide +kernel
theorem dX5_digest_17 : decode cX5_digest 17 = .ok (.aload_n 0, 1) := by decide +kernel
theorem dX5_digest_18 : decode cX5_digest 18 = .ok (.iload_n 3, 1) := by decide +kernel
theorem dX5_digest_19 : decode cX5_digest 19 = .ok (.invokevirtual 234, 3) := by decide +kernel
theorem dX5_digest_22 : decode cX5_digest 22 = .ok (.i2l, 1) := by decide +kernel
theorem dX5_digest_23 : decode cX5_digest 23 = .ok (.ladd, 1) := by decide +kernel
theorem dX5_digest_24 : decode cX5_digest 24 = .ok (.lstore_n 1, 1) := by decide +kernel
theorem dX5_digest_25 : decode cX5_digest 25 = .ok (.iinc 3 1, 3) := by decide +kernel
theorem dX5_digest_28 : decode cX5_digest 28 = .ok (.goto (-22), 3) := by decide +kernel
theorem dX5_digest_31 : decode cX5_digest 31 = .ok (.iconst 0, 1) := by decide +kernel
theorem dX5_digest_32 : decode cX5_digest 32 = .ok (.istore_n 3, 1) := by decide +kernel
theorem dX5_digest_33 : decode cX5_digest 33 = .ok (.iload_n 3, 1) := by decide +kernel
theorem dX5_digest_34 : decode cX5_digest 34 = .ok (.iconst 2, 1) := by decide +kernel
theorem dX5_digest_35 : decode cX5_digest 35 = .ok (.if_icmp .ge 25, 3) := by decide +kernel
theorem dX5_digest_38 : decode cX5_digest 38 = .ok (.ldc2_w 261, 3) := by decide +kernel
theorem dX5_digest_41 : decode cX5_digest 41 = .ok (.lload_n 1, 1) := by decide +kernel
theorem dX5_digest_42 : decode cX5_digest 42 = .ok (.lmul, 1) := by decide +kernel
theorem dX5_digest_43 : decode cX5_digest 43 = .ok (.aload_n 0, 1) := by decide +kernel
theorem dX5_digest_44 : decode cX5_digest 44 = .ok (.getfield 12, 3) := by decide +kernel
theorem dX5_digest_47 : decode cX5_digest 47 = .ok (.iload_n 3, 1) := by decide +kernel
theorem dX5_digest_48 : decode cX5_digest 48 = .ok (.invokevirtual 237, 3) := by decide +kernel
theorem dX5_digest_51 : decode cX5_digest 51 = .ok (.i2l, 1) := by decide +kernel
theorem dX5_digest_52 : decode cX5_digest 52 = .ok (.ladd, 1) := by decide +kernel
theorem dX5_digest_53 : decode cX5_digest 53 = .ok (.lstore_n 1, 1) := by decide +kernel
theorem dX5_digest_54 : decode cX5_digest 54 = .ok (.iinc 3 1, 3) := by decide +kernel
theorem dX5_digest_57 : decode cX5_digest 57 = .ok (.goto (-24), 3) := by decide +kernel
theorem dX5_digest_60 : decode cX5_digest 60 = .ok (.aload_n 0, 1) := by decide +kernel
theorem dX5_digest_61 : decode cX5_digest 61 = .ok (.lload_n 1, 1) := by decide +kernel
theorem dX5_digest_62 : decode cX5_digest 62 = .ok (.invokevirtual 263, 3) := by decide +kernel
theorem dX5_digest_65 : decode cX5_digest 65 = .ok (.lstore_n 1, 1) := by decide +kernel
theorem dX5_digest_66 : decode cX5_digest 66 = .ok (.aload_n 0, 1) := by decide +kernel
theorem dX5_digest_67 : decode cX5_digest 67 = .ok (.lload_n 1, 1) := by decide +kernel
theorem dX5_digest_68 : decode cX5_digest 68 = .ok (.invokevirtual 267, 3) := by decide +kernel
theorem dX5_digest_71 : decode cX5_digest 71 = .ok (.lstore_n 1, 1) := by decide +kernel
theorem dX5_digest_72 : decode cX5_digest 72 = .ok (.aload_n 0, 1) := by decide +kernel
theorem dX5_digest_73 : decode cX5_digest 73 = .ok (.lload_n 1, 1) := by decide +kernel
theorem dX5_digest_74 : decode cX5_digest 74 = .ok (.invokevirtual 270, 3) := by decide +kernel
theorem dX5_digest_77 : decode cX5_digest 77 = .ok (.lstore_n 1, 1) := by decide +kernel
theorem dX5_digest_78 : decode cX5_digest 78 = .ok (.ldc2_w 261, 3) := by decide +kernel
theorem dX5_digest_81 : decode cX5_digest 81 = .ok (.lload_n 1, 1) := by decide +kernel
theorem dX5_digest_82 : decode cX5_digest 82 = .ok (.lmul, 1) := by decide +kernel
theorem dX5_digest_83 : decode cX5_digest 83 = .ok (.aload_n 0, 1) := by decide +kernel
theorem dX5_digest_84 : decode cX5_digest 84 = .ok (.invokevirtual 273, 3) := by decide +kernel
theorem dX5_digest_87 : decode cX5_digest 87 = .ok (.invokestatic 277, 3) := by decide +kernel
theorem dX5_digest_90 : decode cX5_digest 90 = .ok (.ladd, 1) := by decide +kernel
theorem dX5_digest_91 : decode cX5_digest 91 = .ok (.lstore_n 1, 1) := by decide +kernel
theorem dX5_digest_92 : decode cX5_digest 92 = .ok (.ldc2_w 261, 3) := by decide +kernel
theorem dX5_digest_95 : decode cX5_digest 95 = .ok (.lload_n 1, 1) := by decide +kernel
theorem dX5_digest_96 : decode cX5_digest 96 = .ok (.lmul, 1) := by decide +kernel
theorem dX5_digest_97 : decode cX5_digest 97 = .ok (.aload_n 0, 1) := by decide +kernel
theorem dX5_digest_98 : decode cX5_digest 98 = .ok (.invokevirtual 281, 3) := by decide +kernel
theorem dX5_digest_101 : decode cX5_digest 101 = .ok (.invokestatic 285, 3) := by decide +kernel
theorem dX5_digest_104 : decode cX5_digest 104 = .ok (.ladd, 1) := by decide +kernel
theorem dX5_digest_105 : decode cX5_digest 105 = .ok (.lstore_n 1, 1) := by decide +kernel
theorem dX5_digest_106 : decode cX5_digest 106 = .ok (.ldc2_w 261, 3) := by decide +kernel
theorem dX5_digest_109 : decode cX5_digest 109 = .ok (.lload_n 1, 1) := by decide +kernel
theorem dX5_digest_110 : decode cX5_digest 110 = .ok (.lmul, 1) := by decide +kernel
theorem dX5_digest_111 : decode cX5_digest 111 = .ok (.aload_n 0, 1) := by decide +kernel
theorem dX5_digest_112 : decode cX5_digest 112 = .ok (.getfield 206, 3) := by decide +kernel
theorem dX5_digest_115 : decode cX5_digest 115 = .ok (.ifCond .eq 7, 3) := by decide +kernel
theorem dX5_digest_118 : decode cX5_digest 118 = .ok (.iconst 1, 1) := by decide +kernel
theorem dX5_digest_119 : decode cX5_digest 119 = .ok (.goto 4, 3) := by decide +kernel
theorem dX5_digest_122 : decode cX5_digest 122 = .ok (.iconst 0, 1) := by decide +kernel
theorem dX5_digest_123 : decode cX5_digest 123 = .ok (.i2l, 1) := by decide +kernel
theorem dX5_digest_124 : decode cX5_digest 124 = .ok (.ladd, 1) := by decide +kernel
theorem dX5_digest_125 : decode cX5_digest 125 = .ok (.lstore_n 1, 1) := by decide +kernel
theorem dX5_digest_126 : decode cX5_digest 126 = .ok (.aload_n 0, 1) := by decide +kernel
theorem dX5_digest_127 : decode cX5_digest 127 = .ok (.getfield 26, 3) := by decide +kernel
theorem dX5_digest_130 : decode cX5_digest 130 = .ok (.lload_n 1, 1) := by decide +kernel
theorem dX5_digest_131 : decode cX5_digest 131 = .ok (.invokevirtual 289, 3) := by decide +kernel
theorem dX5_digest_134 : decode cX5_digest 134 = .ok (.lreturn, 1) := by decide +kernel
theorem dX5_isWithin_0 : decode cX5_isWithin 0 = .ok (.iload_n 0, 1) := by decide +kernel
theorem dX5_isWithin_1 : decode cX5_isWithin 1 = .ok (.iload_n 1, 1) := by decide +kernel
theorem dX5_isWithin_2 : decode cX5_isWithin 2 = .ok (.if_icmp .lt 12, 3) := by decide +kernel
theorem dX5_isWithin_5 : decode cX5_isWithin 5 = .ok (.iload_n 0, 1) := by decide +kernel
theorem dX5_isWithin_6 : decode cX5_isWithin 6 = .ok (.iload_n 2, 1) := by decide +kernel
theorem dX5_isWithin_7 : decode cX5_isWithin 7 = .ok (.if_icmp .gt 7, 3) := by decide +kernel
theorem dX5_isWithin_10 : decode cX5_isWithin 10 = .ok (.iconst 1, 1) := by decide +kernel
theorem dX5_isWithin_11 : decode cX5_isWithin 11 = .ok (.goto 4, 3) := by decide +kernel
theorem dX5_isWithin_14 : decode cX5_isWithin 14 = .ok (.iconst 0, 1) := by decide +kernel
theorem dX5_isWithin_15 : decode cX5_isWithin 15 = .ok (.ireturn, 1) := by decide +kernel
theorem dX5_isSlot_0 : decode cX5_isSlot 0 = .ok (.iload_n 0, 1) := by decide +kernel
theorem dX5_isSlot_1 : decode cX5_isSlot 1 = .ok (.ifCond .lt 12, 3) := by decide +kernel
theorem dX5_isSlot_4 : decode cX5_isSlot 4 = .ok (.iload_n 0, 1) := by decide +kernel
theorem dX5_isSlot_5 : decode cX5_isSlot 5 = .ok (.iconst 4, 1) := by decide +kernel
theorem dX5_isSlot_6 : decode cX5_isSlot 6 = .ok (.if_icmp .ge 7, 3) := by decide +kernel
theorem dX5_isSlot_9 : decode cX5_isSlot 9 = .ok (.iconst 1, 1) := by decide +kernel
theorem dX5_isSlot_10 : decode cX5_isSlot 10 = .ok (.goto 4, 3) := by decide +kernel
theorem dX5_isSlot_13 : decode cX5_isSlot 13 = .ok (.iconst 0, 1) := by decide +kernel
theorem dX5_isSlot_14 : decode cX5_isSlot 14 = .ok (.ireturn, 1) := by decide +kernel
theorem dX5_entry_0 : decode cX5_entry 0 = .ok (.iload_n 1, 1) := by decide +kernel
theorem dX5_entry_1 : decode cX5_entry 1 = .ok (.ifCond .lt 15, 3) := by decide +kernel
theorem dX5_entry_4 : decode cX5_entry 4 = .ok (.iload_n 1, 1) := by decide +kernel
theorem dX5_entry_5 : decode cX5_entry 5 = .ok (.aload_n 0, 1) := by decide +kernel
theorem dX5_entry_6 : decode cX5_entry 6 = .ok (.arraylength, 1) := by decide +kernel
theorem dX5_entry_7 : decode cX5_entry 7 = .ok (.if_icmp .ge 9, 3) := by decide +kernel
theorem dX5_entry_10 : decode cX5_entry 10 = .ok (.aload_n 0, 1) := by decide +kernel
theorem dX5_entry_11 : decode cX5_entry 11 = .ok (.iload_n 1, 1) := by decide +kernel
theorem dX5_entry_12 : decode cX5_entry 12 = .ok (.iaload, 1) := by decide +kernel
theorem dX5_entry_13 : decode cX5_entry 13 = .ok (.goto 4, 3) := by decide +kernel
theorem dX5_entry_16 : decode cX5_entry 16 = .ok (.iconst 0, 1) := by decide +kernel
theorem dX5_entry_17 : decode cX5_entry 17 = .ok (.ireturn, 1) := by decide +kernel
theorem dX5_saveState_0 : decode cX5_saveState 0 = .ok (.aload_n 0, 1) := by decide +kernel
theorem dX5_saveState_1 : decode cX5_saveState 1 = .ok (.getfield 212, 3) := by decide +kernel
theorem dX5_saveState_4 : decode cX5_saveState 4 = .ok (.ifCond .lt 12, 3) := by decide +kernel
theorem dX5_saveState_7 : decode cX5_saveState 7 = .ok (.aload_n 0, 1) := by decide +kernel
theorem dX5_saveState_8 : decode cX5_saveState 8 = .ok (.getfield 212, 3) := by decide +kernel
theorem dX5_saveState_11 : decode cX5_saveState 11 = .ok (.bipush 6, 2) := by decide +kernel
theorem dX5_saveState_13 : decode cX5_saveState 13 = .ok (.if_icmp .lt 12, 3) := by decide +kernel
theorem dX5_saveState_16 : decode cX5_saveState 16 = .ok (.aload_n 0, 1) := by decide +kernel
theorem dX5_saveState_17 : decode cX5_saveState 17 = .ok (.invokevirtual 292, 3) := by decide +kernel
theorem dX5_saveState_20 : decode cX5_saveState 20 = .ok (.aload_n 0, 1) := by decide +kernel
theorem dX5_saveState_21 : decode cX5_saveState 21 = .ok (.iconst 5, 1) := by decide +kernel
theorem dX5_saveState_22 : decode cX5_saveState 22 = .ok (.putfield 212, 3) := by decide +kernel
theorem dX5_saveState_25 : decode cX5_saveState 25 = .ok (.aload_n 0, 1) := by decide +kernel
theorem dX5_saveState_26 : decode cX5_saveState 26 = .ok (.getfield 19, 3) := by decide +kernel
theorem dX5_saveState_29 : decode cX5_saveState 29 = .ok (.aload_n 0, 1) := by decide +kernel
theorem dX5_saveState_30 : decode cX5_saveState 30 = .ok (.getfield 212, 3) := by decide +kernel
theorem dX5_saveState_33 : decode cX5_saveState 33 = .ok (.aaload, 1) := by decide +kernel
theorem dX5_saveState_34 : decode cX5_saveState 34 = .ok (.astore_n 1, 1) := by decide +kernel
theorem dX5_saveState_35 : decode cX5_saveState 35 = .ok (.aload_n 1, 1) := by decide +kernel
theorem dX5_saveState_36 : decode cX5_saveState 36 = .ok (.ifnull 11, 3) := by decide +kernel
theorem dX5_saveState_39 : decode cX5_saveState 39 = .ok (.aload_n 1, 1) := by decide +kernel
theorem dX5_saveState_40 : decode cX5_saveState 40 = .ok (.aload_n 0, 1) := by decide +kernel
theorem dX5_saveState_41 : decode cX5_saveState 41 = .ok (.getfield 12, 3) := by decide +kernel
theorem dX5_saveState_44 : decode cX5_saveState 44 = .ok (.invokevirtual 202, 3) := by decide +kernel
theorem dX5_saveState_47 : decode cX5_saveState 47 = .ok (.aload_n 0, 1) := by decide +kernel
theorem dX5_saveState_48 : decode cX5_saveState 48 = .ok (.dup, 1) := by decide +kernel
theorem dX5_saveState_49 : decode cX5_saveState 49 = .ok (.getfield 212, 3) := by decide +kernel
theorem dX5_saveState_52 : decode cX5_saveState 52 = .ok (.iconst 1, 1) := by decide +kernel
theorem dX5_saveState_53 : decode cX5_saveState 53 = .ok (.iadd, 1) := by decide +kernel
theorem dX5_saveState_54 : decode cX5_saveState 54 = .ok (.putfield 212, 3) := by decide +kernel
theorem dX5_saveState_57 : decode cX5_saveState 57 = .ok (.return_, 1) := by decide +kernel
theorem dX5_moveOldestToEnd_0 : decode cX5_moveOldestToEnd 0 = .ok (.aload_n 0, 1) := by decide +kernel
theorem dX5_moveOldestToEnd_1 : decode cX5_moveOldestToEnd 1 = .ok (.getfield 19, 3) := by decide +kernel
theorem dX5_moveOldestToEnd_4 : decode cX5_moveOldestToEnd 4 = .ok (.iconst 0, 1) := by decide +kernel
theorem dX5_moveOldestToEnd_5 : decode cX5_moveOldestToEnd 5 = .ok (.aaload, 1) := by decide +kernel
theorem dX5_moveOldestToEnd_6 : decode cX5_moveOldestToEnd 6 = .ok (.astore_n 1, 1) := by decide +kernel
theorem dX5_moveOldestToEnd_7 : decode cX5_moveOldestToEnd 7 = .ok (.iconst 1, 1) := by decide +kernel
theorem dX5_moveOldestToEnd_8 : decode cX5_moveOldestToEnd 8 = .ok (.istore_n 2, 1) := by decide +kernel
theorem dX5_moveOldestToEnd_9 : decode cX5_moveOldestToEnd 9 = .ok (.iload_n 2, 1) := by decide +kernel
theorem dX5_moveOldestToEnd_10 : decode cX5_moveOldestToEnd 10 = .ok (.bipush 6, 2) := by decide +kernel
theorem dX5_moveOldestToEnd_12 : decode cX5_moveOldestToEnd 12 = .ok (.if_icmp .ge 23, 3) := by decide +kernel
theorem dX5_moveOldestToEnd_15 : decode cX5_moveOldestToEnd 15 = .ok (.aload_n 0, 1) := by decide +kernel
theorem dX5_moveOldestToEnd_16 : decode cX5_moveOldestToEnd 16 = .ok (.getfield 19, 3) := by decide +kernel
theorem dX5_moveOldestToEnd_19 : decode cX5_moveOldestToEnd 19 = .ok (.iload_n 2, 1) := by decide +kernel
theorem dX5_moveOldestToEnd_20 : decode cX5_moveOldestToEnd 20 = .ok (.iconst 1, 1) := by decide +kernel
theorem dX5_moveOldestToEnd_21 : decode cX5_moveOldestToEnd 21 = .ok (.isub, 1) := by decide +kernel
theorem dX5_moveOldestToEnd_22 : decode cX5_moveOldestToEnd 22 = .ok (.aload_n 0, 1) := by decide +kernel
theorem dX5_moveOldestToEnd_23 : decode cX5_moveOldestToEnd 23 = .ok (.getfield 19, 3) := by decide +kernel
theorem dX5_moveOldestToEnd_26 : decode cX5_moveOldestToEnd 26 = .ok (.iload_n 2, 1) := by decide +kernel
theorem dX5_moveOldestToEnd_27 : decode cX5_moveOldestToEnd 27 = .ok (.aaload, 1) := by decide +kernel
theorem dX5_moveOldestToEnd_28 : decode cX5_moveOldestToEnd 28 = .ok (.aastore, 1) := by decide +kernel
theorem dX5_moveOldestToEnd_29 : decode cX5_moveOldestToEnd 29 = .ok (.iinc 2 1, 3) := by decide +kernel
theorem dX5_moveOldestToEnd_32 : decode cX5_moveOldestToEnd 32 = .ok (.goto (-23), 3) := by decide +kernel
theorem dX5_moveOldestToEnd_35 : decode cX5_moveOldestToEnd 35 = .ok (.aload_n 0, 1) := by decide +kernel
theorem dX5_moveOldestToEnd_36 : decode cX5_moveOldestToEnd 36 = .ok (.getfield 19, 3) := by decide +kernel
theorem dX5_moveOldestToEnd_39 : decode cX5_moveOldestToEnd 39 = .ok (.iconst 5, 1) := by decide +kernel
theorem dX5_moveOldestToEnd_40 : decode cX5_moveOldestToEnd 40 = .ok (.aload_n 1, 1) := by decide +kernel
theorem dX5_moveOldestToEnd_41 : decode cX5_moveOldestToEnd 41 = .ok (.aastore, 1) := by decide +kernel
theorem dX5_moveOldestToEnd_42 : decode cX5_moveOldestToEnd 42 = .ok (.return_, 1) := by decide +kernel
theorem dX5_countOf_0 : decode cX5_countOf 0 = .ok (.iload_n 1, 1) := by decide +kernel
theorem dX5_countOf_1 : decode cX5_countOf 1 = .ok (.tableswitch 165 0 10 #[59, 70, 81, 92, 103, 114, 122, 130, 141, 149, 157], 59) := by decide +kernel
theorem dX5_countOf_60 : decode cX5_countOf 60 = .ok (.aload_n 0, 1) := by decide +kernel
theorem dX5_countOf_61 : decode cX5_countOf 61 = .ok (.getfield 12, 3) := by decide +kernel
theorem dX5_countOf_64 : decode cX5_countOf 64 = .ok (.getfield 64, 3) := by decide +kernel
theorem dX5_countOf_67 : decode cX5_countOf 67 = .ok (.invokevirtual 92, 3) := by decide +kernel
theorem dX5_countOf_70 : decode cX5_countOf 70 = .ok (.ireturn, 1) := by decide +kernel
theorem dX5_countOf_71 : decode cX5_countOf 71 = .ok (.aload_n 0, 1) := by decide +kernel
theorem dX5_countOf_72 : decode cX5_countOf 72 = .ok (.getfield 12, 3) := by decide +kernel
theorem dX5_countOf_75 : decode cX5_countOf 75 = .ok (.getfield 64, 3) := by decide +kernel
theorem dX5_countOf_78 : decode cX5_countOf 78 = .ok (.invokevirtual 295, 3) := by decide +kernel
theorem dX5_countOf_81 : decode cX5_countOf 81 = .ok (.ireturn, 1) := by decide +kernel
theorem dX5_countOf_82 : decode cX5_countOf 82 = .ok (.aload_n 0, 1) := by decide +kernel
theorem dX5_countOf_83 : decode cX5_countOf 83 = .ok (.getfield 12, 3) := by decide +kernel
theorem dX5_countOf_86 : decode cX5_countOf 86 = .ok (.getfield 125, 3) := by decide +kernel
theorem dX5_countOf_89 : decode cX5_countOf 89 = .ok (.getfield 128, 3) := by decide +kernel
theorem dX5_countOf_92 : decode cX5_countOf 92 = .ok (.ireturn, 1) := by decide +kernel
theorem dX5_countOf_93 : decode cX5_countOf 93 = .ok (.aload_n 0, 1) := by decide +kernel
theorem dX5_countOf_94 : decode cX5_countOf 94 = .ok (.getfield 12, 3) := by decide +kernel
theorem dX5_countOf_97 : decode cX5_countOf 97 = .ok (.getfield 125, 3) := by decide +kernel
theorem dX5_countOf_100 : decode cX5_countOf 100 = .ok (.getfield 253, 3) := by decide +kernel
theorem dX5_countOf_103 : decode cX5_countOf 103 = .ok (.ireturn, 1) := by decide +kernel
theorem dX5_countOf_104 : decode cX5_countOf 104 = .ok (.aload_n 0, 1) := by decide +kernel
theorem dX5_countOf_105 : decode cX5_countOf 105 = .ok (.getfield 12, 3) := by decide +kernel
theorem dX5_countOf_108 : decode cX5_countOf 108 = .ok (.getfield 85, 3) := by decide +kernel
theorem dX5_countOf_111 : decode cX5_countOf 111 = .ok (.getfield 164, 3) := by decide +kernel
theorem dX5_countOf_114 : decode cX5_countOf 114 = .ok (.ireturn, 1) := by decide +kernel
theorem dX5_countOf_115 : decode cX5_countOf 115 = .ok (.aload_n 0, 1) := by decide +kernel
theorem dX5_countOf_116 : decode cX5_countOf 116 = .ok (.getfield 12, 3) := by decide +kernel
theorem dX5_countOf_119 : decode cX5_countOf 119 = .ok (.getfield 256, 3) := by decide +kernel
theorem dX5_countOf_122 : decode cX5_countOf 122 = .ok (.ireturn, 1) := by decide +kernel
theorem dX5_countOf_123 : decode cX5_countOf 123 = .ok (.aload_n 0, 1) := by decide +kernel
theorem dX5_countOf_124 : decode cX5_countOf 124 = .ok (.getfield 12, 3) := by decide +kernel
theorem dX5_countOf_127 : decode cX5_countOf 127 = .ok (.getfield 298, 3) := by decide +kernel
theorem dX5_countOf_130 : decode cX5_countOf 130 = .ok (.ireturn, 1) := by decide +kernel
theorem dX5_countOf_131 : decode cX5_countOf 131 = .ok (.aload_n 0, 1) := by decide +kernel
theorem dX5_countOf_132 : decode cX5_countOf 132 = .ok (.getfield 12, 3) := by decide +kernel
theorem dX5_countOf_135 : decode cX5_countOf 135 = .ok (.getfield 85, 3) := by decide +kernel
theorem dX5_countOf_138 : decode cX5_countOf 138 = .ok (.getfield 301, 3) := by decide +kernel
theorem dX5_countOf_141 : decode cX5_countOf 141 = .ok (.ireturn, 1) := by decide +kernel
theorem dX5_countOf_142 : decode cX5_countOf 142 = .ok (.aload_n 0, 1) := by decide +kernel
theorem dX5_countOf_143 : decode cX5_countOf 143 = .ok (.getfield 12, 3) := by decide +kernel
theorem dX5_countOf_146 : decode cX5_countOf 146 = .ok (.invokevirtual 304, 3) := by decide +kernel
theorem dX5_countOf_149 : decode cX5_countOf 149 = .ok (.ireturn, 1) := by decide +kernel
theorem dX5_countOf_150 : decode cX5_countOf 150 = .ok (.aload_n 0, 1) := by decide +kernel
theorem dX5_countOf_151 : decode cX5_countOf 151 = .ok (.getfield 12, 3) := by decide +kernel
theorem dX5_countOf_154 : decode cX5_countOf 154 = .ok (.getfield 307, 3) := by decide +kernel
theorem dX5_countOf_157 : decode cX5_countOf 157 = .ok (.ireturn, 1) := by decide +kernel
theorem dX5_countOf_158 : decode cX5_countOf 158 = .ok (.aload_n 0, 1) := by decide +kernel
theorem dX5_countOf_159 : decode cX5_countOf 159 = .ok (.getfield 12, 3) := by decide +kernel
theorem dX5_countOf_162 : decode cX5_countOf 162 = .ok (.invokevirtual 310, 3) := by decide +kernel
theorem dX5_countOf_165 : decode cX5_countOf 165 = .ok (.ireturn, 1) := by decide +kernel
theorem dX5_countOf_166 : decode cX5_countOf 166 = .ok (.aload_n 0, 1) := by decide +kernel
theorem dX5_countOf_167 : decode cX5_countOf 167 = .ok (.getfield 212, 3) := by decide +kernel
theorem dX5_countOf_170 : decode cX5_countOf 170 = .ok (.ireturn, 1) := by decide +kernel
theorem dX5_sweepTicks_0 : decode cX5_sweepTicks 0 = .ok (.aload_n 0, 1) := by decide +kernel
theorem dX5_sweepTicks_1 : decode cX5_sweepTicks 1 = .ok (.getfield 12, 3) := by decide +kernel
theorem dX5_sweepTicks_4 : decode cX5_sweepTicks 4 = .ok (.getfield 64, 3) := by decide +kernel
theorem dX5_sweepTicks_7 : decode cX5_sweepTicks 7 = .ok (.iload_n 1, 1) := by decide +kernel
theorem dX5_sweepTicks_8 : decode cX5_sweepTicks 8 = .ok (.invokevirtual 117, 3) := by decide +kernel
theorem dX5_sweepTicks_11 : decode cX5_sweepTicks 11 = .ok (.ifCond .eq 5, 3) := by decide +kernel
theorem dX5_sweepTicks_14 : decode cX5_sweepTicks 14 = .ok (.iconst (-1), 1) := by decide +kernel
theorem dX5_sweepTicks_15 : decode cX5_sweepTicks 15 = .ok (.ireturn, 1) := by decide +kernel
theorem dX5_sweepTicks_16 : decode cX5_sweepTicks 16 = .ok (.aload_n 0, 1) := by decide +kernel
theorem dX5_sweepTicks_17 : decode cX5_sweepTicks 17 = .ok (.getfield 33, 3) := by decide +kernel
theorem dX5_sweepTicks_20 : decode cX5_sweepTicks 20 = .ok (.iload_n 1, 1) := by decide +kernel
theorem dX5_sweepTicks_21 : decode cX5_sweepTicks 21 = .ok (.aload_n 0, 1) := by decide +kernel
theorem dX5_sweepTicks_22 : decode cX5_sweepTicks 22 = .ok (.getfield 12, 3) := by decide +kernel
theorem dX5_sweepTicks_25 : decode cX5_sweepTicks 25 = .ok (.getfield 64, 3) := by decide +kernel
theorem dX5_sweepTicks_28 : decode cX5_sweepTicks 28 = .ok (.invokevirtual 313, 3) := by decide +kernel
theorem dX5_sweepTicks_31 : decode cX5_sweepTicks 31 = .ok (.aload_n 0, 1) := by decide +kernel
theorem dX5_sweepTicks_32 : decode cX5_sweepTicks 32 = .ok (.getfield 40, 3) := by decide +kernel
theorem dX5_sweepTicks_35 : decode cX5_sweepTicks 35 = .ok (.invokevirtual 317, 3) := by decide +kernel
theorem dX5_sweepTicks_38 : decode cX5_sweepTicks 38 = .ok (.iconst 1, 1) := by decide +kernel
theorem dX5_sweepTicks_39 : decode cX5_sweepTicks 39 = .ok (.istore_n 2, 1) := by decide +kernel
theorem dX5_sweepTicks_40 : decode cX5_sweepTicks 40 = .ok (.iconst 0, 1) := by decide +kernel
theorem dX5_sweepTicks_41 : decode cX5_sweepTicks 41 = .ok (.istore_n 3, 1) := by decide +kernel
theorem dX5_sweepTicks_42 : decode cX5_sweepTicks 42 = .ok (.iload_n 3, 1) := by decide +kernel
theorem dX5_sweepTicks_43 : decode cX5_sweepTicks 43 = .ok (.aload_n 0, 1) := by decide +kernel
theorem dX5_sweepTicks_44 : decode cX5_sweepTicks 44 = .ok (.getfield 33, 3) := by decide +kernel
theorem dX5_sweepTicks_47 : decode cX5_sweepTicks 47 = .ok (.getfield 128, 3) := by decide +kernel
theorem dX5_sweepTicks_50 : decode cX5_sweepTicks 50 = .ok (.if_icmp .ge 81, 3) := by decide +kernel
theorem dX5_sweepTicks_53 : decode cX5_sweepTicks 53 = .ok (.aload_n 0, 1) := by decide +kernel
theorem dX5_sweepTicks_54 : decode cX5_sweepTicks 54 = .ok (.iload_n 3, 1) := by decide +kernel
theorem dX5_sweepTicks_55 : decode cX5_sweepTicks 55 = .ok (.invokevirtual 320, 3) := by decide +kernel
theorem dX5_sweepTicks_58 : decode cX5_sweepTicks 58 = .ok (.istore 4, 2) := by decide +kernel
theorem dX5_sweepTicks_60 : decode cX5_sweepTicks 60 = .ok (.aload_n 0, 1) := by decide +kernel
theorem dX5_sweepTicks_61 : decode cX5_sweepTicks 61 = .ok (.getfield 33, 3) := by decide +kernel
theorem dX5_sweepTicks_64 : decode cX5_sweepTicks 64 = .ok (.iload_n 3, 1) := by decide +kernel
theorem dX5_sweepTicks_65 : decode cX5_sweepTicks 65 = .ok (.invokevirtual 323, 3) := by decide +kernel
theorem dX5_sweepTicks_68 : decode cX5_sweepTicks 68 = .ok (.ifCond .eq 40, 3) := by decide +kernel
theorem dX5_sweepTicks_71 : decode cX5_sweepTicks 71 = .ok (.aload_n 0, 1) := by decide +kernel
theorem dX5_sweepTicks_72 : decode cX5_sweepTicks 72 = .ok (.iload_n 3, 1) := by decide +kernel
theorem dX5_sweepTicks_73 : decode cX5_sweepTicks 73 = .ok (.iconst 1, 1) := by decide +kernel
theorem dX5_sweepTicks_74 : decode cX5_sweepTicks 74 = .ok (.iadd, 1) := by decide +kernel
theorem dX5_sweepTicks_75 : decode cX5_sweepTicks 75 = .ok (.invokevirtual 320, 3) := by decide +kernel
theorem dX5_sweepTicks_78 : decode cX5_sweepTicks 78 = .ok (.istore 5, 2) := by decide +kernel
theorem dX5_sweepTicks_80 : decode cX5_sweepTicks 80 = .ok (.aload_n 0, 1) := by decide +kernel
theorem dX5_sweepTicks_81 : decode cX5_sweepTicks 81 = .ok (.getfield 40, 3) := by decide +kernel
theorem dX5_sweepTicks_84 : decode cX5_sweepTicks 84 = .ok (.iload 4, 2) := by decide +kernel
theorem dX5_sweepTicks_86 : decode cX5_sweepTicks 86 = .ok (.aload_n 0, 1) := by decide +kernel
theorem dX5_sweepTicks_87 : decode cX5_sweepTicks 87 = .ok (.iload_n 3, 1) := by decide +kernel
theorem dX5_sweepTicks_88 : decode cX5_sweepTicks 88 = .ok (.invokevirtual 326, 3) := by decide +kernel
theorem dX5_sweepTicks_91 : decode cX5_sweepTicks 91 = .ok (.iload 5, 2) := by decide +kernel
theorem dX5_sweepTicks_93 : decode cX5_sweepTicks 93 = .ok (.aload_n 0, 1) := by decide +kernel
theorem dX5_sweepTicks_94 : decode cX5_sweepTicks 94 = .ok (.iload_n 3, 1) := by decide +kernel
theorem dX5_sweepTicks_95 : decode cX5_sweepTicks 95 = .ok (.iconst 1, 1) := by decide +kernel
theorem dX5_sweepTicks_96 : decode cX5_sweepTicks 96 = .ok (.iadd, 1) := by decide +kernel
theorem dX5_sweepTicks_97 : decode cX5_sweepTicks 97 = .ok (.invokevirtual 326, 3) := by decide +kernel
theorem dX5_sweepTicks_100 : decode cX5_sweepTicks 100 = .ok (.invokevirtual 329, 3) := by decide +kernel
theorem dX5_sweepTicks_103 : decode cX5_sweepTicks 103 = .ok (.iconst 2, 1) := by decide +kernel
theorem dX5_sweepTicks_104 : decode cX5_sweepTicks 104 = .ok (.istore_n 2, 1) := by decide +kernel
theorem dX5_sweepTicks_105 : decode cX5_sweepTicks 105 = .ok (.goto 19, 3) := by decide +kernel
theorem dX5_sweepTicks_108 : decode cX5_sweepTicks 108 = .ok (.aload_n 0, 1) := by decide +kernel
theorem dX5_sweepTicks_109 : decode cX5_sweepTicks 109 = .ok (.getfield 40, 3) := by decide +kernel
theorem dX5_sweepTicks_112 : decode cX5_sweepTicks 112 = .ok (.iload 4, 2) := by decide +kernel
theorem dX5_sweepTicks_114 : decode cX5_sweepTicks 114 = .ok (.aload_n 0, 1) := by decide +kernel
theorem dX5_sweepTicks_115 : decode cX5_sweepTicks 115 = .ok (.iload_n 3, 1) := by decide +kernel
theorem dX5_sweepTicks_116 : decode cX5_sweepTicks 116 = .ok (.invokevirtual 326, 3) := by decide +kernel
theorem dX5_sweepTicks_119 : decode cX5_sweepTicks 119 = .ok (.invokevirtual 332, 3) := by decide +kernel
theorem dX5_sweepTicks_122 : decode cX5_sweepTicks 122 = .ok (.iconst 1, 1) := by decide +kernel
theorem dX5_sweepTicks_123 : decode cX5_sweepTicks 123 = .ok (.istore_n 2, 1) := by decide +kernel
theorem dX5_sweepTicks_124 : decode cX5_sweepTicks 124 = .ok (.iload_n 3, 1) := by decide +kernel
theorem dX5_sweepTicks_125 : decode cX5_sweepTicks 125 = .ok (.iload_n 2, 1) := by decide +kernel
theorem dX5_sweepTicks_126 : decode cX5_sweepTicks 126 = .ok (.iadd, 1) := by decide +kernel
theorem dX5_sweepTicks_127 : decode cX5_sweepTicks 127 = .ok (.istore_n 3, 1) := by decide +kernel
theorem dX5_sweepTicks_128 : decode cX5_sweepTicks 128 = .ok (.goto (-86), 3) := by decide +kernel
theorem dX5_sweepTicks_131 : decode cX5_sweepTicks 131 = .ok (.aload_n 0, 1) := by decide +kernel
theorem dX5_sweepTicks_132 : decode cX5_sweepTicks 132 = .ok (.getfield 40, 3) := by decide +kernel
theorem dX5_sweepTicks_135 : decode cX5_sweepTicks 135 = .ok (.getfield 164, 3) := by decide +kernel
theorem dX5_sweepTicks_138 : decode cX5_sweepTicks 138 = .ok (.ireturn, 1) := by decide +kernel
theorem dX5_trialRank_0 : decode cX5_trialRank 0 = .ok (.aload_n 0, 1) := by decide +kernel
theorem dX5_trialRank_1 : decode cX5_trialRank 1 = .ok (.getfield 12, 3) := by decide +kernel
theorem dX5_trialRank_4 : decode cX5_trialRank 4 = .ok (.getfield 64, 3) := by decide +kernel
theorem dX5_trialRank_7 : decode cX5_trialRank 7 = .ok (.aload_n 0, 1) := by decide +kernel
theorem dX5_trialRank_8 : decode cX5_trialRank 8 = .ok (.getfield 33, 3) := by decide +kernel
theorem dX5_trialRank_11 : decode cX5_trialRank 11 = .ok (.iload_n 1, 1) := by decide +kernel
theorem dX5_trialRank_12 : decode cX5_trialRank 12 = .ok (.invokevirtual 336, 3) := by decide +kernel
theorem dX5_trialRank_15 : decode cX5_trialRank 15 = .ok (.aload_n 0, 1) := by decide +kernel
theorem dX5_trialRank_16 : decode cX5_trialRank 16 = .ok (.getfield 33, 3) := by decide +kernel
theorem dX5_trialRank_19 : decode cX5_trialRank 19 = .ok (.iload_n 1, 1) := by decide +kernel
theorem dX5_trialRank_20 : decode cX5_trialRank 20 = .ok (.invokevirtual 339, 3) := by decide +kernel
theorem dX5_trialRank_23 : decode cX5_trialRank 23 = .ok (.invokevirtual 342, 3) := by decide +kernel
theorem dX5_trialRank_26 : decode cX5_trialRank 26 = .ok (.ireturn, 1) := by decide +kernel
theorem dX5_trialDelay_0 : decode cX5_trialDelay 0 = .ok (.aload_n 0, 1) := by decide +kernel
theorem dX5_trialDelay_1 : decode cX5_trialDelay 1 = .ok (.getfield 12, 3) := by decide +kernel
theorem dX5_trialDelay_4 : decode cX5_trialDelay 4 = .ok (.getfield 64, 3) := by decide +kernel
theorem dX5_trialDelay_7 : decode cX5_trialDelay 7 = .ok (.aload_n 0, 1) := by decide +kernel
theorem dX5_trialDelay_8 : decode cX5_trialDelay 8 = .ok (.getfield 33, 3) := by decide +kernel
theorem dX5_trialDelay_11 : decode cX5_trialDelay 11 = .ok (.iload_n 1, 1) := by decide +kernel
theorem dX5_trialDelay_12 : decode cX5_trialDelay 12 = .ok (.invokevirtual 336, 3) := by decide +kernel
theorem dX5_trialDelay_15 : decode cX5_trialDelay 15 = .ok (.invokevirtual 345, 3) := by decide +kernel
theorem dX5_trialDelay_18 : decode cX5_trialDelay 18 = .ok (.ireturn, 1) := by decide +kernel
theorem dX5_blocksIfStarted_0 : decode cX5_blocksIfStarted 0 = .ok (.aload_n 0, 1) := by decide +kernel
theorem dX5_blocksIfStarted_1 : decode cX5_blocksIfStarted 1 = .ok (.getfield 12, 3) := by decide +kernel
theorem dX5_blocksIfStarted_4 : decode cX5_blocksIfStarted 4 = .ok (.getfield 64, 3) := by decide +kernel
theorem dX5_blocksIfStarted_7 : decode cX5_blocksIfStarted 7 = .ok (.iload_n 1, 1) := by decide +kernel
theorem dX5_blocksIfStarted_8 : decode cX5_blocksIfStarted 8 = .ok (.invokevirtual 117, 3) := by decide +kernel
theorem dX5_blocksIfStarted_11 : decode cX5_blocksIfStarted 11 = .ok (.ifCond .eq 5, 3) := by decide +kernel
theorem dX5_blocksIfStarted_14 : decode cX5_blocksIfStarted 14 = .ok (.iconst 0, 1) := by decide +kernel
theorem dX5_blocksIfStarted_15 : decode cX5_blocksIfStarted 15 = .ok (.ireturn, 1) := by decide +kernel
theorem dX5_blocksIfStarted_16 : decode cX5_blocksIfStarted 16 = .ok (.aload_n 0, 1) := by decide +kernel
theorem dX5_blocksIfStarted_17 : decode cX5_blocksIfStarted 17 = .ok (.getfield 33, 3) := by decide +kernel
theorem dX5_blocksIfStarted_20 : decode cX5_blocksIfStarted 20 = .ok (.iload_n 1, 1) := by decide +kernel
theorem dX5_blocksIfStarted_21 : decode cX5_blocksIfStarted 21 = .ok (.aload_n 0, 1) := by decide +kernel
theorem dX5_blocksIfStarted_22 : decode cX5_blocksIfStarted 22 = .ok (.getfield 12, 3) := by decide +kernel
theorem dX5_blocksIfStarted_25 : decode cX5_blocksIfStarted 25 = .ok (.getfield 64, 3) := by decide +kernel
theorem dX5_blocksIfStarted_28 : decode cX5_blocksIfStarted 28 = .ok (.invokevirtual 313, 3) := by decide +kernel
theorem dX5_blocksIfStarted_31 : decode cX5_blocksIfStarted 31 = .ok (.iload_n 2, 1) := by decide +kernel
theorem dX5_blocksIfStarted_32 : decode cX5_blocksIfStarted 32 = .ok (.ifCond .ne 13, 3) := by decide +kernel
theorem dX5_blocksIfStarted_35 : decode cX5_blocksIfStarted 35 = .ok (.aload_n 0, 1) := by decide +kernel
theorem dX5_blocksIfStarted_36 : decode cX5_blocksIfStarted 36 = .ok (.getfield 33, 3) := by decide +kernel
theorem dX5_blocksIfStarted_39 : decode cX5_blocksIfStarted 39 = .ok (.getfield 128, 3) := by decide +kernel
theorem dX5_blocksIfStarted_42 : decode cX5_blocksIfStarted 42 = .ok (.goto 10, 3) := by decide +kernel
theorem dX5_blocksIfStarted_45 : decode cX5_blocksIfStarted 45 = .ok (.aload_n 0, 1) := by decide +kernel
theorem dX5_blocksIfStarted_46 : decode cX5_blocksIfStarted 46 = .ok (.getfield 33, 3) := by decide +kernel
theorem dX5_blocksIfStarted_49 : decode cX5_blocksIfStarted 49 = .ok (.getfield 253, 3) := by decide +kernel
theorem dX5_blocksIfStarted_52 : decode cX5_blocksIfStarted 52 = .ok (.ireturn, 1) := by decide +kernel
theorem dX5_foldSlots_0 : decode cX5_foldSlots 0 = .ok (.lload_n 1, 1) := by decide +kernel
theorem dX5_foldSlots_1 : decode cX5_foldSlots 1 = .ok (.lstore_n 3, 1) := by decide +kernel
theorem dX5_foldSlots_2 : decode cX5_foldSlots 2 = .ok (.iconst 0, 1) := by decide +kernel
theorem dX5_foldSlots_3 : decode cX5_foldSlots 3 = .ok (.istore 5, 2) := by decide +kernel
theorem dX5_foldSlots_5 : decode cX5_foldSlots 5 = .ok (.iload 5, 2) := by decide +kernel
theorem dX5_foldSlots_7 : decode cX5_foldSlots 7 = .ok (.iconst 4, 1) := by decide +kernel
theorem dX5_foldSlots_8 : decode cX5_foldSlots 8 = .ok (.if_icmp .ge 82, 3) := by decide +kernel
theorem dX5_foldSlots_11 : decode cX5_foldSlots 11 = .ok (.iconst 0, 1) := by decide +kernel
theorem dX5_foldSlots_12 : decode cX5_foldSlots 12 = .ok (.istore 6, 2) := by decide +kernel
theorem dX5_foldSlots_14 : decode cX5_foldSlots 14 = .ok (.iload 6, 2) := by decide +kernel
theorem dX5_foldSlots_16 : decode cX5_foldSlots 16 = .ok (.bipush 8, 2) := by decide +kernel
theorem dX5_foldSlots_18 : decode cX5_foldSlots 18 = .ok (.if_icmp .ge 28, 3) := by decide +kernel
theorem dX5_foldSlots_21 : decode cX5_foldSlots 21 = .ok (.ldc2_w 261, 3) := by decide +kernel
theorem dX5_foldSlots_24 : decode cX5_foldSlots 24 = .ok (.lload_n 3, 1) := by decide +kernel
theorem dX5_foldSlots_25 : decode cX5_foldSlots 25 = .ok (.lmul, 1) := by decide +kernel
theorem dX5_foldSlots_26 : decode cX5_foldSlots 26 = .ok (.aload_n 0, 1) := by decide +kernel
theorem dX5_foldSlots_27 : decode cX5_foldSlots 27 = .ok (.getfield 12, 3) := by decide +kernel
theorem dX5_foldSlots_30 : decode cX5_foldSlots 30 = .ok (.iload 5, 2) := by decide +kernel
theorem dX5_foldSlots_32 : decode cX5_foldSlots 32 = .ok (.iload 6, 2) := by decide +kernel
theorem dX5_foldSlots_34 : decode cX5_foldSlots 34 = .ok (.invokevirtual 219, 3) := by decide +kernel
theorem dX5_foldSlots_37 : decode cX5_foldSlots 37 = .ok (.i2l, 1) := by decide +kernel
theorem dX5_foldSlots_38 : decode cX5_foldSlots 38 = .ok (.ladd, 1) := by decide +kernel
theorem dX5_foldSlots_39 : decode cX5_foldSlots 39 = .ok (.lstore_n 3, 1) := by decide +kernel
theorem dX5_foldSlots_40 : decode cX5_foldSlots 40 = .ok (.iinc 6 1, 3) := by decide +kernel
theorem dX5_foldSlots_43 : decode cX5_foldSlots 43 = .ok (.goto (-29), 3) := by decide +kernel
theorem dX5_foldSlots_46 : decode cX5_foldSlots 46 = .ok (.iconst 0, 1) := by decide +kernel
theorem dX5_foldSlots_47 : decode cX5_foldSlots 47 = .ok (.istore 6, 2) := by decide +kernel
theorem dX5_foldSlots_49 : decode cX5_foldSlots 49 = .ok (.iload 6, 2) := by decide +kernel
theorem dX5_foldSlots_51 : decode cX5_foldSlots 51 = .ok (.bipush 12, 2) := by decide +kernel
theorem dX5_foldSlots_53 : decode cX5_foldSlots 53 = .ok (.if_icmp .ge 31, 3) := by decide +kernel
theorem dX5_foldSlots_56 : decode cX5_foldSlots 56 = .ok (.ldc2_w 261, 3) := by decide +kernel
theorem dX5_foldSlots_59 : decode cX5_foldSlots 59 = .ok (.lload_n 3, 1) := by decide +kernel
theorem dX5_foldSlots_60 : decode cX5_foldSlots 60 = .ok (.lmul, 1) := by decide +kernel
theorem dX5_foldSlots_61 : decode cX5_foldSlots 61 = .ok (.aload_n 0, 1) := by decide +kernel
theorem dX5_foldSlots_62 : decode cX5_foldSlots 62 = .ok (.getfield 12, 3) := by decide +kernel
theorem dX5_foldSlots_65 : decode cX5_foldSlots 65 = .ok (.getfield 125, 3) := by decide +kernel
theorem dX5_foldSlots_68 : decode cX5_foldSlots 68 = .ok (.iload 5, 2) := by decide +kernel
theorem dX5_foldSlots_70 : decode cX5_foldSlots 70 = .ok (.iload 6, 2) := by decide +kernel
theorem dX5_foldSlots_72 : decode cX5_foldSlots 72 = .ok (.invokevirtual 229, 3) := by decide +kernel
theorem dX5_foldSlots_75 : decode cX5_foldSlots 75 = .ok (.i2l, 1) := by decide +kernel
theorem dX5_foldSlots_76 : decode cX5_foldSlots 76 = .ok (.ladd, 1) := by decide +kernel
theorem dX5_foldSlots_77 : decode cX5_foldSlots 77 = .ok (.lstore_n 3, 1) := by decide +kernel
theorem dX5_foldSlots_78 : decode cX5_foldSlots 78 = .ok (.iinc 6 1, 3) := by decide +kernel
theorem dX5_foldSlots_81 : decode cX5_foldSlots 81 = .ok (.goto (-32), 3) := by decide +kernel
theorem dX5_foldSlots_84 : decode cX5_foldSlots 84 = .ok (.iinc 5 1, 3) := by decide +kernel
theorem dX5_foldSlots_87 : decode cX5_foldSlots 87 = .ok (.goto (-82), 3) := by decide +kernel
theorem dX5_foldSlots_90 : decode cX5_foldSlots 90 = .ok (.lload_n 3, 1) := by decide +kernel
theorem dX5_foldSlots_91 : decode cX5_foldSlots 91 = .ok (.lreturn, 1) := by decide +kernel
theorem dX5_foldBlocks_0 : decode cX5_foldBlocks 0 = .ok (.lload_n 1, 1) := by decide +kernel
theorem dX5_foldBlocks_1 : decode cX5_foldBlocks 1 = .ok (.lstore_n 3, 1) := by decide +kernel
theorem dX5_foldBlocks_2 : decode cX5_foldBlocks 2 = .ok (.iconst 0, 1) := by decide +kernel
theorem dX5_foldBlocks_3 : decode cX5_foldBlocks 3 = .ok (.istore 5, 2) := by decide +kernel
theorem dX5_foldBlocks_5 : decode cX5_foldBlocks 5 = .ok (.iload 5, 2) := by decide +kernel
theorem dX5_foldBlocks_7 : decode cX5_foldBlocks 7 = .ok (.aload_n 0, 1) := by decide +kernel
theorem dX5_foldBlocks_8 : decode cX5_foldBlocks 8 = .ok (.getfield 12, 3) := by decide +kernel
theorem dX5_foldBlocks_11 : decode cX5_foldBlocks 11 = .ok (.getfield 125, 3) := by decide +kernel
theorem dX5_foldBlocks_14 : decode cX5_foldBlocks 14 = .ok (.getfield 128, 3) := by decide +kernel
theorem dX5_foldBlocks_17 : decode cX5_foldBlocks 17 = .ok (.if_icmp .ge 77, 3) := by decide +kernel
theorem dX5_foldBlocks_20 : decode cX5_foldBlocks 20 = .ok (.iconst 0, 1) := by decide +kernel
theorem dX5_foldBlocks_21 : decode cX5_foldBlocks 21 = .ok (.istore 6, 2) := by decide +kernel
theorem dX5_foldBlocks_23 : decode cX5_foldBlocks 23 = .ok (.iload 6, 2) := by decide +kernel
theorem dX5_foldBlocks_25 : decode cX5_foldBlocks 25 = .ok (.bipush 7, 2) := by decide +kernel
theorem dX5_foldBlocks_27 : decode cX5_foldBlocks 27 = .ok (.if_icmp .ge 28, 3) := by decide +kernel
theorem dX5_foldBlocks_30 : decode cX5_foldBlocks 30 = .ok (.ldc2_w 261, 3) := by decide +kernel
theorem dX5_foldBlocks_33 : decode cX5_foldBlocks 33 = .ok (.lload_n 3, 1) := by decide +kernel
theorem dX5_foldBlocks_34 : decode cX5_foldBlocks 34 = .ok (.lmul, 1) := by decide +kernel
theorem dX5_foldBlocks_35 : decode cX5_foldBlocks 35 = .ok (.aload_n 0, 1) := by decide +kernel
theorem dX5_foldBlocks_36 : decode cX5_foldBlocks 36 = .ok (.getfield 12, 3) := by decide +kernel
theorem dX5_foldBlocks_39 : decode cX5_foldBlocks 39 = .ok (.iload 5, 2) := by decide +kernel
theorem dX5_foldBlocks_41 : decode cX5_foldBlocks 41 = .ok (.iload 6, 2) := by decide +kernel
theorem dX5_foldBlocks_43 : decode cX5_foldBlocks 43 = .ok (.invokevirtual 224, 3) := by decide +kernel
theorem dX5_foldBlocks_46 : decode cX5_foldBlocks 46 = .ok (.i2l, 1) := by decide +kernel
theorem dX5_foldBlocks_47 : decode cX5_foldBlocks 47 = .ok (.ladd, 1) := by decide +kernel
theorem dX5_foldBlocks_48 : decode cX5_foldBlocks 48 = .ok (.lstore_n 3, 1) := by decide +kernel
theorem dX5_foldBlocks_49 : decode cX5_foldBlocks 49 = .ok (.iinc 6 1, 3) := by decide +kernel
theorem dX5_foldBlocks_52 : decode cX5_foldBlocks 52 = .ok (.goto (-29), 3) := by decide +kernel
theorem dX5_foldBlocks_55 : decode cX5_foldBlocks 55 = .ok (.ldc2_w 261, 3) := by decide +kernel
theorem dX5_foldBlocks_58 : decode cX5_foldBlocks 58 = .ok (.lload_n 3, 1) := by decide +kernel
theorem dX5_foldBlocks_59 : decode cX5_foldBlocks 59 = .ok (.lmul, 1) := by decide +kernel
theorem dX5_foldBlocks_60 : decode cX5_foldBlocks 60 = .ok (.aload_n 0, 1) := by decide +kernel
theorem dX5_foldBlocks_61 : decode cX5_foldBlocks 61 = .ok (.getfield 12, 3) := by decide +kernel
theorem dX5_foldBlocks_64 : decode cX5_foldBlocks 64 = .ok (.iload 5, 2) := by decide +kernel
theorem dX5_foldBlocks_66 : decode cX5_foldBlocks 66 = .ok (.invokevirtual 147, 3) := by decide +kernel
theorem dX5_foldBlocks_69 : decode cX5_foldBlocks 69 = .ok (.ifCond .eq 15, 3) := by decide +kernel
theorem dX5_foldBlocks_72 : decode cX5_foldBlocks 72 = .ok (.aload_n 0, 1) := by decide +kernel
theorem dX5_foldBlocks_73 : decode cX5_foldBlocks 73 = .ok (.getfield 12, 3) := by decide +kernel
theorem dX5_foldBlocks_76 : decode cX5_foldBlocks 76 = .ok (.iload 5, 2) := by decide +kernel
theorem dX5_foldBlocks_78 : decode cX5_foldBlocks 78 = .ok (.invokevirtual 348, 3) := by decide +kernel
theorem dX5_foldBlocks_81 : decode cX5_foldBlocks 81 = .ok (.goto 4, 3) := by decide +kernel
theorem dX5_foldBlocks_84 : decode cX5_foldBlocks 84 = .ok (.iconst (-1), 1) := by decide +kernel
theorem dX5_foldBlocks_85 : decode cX5_foldBlocks 85 = .ok (.i2l, 1) := by decide +kernel
theorem dX5_foldBlocks_86 : decode cX5_foldBlocks 86 = .ok (.ladd, 1) := by decide +kernel
theorem dX5_foldBlocks_87 : decode cX5_foldBlocks 87 = .ok (.lstore_n 3, 1) := by decide +kernel
theorem dX5_foldBlocks_88 : decode cX5_foldBlocks 88 = .ok (.iinc 5 1, 3) := by decide +kernel
theorem dX5_foldBlocks_91 : decode cX5_foldBlocks 91 = .ok (.goto (-86), 3) := by decide +kernel
theorem dX5_foldBlocks_94 : decode cX5_foldBlocks 94 = .ok (.lload_n 3, 1) := by decide +kernel
theorem dX5_foldBlocks_95 : decode cX5_foldBlocks 95 = .ok (.lreturn, 1) := by decide +kernel
theorem dX5_foldTrials_0 : decode cX5_foldTrials 0 = .ok (.ldc2_w 261, 3) := by decide +kernel
theorem dX5_foldTrials_3 : decode cX5_foldTrials 3 = .ok (.lload_n 1, 1) := by decide +kernel
theorem dX5_foldTrials_4 : decode cX5_foldTrials 4 = .ok (.lmul, 1) := by decide +kernel
theorem dX5_foldTrials_5 : decode cX5_foldTrials 5 = .ok (.aload_n 0, 1) := by decide +kernel
theorem dX5_foldTrials_6 : decode cX5_foldTrials 6 = .ok (.invokevirtual 351, 3) := by decide +kernel
theorem dX5_foldTrials_9 : decode cX5_foldTrials 9 = .ok (.i2l, 1) := by decide +kernel
theorem dX5_foldTrials_10 : decode cX5_foldTrials 10 = .ok (.ladd, 1) := by decide +kernel
theorem dX5_foldTrials_11 : decode cX5_foldTrials 11 = .ok (.lstore_n 3, 1) := by decide +kernel
theorem dX5_foldTrials_12 : decode cX5_foldTrials 12 = .ok (.iconst 0, 1) := by decide +kernel
theorem dX5_foldTrials_13 : decode cX5_foldTrials 13 = .ok (.istore 5, 2) := by decide +kernel
theorem dX5_foldTrials_15 : decode cX5_foldTrials 15 = .ok (.iload 5, 2) := by decide +kernel
theorem dX5_foldTrials_17 : decode cX5_foldTrials 17 = .ok (.iconst 3, 1) := by decide +kernel
theorem dX5_foldTrials_18 : decode cX5_foldTrials 18 = .ok (.if_icmp .ge 23, 3) := by decide +kernel
theorem dX5_foldTrials_21 : decode cX5_foldTrials 21 = .ok (.ldc2_w 261, 3) := by decide +kernel
theorem dX5_foldTrials_24 : decode cX5_foldTrials 24 = .ok (.lload_n 3, 1) := by decide +kernel
theorem dX5_foldTrials_25 : decode cX5_foldTrials 25 = .ok (.lmul, 1) := by decide +kernel
theorem dX5_foldTrials_26 : decode cX5_foldTrials 26 = .ok (.aload_n 0, 1) := by decide +kernel
theorem dX5_foldTrials_27 : decode cX5_foldTrials 27 = .ok (.iload 5, 2) := by decide +kernel
theorem dX5_foldTrials_29 : decode cX5_foldTrials 29 = .ok (.invokevirtual 242, 3) := by decide +kernel
theorem dX5_foldTrials_32 : decode cX5_foldTrials 32 = .ok (.i2l, 1) := by decide +kernel
theorem dX5_foldTrials_33 : decode cX5_foldTrials 33 = .ok (.ladd, 1) := by decide +kernel
theorem dX5_foldTrials_34 : decode cX5_foldTrials 34 = .ok (.lstore_n 3, 1) := by decide +kernel
theorem dX5_foldTrials_35 : decode cX5_foldTrials 35 = .ok (.iinc 5 1, 3) := by decide +kernel
theorem dX5_foldTrials_38 : decode cX5_foldTrials 38 = .ok (.goto (-23), 3) := by decide +kernel
theorem dX5_foldTrials_41 : decode cX5_foldTrials 41 = .ok (.iconst 0, 1) := by decide +kernel
theorem dX5_foldTrials_42 : decode cX5_foldTrials 42 = .ok (.istore 5, 2) := by decide +kernel
theorem dX5_foldTrials_44 : decode cX5_foldTrials 44 = .ok (.iload 5, 2) := by decide +kernel
theorem dX5_foldTrials_46 : decode cX5_foldTrials 46 = .ok (.iconst 3, 1) := by decide +kernel
theorem dX5_foldTrials_47 : decode cX5_foldTrials 47 = .ok (.if_icmp .ge 39, 3) := by decide +kernel
theorem dX5_foldTrials_50 : decode cX5_foldTrials 50 = .ok (.ldc2_w 261, 3) := by decide +kernel
theorem dX5_foldTrials_53 : decode cX5_foldTrials 53 = .ok (.lload_n 3, 1) := by decide +kernel
theorem dX5_foldTrials_54 : decode cX5_foldTrials 54 = .ok (.lmul, 1) := by decide +kernel
theorem dX5_foldTrials_55 : decode cX5_foldTrials 55 = .ok (.aload_n 0, 1) := by decide +kernel
theorem dX5_foldTrials_56 : decode cX5_foldTrials 56 = .ok (.iload 5, 2) := by decide +kernel
theorem dX5_foldTrials_58 : decode cX5_foldTrials 58 = .ok (.iconst 0, 1) := by decide +kernel
theorem dX5_foldTrials_59 : decode cX5_foldTrials 59 = .ok (.invokevirtual 247, 3) := by decide +kernel
theorem dX5_foldTrials_62 : decode cX5_foldTrials 62 = .ok (.i2l, 1) := by decide +kernel
theorem dX5_foldTrials_63 : decode cX5_foldTrials 63 = .ok (.ladd, 1) := by decide +kernel
theorem dX5_foldTrials_64 : decode cX5_foldTrials 64 = .ok (.lstore_n 3, 1) := by decide +kernel
theorem dX5_foldTrials_65 : decode cX5_foldTrials 65 = .ok (.ldc2_w 261, 3) := by decide +kernel
theorem dX5_foldTrials_68 : decode cX5_foldTrials 68 = .ok (.lload_n 3, 1) := by decide +kernel
theorem dX5_foldTrials_69 : decode cX5_foldTrials 69 = .ok (.lmul, 1) := by decide +kernel
theorem dX5_foldTrials_70 : decode cX5_foldTrials 70 = .ok (.aload_n 0, 1) := by decide +kernel
theorem dX5_foldTrials_71 : decode cX5_foldTrials 71 = .ok (.iload 5, 2) := by decide +kernel
theorem dX5_foldTrials_73 : decode cX5_foldTrials 73 = .ok (.iconst 1, 1) := by decide +kernel
theorem dX5_foldTrials_74 : decode cX5_foldTrials 74 = .ok (.invokevirtual 247, 3) := by decide +kernel
theorem dX5_foldTrials_77 : decode cX5_foldTrials 77 = .ok (.i2l, 1) := by decide +kernel
theorem dX5_foldTrials_78 : decode cX5_foldTrials 78 = .ok (.ladd, 1) := by decide +kernel
theorem dX5_foldTrials_79 : decode cX5_foldTrials 79 = .ok (.lstore_n 3, 1) := by decide +kernel
theorem dX5_foldTrials_80 : decode cX5_foldTrials 80 = .ok (.iinc 5 1, 3) := by decide +kernel
theorem dX5_foldTrials_83 : decode cX5_foldTrials 83 = .ok (.goto (-39), 3) := by decide +kernel
theorem dX5_foldTrials_86 : decode cX5_foldTrials 86 = .ok (.ldc2_w 261, 3) := by decide +kernel
theorem dX5_foldTrials_89 : decode cX5_foldTrials 89 = .ok (.lload_n 3, 1) := by decide +kernel
theorem dX5_foldTrials_90 : decode cX5_foldTrials 90 = .ok (.lmul, 1) := by decide +kernel
theorem dX5_foldTrials_91 : decode cX5_foldTrials 91 = .ok (.aload_n 0, 1) := by decide +kernel
theorem dX5_foldTrials_92 : decode cX5_foldTrials 92 = .ok (.invokevirtual 354, 3) := by decide +kernel
theorem dX5_foldTrials_95 : decode cX5_foldTrials 95 = .ok (.i2l, 1) := by decide +kernel
theorem dX5_foldTrials_96 : decode cX5_foldTrials 96 = .ok (.ladd, 1) := by decide +kernel
theorem dX5_foldTrials_97 : decode cX5_foldTrials 97 = .ok (.lreturn, 1) := by decide +kernel
theorem dX5_doubleBits_0 : decode cX5_doubleBits 0 = .ok (.dload_n 0, 1) := by decide +kernel
theorem dX5_doubleBits_1 : decode cX5_doubleBits 1 = .ok (.sipush 1023, 3) := by decide +kernel
theorem dX5_doubleBits_4 : decode cX5_doubleBits 4 = .ok (.bipush 52, 2) := by decide +kernel
theorem dX5_doubleBits_6 : decode cX5_doubleBits 6 = .ok (.ldc2_w 357, 3) := by decide +kernel
theorem dX5_doubleBits_9 : decode cX5_doubleBits 9 = .ok (.invokestatic 359, 3) := by decide +kernel
theorem dX5_doubleBits_12 : decode cX5_doubleBits 12 = .ok (.lreturn, 1) := by decide +kernel
theorem dX5_floatBits_0 : decode cX5_floatBits 0 = .ok (.fload_n 0, 1) := by decide +kernel
theorem dX5_floatBits_1 : decode cX5_floatBits 1 = .ok (.f2d, 1) := by decide +kernel
theorem dX5_floatBits_2 : decode cX5_floatBits 2 = .ok (.bipush 127, 2) := by decide +kernel
theorem dX5_floatBits_4 : decode cX5_floatBits 4 = .ok (.bipush 23, 2) := by decide +kernel
theorem dX5_floatBits_6 : decode cX5_floatBits 6 = .ok (.ldc2_w 363, 3) := by decide +kernel
theorem dX5_floatBits_9 : decode cX5_floatBits 9 = .ok (.invokestatic 359, 3) := by decide +kernel
theorem dX5_floatBits_12 : decode cX5_floatBits 12 = .ok (.lreturn, 1) := by decide +kernel
theorem dX5_bits_0 : decode cX5_bits 0 = .ok (.dload_n 0, 1) := by decide +kernel
theorem dX5_bits_1 : decode cX5_bits 1 = .ok (.dconst 0, 1) := by decide +kernel
theorem dX5_bits_2 : decode cX5_bits 2 = .ok (.dcmp .l, 1) := by decide +kernel
theorem dX5_bits_3 : decode cX5_bits 3 = .ok (.ifCond .gt 5, 3) := by decide +kernel
theorem dX5_bits_6 : decode cX5_bits 6 = .ok (.lconst 0, 1) := by decide +kernel
theorem dX5_bits_7 : decode cX5_bits 7 = .ok (.lreturn, 1) := by decide +kernel
theorem dX5_bits_8 : decode cX5_bits 8 = .ok (.dload_n 0, 1) := by decide +kernel
theorem dX5_bits_9 : decode cX5_bits 9 = .ok (.dstore 6, 2) := by decide +kernel
theorem dX5_bits_11 : decode cX5_bits 11 = .ok (.iload_n 2, 1) := by decide +kernel
theorem dX5_bits_12 : decode cX5_bits 12 = .ok (.istore 8, 2) := by decide +kernel
theorem dX5_bits_14 : decode cX5_bits 14 = .ok (.dload 6, 2) := by decide +kernel
theorem dX5_bits_16 : decode cX5_bits 16 = .ok (.dconst 1, 1) := by decide +kernel
theorem dX5_bits_17 : decode cX5_bits 17 = .ok (.dcmp .g, 1) := by decide +kernel
theorem dX5_bits_18 : decode cX5_bits 18 = .ok (.ifCond .ge 23, 3) := by decide +kernel
theorem dX5_bits_21 : decode cX5_bits 21 = .ok (.iload 8, 2) := by decide +kernel
theorem dX5_bits_23 : decode cX5_bits 23 = .ok (.iconst 1, 1) := by decide +kernel
theorem dX5_bits_24 : decode cX5_bits 24 = .ok (.if_icmp .le 17, 3) := by decide +kernel
theorem dX5_bits_27 : decode cX5_bits 27 = .ok (.dload 6, 2) := by decide +kernel
theorem dX5_bits_29 : decode cX5_bits 29 = .ok (.ldc2_w 365, 3) := by decide +kernel
theorem dX5_bits_32 : decode cX5_bits 32 = .ok (.dmul, 1) := by decide +kernel
theorem dX5_bits_33 : decode cX5_bits 33 = .ok (.dstore 6, 2) := by decide +kernel
theorem dX5_bits_35 : decode cX5_bits 35 = .ok (.iinc 8 (-1), 3) := by decide +kernel
theorem dX5_bits_38 : decode cX5_bits 38 = .ok (.goto (-24), 3) := by decide +kernel
theorem dX5_bits_41 : decode cX5_bits 41 = .ok (.dload 6, 2) := by decide +kernel
theorem dX5_bits_43 : decode cX5_bits 43 = .ok (.ldc2_w 365, 3) := by decide +kernel
theorem dX5_bits_46 : decode cX5_bits 46 = .ok (.dcmp .l, 1) := by decide +kernel
theorem dX5_bits_47 : decode cX5_bits 47 = .ok (.ifCond .lt 25, 3) := by decide +kernel
theorem dX5_bits_50 : decode cX5_bits 50 = .ok (.iload 8, 2) := by decide +kernel
theorem dX5_bits_52 : decode cX5_bits 52 = .ok (.iconst 2, 1) := by decide +kernel
theorem dX5_bits_53 : decode cX5_bits 53 = .ok (.iload_n 2, 1) := by decide +kernel
theorem dX5_bits_54 : decode cX5_bits 54 = .ok (.imul, 1) := by decide +kernel
theorem dX5_bits_55 : decode cX5_bits 55 = .ok (.if_icmp .ge 17, 3) := by decide +kernel
theorem dX5_bits_58 : decode cX5_bits 58 = .ok (.dload 6, 2) := by decide +kernel
theorem dX5_bits_60 : decode cX5_bits 60 = .ok (.ldc2_w 365, 3) := by decide +kernel
theorem dX5_bits_63 : decode cX5_bits 63 = .ok (.ddiv, 1) := by decide +kernel
theorem dX5_bits_64 : decode cX5_bits 64 = .ok (.dstore 6, 2) := by decide +kernel
theorem dX5_bits_66 : decode cX5_bits 66 = .ok (.iinc 8 1, 3) := by decide +kernel
theorem dX5_bits_69 : decode cX5_bits 69 = .ok (.goto (-28), 3) := by decide +kernel
theorem dX5_bits_72 : decode cX5_bits 72 = .ok (.iload 8, 2) := by decide +kernel
theorem dX5_bits_74 : decode cX5_bits 74 = .ok (.i2l, 1) := by decide +kernel
theorem dX5_bits_75 : decode cX5_bits 75 = .ok (.iload_n 3, 1) := by decide +kernel
theorem dX5_bits_76 : decode cX5_bits 76 = .ok (.lshl, 1) := by decide +kernel
theorem dX5_bits_77 : decode cX5_bits 77 = .ok (.dload 6, 2) := by decide +kernel
theorem dX5_bits_79 : decode cX5_bits 79 = .ok (.dconst 1, 1) := by decide +kernel
theorem dX5_bits_80 : decode cX5_bits 80 = .ok (.dsub, 1) := by decide +kernel
theorem dX5_bits_81 : decode cX5_bits 81 = .ok (.dload 4, 2) := by decide +kernel
theorem dX5_bits_83 : decode cX5_bits 83 = .ok (.dmul, 1) := by decide +kernel
theorem dX5_bits_84 : decode cX5_bits 84 = .ok (.d2l, 1) := by decide +kernel
theorem dX5_bits_85 : decode cX5_bits 85 = .ok (.ladd, 1) := by decide +kernel
theorem dX5_bits_86 : decode cX5_bits 86 = .ok (.lreturn, 1) := by decide +kernel
theorem dX6_init_0 : decode cX6_init 0 = .ok (.aload_n 0, 1) := by decide +kernel
theorem dX6_init_1 : decode cX6_init 1 = .ok (.invokespecial 1, 3) := by decide +kernel
theorem dX6_init_4 : decode cX6_init 4 = .ok (.aload_n 0, 1) := by decide +kernel
theorem dX6_init_5 : decode cX6_init 5 = .ok (.bipush 96, 2) := by decide +kernel
theorem dX6_init_7 : decode cX6_init 7 = .ok (.newarray .int, 2) := by decide +kernel
theorem dX6_init_9 : decode cX6_init 9 = .ok (.putfield 7, 3) := by decide +kernel
theorem dX6_init_12 : decode cX6_init 12 = .ok (.aload_n 0, 1) := by decide +kernel
theorem dX6_init_13 : decode cX6_init 13 = .ok (.bipush 96, 2) := by decide +kernel
theorem dX6_init_15 : decode cX6_init 15 = .ok (.newarray .int, 2) := by decide +kernel
theorem dX6_init_17 : decode cX6_init 17 = .ok (.putfield 13, 3) := by decide +kernel
theorem dX6_init_20 : decode cX6_init 20 = .ok (.aload_n 0, 1) := by decide +kernel
theorem dX6_init_21 : decode cX6_init 21 = .ok (.sipush 576, 3) := by decide +kernel
theorem dX6_init_24 : decode cX6_init 24 = .ok (.newarray .int, 2) := by decide +kernel
theorem dX6_init_26 : decode cX6_init 26 = .ok (.putfield 16, 3) := by decide +kernel
theorem dX6_init_29 : decode cX6_init 29 = .ok (.aload_n 0, 1) := by decide +kernel
theorem dX6_init_30 : decode cX6_init 30 = .ok (.bipush 96, 2) := by decide +kernel
theorem dX6_init_32 : decode cX6_init 32 = .ok (.newarray .int, 2) := by decide +kernel
theorem dX6_init_34 : decode cX6_init 34 = .ok (.putfield 19, 3) := by decide +kernel
theorem dX6_init_37 : decode cX6_init 37 = .ok (.aload_n 0, 1) := by decide +kernel
theorem dX6_init_38 : decode cX6_init 38 = .ok (.bipush 60, 2) := by decide +kernel
theorem dX6_init_40 : decode cX6_init 40 = .ok (.newarray .int, 2) := by decide +kernel
theorem dX6_init_42 : decode cX6_init 42 = .ok (.putfield 22, 3) := by decide +kernel
theorem dX6_init_45 : decode cX6_init 45 = .ok (.aload_n 0, 1) := by decide +kernel
theorem dX6_init_46 : decode cX6_init 46 = .ok (.getfield 7, 3) := by decide +kernel
theorem dX6_init_49 : decode cX6_init 49 = .ok (.bipush 40, 2) := by decide +kernel
theorem dX6_init_51 : decode cX6_init 51 = .ok (.iconst (-1), 1) := by decide +kernel
theorem dX6_init_52 : decode cX6_init 52 = .ok (.iastore, 1) := by decide +kernel
theorem dX6_init_53 : decode cX6_init 53 = .ok (.aload_n 0, 1) := by decide +kernel
theorem dX6_init_54 : decode cX6_init 54 = .ok (.getfield 7, 3) := by decide +kernel
theorem dX6_init_57 : decode cX6_init 57 = .ok (.bipush 47, 2) := by decide +kernel
theorem dX6_init_59 : decode cX6_init 59 = .ok (.iconst 1, 1) := by decide +kernel
theorem dX6_init_60 : decode cX6_init 60 = .ok (.iastore, 1) := by decide +kernel
theorem dX6_init_61 : decode cX6_init 61 = .ok (.return_, 1) := by decide +kernel
theorem dX6_thrown_0 : decode cX6_thrown 0 = .ok (.aload_n 0, 1) := by decide +kernel
theorem dX6_thrown_1 : decode cX6_thrown 1 = .ok (.getfield 25, 3) := by decide +kernel
theorem dX6_thrown_4 : decode cX6_thrown 4 = .ok (.ireturn, 1) := by decide +kernel
theorem dX6_in_0 : decode cX6_in 0 = .ok (.iload_n 0, 1) := by decide +kernel
theorem dX6_in_1 : decode cX6_in 1 = .ok (.iload_n 1, 1) := by decide +kernel
theorem dX6_in_2 : decode cX6_in 2 = .ok (.if_icmp .lt 12, 3) := by decide +kernel
theorem dX6_in_5 : decode cX6_in 5 = .ok (.iload_n 0, 1) := by decide +kernel
theorem dX6_in_6 : decode cX6_in 6 = .ok (.iload_n 2, 1) := by decide +kernel
theorem dX6_in_7 : decode cX6_in 7 = .ok (.if_icmp .gt 7, 3) := by decide +kernel
theorem dX6_in_10 : decode cX6_in 10 = .ok (.iconst 1, 1) := by decide +kernel
theorem dX6_in_11 : decode cX6_in 11 = .ok (.goto 4, 3) := by decide +kernel
theorem dX6_in_14 : decode cX6_in 14 = .ok (.iconst 0, 1) := by decide +kernel
theorem dX6_in_15 : decode cX6_in 15 = .ok (.ireturn, 1) := by decide +kernel
theorem dX6_isSlot_0 : decode cX6_isSlot 0 = .ok (.iload_n 0, 1) := by decide +kernel
theorem dX6_isSlot_1 : decode cX6_isSlot 1 = .ok (.iconst 0, 1) := by decide +kernel
theorem dX6_isSlot_2 : decode cX6_isSlot 2 = .ok (.iconst 3, 1) := by decide +kernel
theorem dX6_isSlot_3 : decode cX6_isSlot 3 = .ok (.invokestatic 29, 3) := by decide +kernel
theorem dX6_isSlot_6 : decode cX6_isSlot 6 = .ok (.ireturn, 1) := by decide +kernel
theorem dX6_of_0 : decode cX6_of 0 = .ok (.aload_n 0, 1) := by decide +kernel
theorem dX6_of_1 : decode cX6_of 1 = .ok (.getfield 7, 3) := by decide +kernel
theorem dX6_of_4 : decode cX6_of 4 = .ok (.bipush 9, 2) := by decide +kernel
theorem dX6_of_6 : decode cX6_of 6 = .ok (.iload_n 1, 1) := by decide +kernel
theorem dX6_of_7 : decode cX6_of 7 = .ok (.imul, 1) := by decide +kernel
theorem dX6_of_8 : decode cX6_of 8 = .ok (.iload_n 2, 1) := by decide +kernel
theorem dX6_of_9 : decode cX6_of 9 = .ok (.iadd, 1) := by decide +kernel
theorem dX6_of_10 : decode cX6_of 10 = .ok (.iaload, 1) := by decide +kernel
theorem dX6_of_11 : decode cX6_of 11 = .ok (.ireturn, 1) := by decide +kernel
theorem dX6_put_0 : decode cX6_put 0 = .ok (.aload_n 0, 1) := by decide +kernel
theorem dX6_put_1 : decode cX6_put 1 = .ok (.getfield 7, 3) := by decide +kernel
theorem dX6_put_4 : decode cX6_put 4 = .ok (.bipush 9, 2) := by decide +kernel
theorem dX6_put_6 : decode cX6_put 6 = .ok (.iload_n 1, 1) := by decide +kernel
theorem dX6_put_7 : decode cX6_put 7 = .ok (.imul, 1) := by decide +kernel
theorem dX6_put_8 : decode cX6_put 8 = .ok (.iload_n 2, 1) := by decide +kernel
theorem dX6_put_9 : decode cX6_put 9 = .ok (.iadd, 1) := by decide +kernel
theorem dX6_put_10 : decode cX6_put 10 = .ok (.iload_n 3, 1) := by decide +kernel
theorem dX6_put_11 : decode cX6_put 11 = .ok (.iastore, 1) := by decide +kernel
theorem dX6_put_12 : decode cX6_put 12 = .ok (.return_, 1) := by decide +kernel
theorem dX6_isThere_0 : decode cX6_isThere 0 = .ok (.aload_n 0, 1) := by decide +kernel
theorem dX6_isThere_1 : decode cX6_isThere 1 = .ok (.iload_n 1, 1) := by decide +kernel
theorem dX6_isThere_2 : decode cX6_isThere 2 = .ok (.iconst 0, 1) := by decide +kernel
theorem dX6_isThere_3 : decode cX6_isThere 3 = .ok (.invokevirtual 33, 3) := by decide +kernel
theorem dX6_isThere_6 : decode cX6_isThere 6 = .ok (.iconst 1, 1) := by decide +kernel
theorem dX6_isThere_7 : decode cX6_isThere 7 = .ok (.if_icmp .ne 7, 3) := by decide +kernel
theorem dX6_isThere_10 : decode cX6_isThere 10 = .ok (.iconst 1, 1) := by decide +kernel
theorem dX6_isThere_11 : decode cX6_isThere 11 = .ok (.goto 4, 3) := by decide +kernel
theorem dX6_isThere_14 : decode cX6_isThere 14 = .ok (.iconst 0, 1) := by decide +kernel
theorem dX6_isThere_15 : decode cX6_isThere 15 = .ok (.ireturn, 1) := by decide +kernel
theorem dX6_isLeft_0 : decode cX6_isLeft 0 = .ok (.aload_n 0, 1) := by decide +kernel
theorem dX6_isLeft_1 : decode cX6_isLeft 1 = .ok (.iload_n 1, 1) := by decide +kernel
theorem dX6_isLeft_2 : decode cX6_isLeft 2 = .ok (.iconst 5, 1) := by decide +kernel
theorem dX6_isLeft_3 : decode cX6_isLeft 3 = .ok (.invokevirtual 33, 3) := by decide +kernel
theorem dX6_isLeft_6 : decode cX6_isLeft 6 = .ok (.iconst 1, 1) := by decide +kernel
theorem dX6_isLeft_7 : decode cX6_isLeft 7 = .ok (.if_icmp .ne 16, 3) := by decide +kernel
theorem dX6_isLeft_10 : decode cX6_isLeft 10 = .ok (.aload_n 0, 1) := by decide +kernel
theorem dX6_isLeft_11 : decode cX6_isLeft 11 = .ok (.iload_n 1, 1) := by decide +kernel
theorem dX6_isLeft_12 : decode cX6_isLeft 12 = .ok (.iconst 4, 1) := by decide +kernel
theorem dX6_isLeft_13 : decode cX6_isLeft 13 = .ok (.invokevirtual 33, 3) := by decide +kernel
theorem dX6_isLeft_16 : decode cX6_isLeft 16 = .ok (.ifCond .ne 7, 3) := by decide +kernel
theorem dX6_isLeft_19 : decode cX6_isLeft 19 = .ok (.iconst 1, 1) := by decide +kernel
theorem dX6_isLeft_20 : decode cX6_isLeft 20 = .ok (.goto 4, 3) := by decide +kernel
theorem dX6_isLeft_23 : decode cX6_isLeft 23 = .ok (.iconst 0, 1) := by decide +kernel
theorem dX6_isLeft_24 : decode cX6_isLeft 24 = .ok (.ireturn, 1) := by decide +kernel
theorem dX6_record_0 : decode cX6_record 0 = .ok (.aload_n 0, 1) := by decide +kernel
theorem dX6_record_1 : decode cX6_record 1 = .ok (.getfield 37, 3) := by decide +kernel
theorem dX6_record_4 : decode cX6_record 4 = .ok (.bipush 6, 2) := by decide +kernel
theorem dX6_record_6 : decode cX6_record 6 = .ok (.if_icmp .ne 43, 3) := by decide +kernel
theorem dX6_record_9 : decode cX6_record 9 = .ok (.iconst 0, 1) := by decide +kernel
theorem dX6_record_10 : decode cX6_record 10 = .ok (.istore_n 1, 1) := by decide +kernel
theorem dX6_record_11 : decode cX6_record 11 = .ok (.iload_n 1, 1) := by decide +kernel
theorem dX6_record_12 : decode cX6_record 12 = .ok (.sipush 480, 3) := by decide +kernel
theorem dX6_record_15 : decode cX6_record 15 = .ok (.if_icmp .ge 24, 3) := by decide +kernel
theorem dX6_record_18 : decode cX6_record 18 = .ok (.aload_n 0, 1) := by decide +kernel
theorem dX6_record_19 : decode cX6_record 19 = .ok (.getfield 16, 3) := by decide +kernel
theorem dX6_record_22 : decode cX6_record 22 = .ok (.iload_n 1, 1) := by decide +kernel
theorem dX6_record_23 : decode cX6_record 23 = .ok (.aload_n 0, 1) := by decide +kernel
theorem dX6_record_24 : decode cX6_record 24 = .ok (.getfield 16, 3) := by decide +kernel
theorem dX6_record_27 : decode cX6_record 27 = .ok (.bipush 96, 2) := by decide +kernel
theorem dX6_record_29 : decode cX6_record 29 = .ok (.iload_n 1, 1) := by decide +kernel
theorem dX6_record_30 : decode cX6_record 30 = .ok (.iadd, 1) := by decide +kernel
theorem dX6_record_31 : decode cX6_record 31 = .ok (.iaload, 1) := by decide +kernel
theorem dX6_record_32 : decode cX6_record 32 = .ok (.iastore, 1) := by decide +kernel
theorem dX6_record_33 : decode cX6_record 33 = .ok (.iinc 1 1, 3) := by decide +kernel
theorem dX6_record_36 : decode cX6_record 36 = .ok (.goto (-25), 3) := by decide +kernel
theorem dX6_record_39 : decode cX6_record 39 = .ok (.aload_n 0, 1) := by decide +kernel
theorem dX6_record_40 : decode cX6_record 40 = .ok (.dup, 1) := by decide +kernel
theorem dX6_record_41 : decode cX6_record 41 = .ok (.getfield 37, 3) := by decide +kernel
theorem dX6_record_44 : decode cX6_record 44 = .ok (.iconst 1, 1) := by decide +kernel
theorem dX6_record_45 : decode cX6_record 45 = .ok (.isub, 1) := by decide +kernel
theorem dX6_record_46 : decode cX6_record 46 = .ok (.putfield 37, 3) := by decide +kernel
theorem dX6_record_49 : decode cX6_record 49 = .ok (.iconst 0, 1) := by decide +kernel
theorem dX6_record_50 : decode cX6_record 50 = .ok (.istore_n 1, 1) := by decide +kernel
theorem dX6_record_51 : decode cX6_record 51 = .ok (.iload_n 1, 1) := by decide +kernel
theorem dX6_record_52 : decode cX6_record 52 = .ok (.bipush 96, 2) := by decide +kernel
theorem dX6_record_54 : decode cX6_record 54 = .ok (.if_icmp .ge 29, 3) := by decide +kernel
theorem dX6_record_57 : decode cX6_record 57 = .ok (.aload_n 0, 1) := by decide +kernel
theorem dX6_record_58 : decode cX6_record 58 = .ok (.getfield 16, 3) := by decide +kernel
theorem dX6_record_61 : decode cX6_record 61 = .ok (.bipush 96, 2) := by decide +kernel
theorem dX6_record_63 : decode cX6_record 63 = .ok (.aload_n 0, 1) := by decide +kernel
theorem dX6_record_64 : decode cX6_record 64 = .ok (.getfield 37, 3) := by decide +kernel
theorem dX6_record_67 : decode cX6_record 67 = .ok (.imul, 1) := by decide +kernel
theorem dX6_record_68 : decode cX6_record 68 = .ok (.iload_n 1, 1) := by decide +kernel
theorem dX6_record_69 : decode cX6_record 69 = .ok (.iadd, 1) := by decide +kernel
theorem dX6_record_70 : decode cX6_record 70 = .ok (.aload_n 0, 1) := by decide +kernel
theorem dX6_record_71 : decode cX6_record 71 = .ok (.getfield 7, 3) := by decide +kernel
theorem dX6_record_74 : decode cX6_record 74 = .ok (.iload_n 1, 1) := by decide +kernel
theorem dX6_record_75 : decode cX6_record 75 = .ok (.iaload, 1) := by decide +kernel
theorem dX6_record_76 : decode cX6_record 76 = .ok (.iastore, 1) := by decide +kernel
theorem dX6_record_77 : decode cX6_record 77 = .ok (.iinc 1 1, 3) := by decide +kernel
theorem dX6_record_80 : decode cX6_record 80 = .ok (.goto (-29), 3) := by decide +kernel
theorem dX6_record_83 : decode cX6_record 83 = .ok (.aload_n 0, 1) := by decide +kernel
theorem dX6_record_84 : decode cX6_record 84 = .ok (.dup, 1) := by decide +kernel
theorem dX6_record_85 : decode cX6_record 85 = .ok (.getfield 37, 3) := by decide +kernel
theorem dX6_record_88 : decode cX6_record 88 = .ok (.iconst 1, 1) := by decide +kernel
theorem dX6_record_89 : decode cX6_record 89 = .ok (.iadd, 1) := by decide +kernel
theorem dX6_record_90 : decode cX6_record 90 = .ok (.putfield 37, 3) := by decide +kernel
theorem dX6_record_93 : decode cX6_record 93 = .ok (.return_, 1) := by decide +kernel
theorem dX6_undo_0 : decode cX6_undo 0 = .ok (.aload_n 0, 1) := by decide +kernel
theorem dX6_undo_1 : decode cX6_undo 1 = .ok (.aload_n 0, 1) := by decide +kernel
theorem dX6_undo_2 : decode cX6_undo 2 = .ok (.getfield 37, 3) := by decide +kernel
theorem dX6_undo_5 : decode cX6_undo 5 = .ok (.ifCond .ne 7, 3) := by decide +kernel
theorem dX6_undo_8 : decode cX6_undo 8 = .ok (.iconst 1, 1) := by decide +kernel
theorem dX6_undo_9 : decode cX6_undo 9 = .ok (.goto 4, 3) := by decide +kernel
theorem dX6_undo_12 : decode cX6_undo 12 = .ok (.iconst 0, 1) := by decide +kernel
theorem dX6_undo_13 : decode cX6_undo 13 = .ok (.putfield 25, 3) := by decide +kernel
theorem dX6_undo_16 : decode cX6_undo 16 = .ok (.aload_n 0, 1) := by decide +kernel
theorem dX6_undo_17 : decode cX6_undo 17 = .ok (.getfield 25, 3) := by decide +kernel
theorem dX6_undo_20 : decode cX6_undo 20 = .ok (.ifCond .le 5, 3) := by decide +kernel
theorem dX6_undo_23 : decode cX6_undo 23 = .ok (.iconst 0, 1) := by decide +kernel
theorem dX6_undo_24 : decode cX6_undo 24 = .ok (.ireturn, 1) := by decide +kernel
theorem dX6_undo_25 : decode cX6_undo 25 = .ok (.aload_n 0, 1) := by decide +kernel
theorem dX6_undo_26 : decode cX6_undo 26 = .ok (.dup, 1) := by decide +kernel
theorem dX6_undo_27 : decode cX6_undo 27 = .ok (.getfield 37, 3) := by decide +kernel
theorem dX6_undo_30 : decode cX6_undo 30 = .ok (.iconst 1, 1) := by decide +kernel
theorem dX6_undo_31 : decode cX6_undo 31 = .ok (.isub, 1) := by decide +kernel
theorem dX6_undo_32 : decode cX6_undo 32 = .ok (.putfield 37, 3) := by decide +kernel
theorem dX6_undo_35 : decode cX6_undo 35 = .ok (.iconst 0, 1) := by decide +kernel
theorem dX6_undo_36 : decode cX6_undo 36 = .ok (.istore_n 1, 1) := by decide +kernel
theorem dX6_undo_37 : decode cX6_undo 37 = .ok (.iload_n 1, 1) := by decide +kernel
theorem dX6_undo_38 : decode cX6_undo 38 = .ok (.bipush 96, 2) := by decide +kernel
theorem dX6_undo_40 : decode cX6_undo 40 = .ok (.if_icmp .ge 29, 3) := by decide +kernel
theorem dX6_undo_43 : decode cX6_undo 43 = .ok (.aload_n 0, 1) := by decide +kernel
theorem dX6_undo_44 : decode cX6_undo 44 = .ok (.getfield 7, 3) := by decide +kernel
theorem dX6_undo_47 : decode cX6_undo 47 = .ok (.iload_n 1, 1) := by decide +kernel
theorem dX6_undo_48 : decode cX6_undo 48 = .ok (.aload_n 0, 1) := by decide +kernel
theorem dX6_undo_49 : decode cX6_undo 49 = .ok (.getfield 16, 3) := by decide +kernel
theorem dX6_undo_52 : decode cX6_undo 52 = .ok (.bipush 96, 2) := by decide +kernel
theorem dX6_undo_54 : decode cX6_undo 54 = .ok (.aload_n 0, 1) := by decide +kernel
theorem dX6_undo_55 : decode cX6_undo 55 = .ok (.getfield 37, 3) := by decide +kernel
theorem dX6_undo_58 : decode cX6_undo 58 = .ok (.imul, 1) := by decide +kernel
theorem dX6_undo_59 : decode cX6_undo 59 = .ok (.iload_n 1, 1) := by decide +kernel
theorem dX6_undo_60 : decode cX6_undo 60 = .ok (.iadd, 1) := by decide +kernel
theorem dX6_undo_61 : decode cX6_undo 61 = .ok (.iaload, 1) := by decide +kernel
theorem dX6_undo_62 : decode cX6_undo 62 = .ok (.iastore, 1) := by decide +kernel
theorem dX6_undo_63 : decode cX6_undo 63 = .ok (.iinc 1 1, 3) := by decide +kernel
theorem dX6_undo_66 : decode cX6_undo 66 = .ok (.goto (-29), 3) := by decide +kernel
theorem dX6_undo_69 : decode cX6_undo 69 = .ok (.aload_n 0, 1) := by decide +kernel
theorem dX6_undo_70 : decode cX6_undo 70 = .ok (.getfield 37, 3) := by decide +kernel
theorem dX6_undo_73 : decode cX6_undo 73 = .ok (.ireturn, 1) := by decide +kernel
theorem dX6_keep_0 : decode cX6_keep 0 = .ok (.aload_n 0, 1) := by decide +kernel
theorem dX6_keep_1 : decode cX6_keep 1 = .ok (.iconst 0, 1) := by decide +kernel
theorem dX6_keep_2 : decode cX6_keep 2 = .ok (.putfield 25, 3) := by decide +kernel
theorem dX6_keep_5 : decode cX6_keep 5 = .ok (.iconst 0, 1) := by decide +kernel
theorem dX6_keep_6 : decode cX6_keep 6 = .ok (.istore_n 1, 1) := by decide +kernel
theorem dX6_keep_7 : decode cX6_keep 7 = .ok (.iload_n 1, 1) := by decide +kernel
theorem dX6_keep_8 : decode cX6_keep 8 = .ok (.bipush 96, 2) := by decide +kernel
theorem dX6_keep_10 : decode cX6_keep 10 = .ok (.if_icmp .ge 21, 3) := by decide +kernel
theorem dX6_keep_13 : decode cX6_keep 13 = .ok (.aload_n 0, 1) := by decide +kernel
theorem dX6_keep_14 : decode cX6_keep 14 = .ok (.getfield 19, 3) := by decide +kernel
theorem dX6_keep_17 : decode cX6_keep 17 = .ok (.iload_n 1, 1) := by decide +kernel
theorem dX6_keep_18 : decode cX6_keep 18 = .ok (.aload_n 0, 1) := by decide +kernel
theorem dX6_keep_19 : decode cX6_keep 19 = .ok (.getfield 7, 3) := by decide +kernel
theorem dX6_keep_22 : decode cX6_keep 22 = .ok (.iload_n 1, 1) := by decide +kernel
theorem dX6_keep_23 : decode cX6_keep 23 = .ok (.iaload, 1) := by decide +kernel
theorem dX6_keep_24 : decode cX6_keep 24 = .ok (.iastore, 1) := by decide +kernel
theorem dX6_keep_25 : decode cX6_keep 25 = .ok (.iinc 1 1, 3) := by decide +kernel
theorem dX6_keep_28 : decode cX6_keep 28 = .ok (.goto (-21), 3) := by decide +kernel
theorem dX6_keep_31 : decode cX6_keep 31 = .ok (.aload_n 0, 1) := by decide +kernel
theorem dX6_keep_32 : decode cX6_keep 32 = .ok (.iconst 1, 1) := by decide +kernel
theorem dX6_keep_33 : decode cX6_keep 33 = .ok (.putfield 40, 3) := by decide +kernel
theorem dX6_keep_36 : decode cX6_keep 36 = .ok (.aload_n 0, 1) := by decide +kernel
theorem dX6_keep_37 : decode cX6_keep 37 = .ok (.getfield 7, 3) := by decide +kernel
theorem dX6_keep_40 : decode cX6_keep 40 = .ok (.bipush 41, 2) := by decide +kernel
theorem dX6_keep_42 : decode cX6_keep 42 = .ok (.iaload, 1) := by decide +kernel
theorem dX6_keep_43 : decode cX6_keep 43 = .ok (.ireturn, 1) := by decide +kernel
theorem dX6_goBack_0 : decode cX6_goBack 0 = .ok (.aload_n 0, 1) := by decide +kernel
theorem dX6_goBack_1 : decode cX6_goBack 1 = .ok (.aload_n 0, 1) := by decide +kernel
theorem dX6_goBack_2 : decode cX6_goBack 2 = .ok (.getfield 40, 3) := by decide +kernel
theorem dX6_goBack_5 : decode cX6_goBack 5 = .ok (.ifCond .eq 7, 3) := by decide +kernel
theorem dX6_goBack_8 : decode cX6_goBack 8 = .ok (.iconst 0, 1) := by decide +kernel
theorem dX6_goBack_9 : decode cX6_goBack 9 = .ok (.goto 4, 3) := by decide +kernel
theorem dX6_goBack_12 : decode cX6_goBack 12 = .ok (.iconst 1, 1) := by decide +kernel
theorem dX6_goBack_13 : decode cX6_goBack 13 = .ok (.putfield 25, 3) := by decide +kernel
theorem dX6_goBack_16 : decode cX6_goBack 16 = .ok (.aload_n 0, 1) := by decide +kernel
theorem dX6_goBack_17 : decode cX6_goBack 17 = .ok (.getfield 25, 3) := by decide +kernel
theorem dX6_goBack_20 : decode cX6_goBack 20 = .ok (.ifCond .le 5, 3) := by decide +kernel
theorem dX6_goBack_23 : decode cX6_goBack 23 = .ok (.iconst 0, 1) := by decide +kernel
theorem dX6_goBack_24 : decode cX6_goBack 24 = .ok (.ireturn, 1) := by decide +kernel
theorem dX6_goBack_25 : decode cX6_goBack 25 = .ok (.aload_n 0, 1) := by decide +kernel
theorem dX6_goBack_26 : decode cX6_goBack 26 = .ok (.invokevirtual 44, 3) := by decide +kernel
theorem dX6_goBack_29 : decode cX6_goBack 29 = .ok (.iconst 0, 1) := by decide +kernel
theorem dX6_goBack_30 : decode cX6_goBack 30 = .ok (.istore_n 1, 1) := by decide +kernel
theorem dX6_goBack_31 : decode cX6_goBack 31 = .ok (.iload_n 1, 1) := by decide +kernel
theorem dX6_goBack_32 : decode cX6_goBack 32 = .ok (.bipush 96, 2) := by decide +kernel
theorem dX6_goBack_34 : decode cX6_goBack 34 = .ok (.if_icmp .ge 21, 3) := by decide +kernel
theorem dX6_goBack_37 : decode cX6_goBack 37 = .ok (.aload_n 0, 1) := by decide +kernel
theorem dX6_goBack_38 : decode cX6_goBack 38 = .ok (.getfield 7, 3) := by decide +kernel
theorem dX6_goBack_41 : decode cX6_goBack 41 = .ok (.iload_n 1, 1) := by decide +kernel
theorem dX6_goBack_42 : decode cX6_goBack 42 = .ok (.aload_n 0, 1) := by decide +kernel
theorem dX6_goBack_43 : decode cX6_goBack 43 = .ok (.getfield 19, 3) := by decide +kernel
theorem dX6_goBack_46 : decode cX6_goBack 46 = .ok (.iload_n 1, 1) := by decide +kernel
theorem dX6_goBack_47 : decode cX6_goBack 47 = .ok (.iaload, 1) := by decide +kernel
theorem dX6_goBack_48 : decode cX6_goBack 48 = .ok (.iastore, 1) := by decide +kernel
theorem dX6_goBack_49 : decode cX6_goBack 49 = .ok (.iinc 1 1, 3) := by decide +kernel
theorem dX6_goBack_52 : decode cX6_goBack 52 = .ok (.goto (-21), 3) := by decide +kernel
theorem dX6_goBack_55 : decode cX6_goBack 55 = .ok (.aload_n 0, 1) := by decide +kernel
theorem dX6_goBack_56 : decode cX6_goBack 56 = .ok (.getfield 7, 3) := by decide +kernel
theorem dX6_goBack_59 : decode cX6_goBack 59 = .ok (.bipush 41, 2) := by decide +kernel
theorem dX6_goBack_61 : decode cX6_goBack 61 = .ok (.iaload, 1) := by decide +kernel
theorem dX6_goBack_62 : decode cX6_goBack 62 = .ok (.ireturn, 1) := by decide +kernel
theorem dX6_putAside_0 : decode cX6_putAside 0 = .ok (.iconst 0, 1) := by decide +kernel
theorem dX6_putAside_1 : decode cX6_putAside 1 = .ok (.istore_n 1, 1) := by decide +kernel
theorem dX6_putAside_2 : decode cX6_putAside 2 = .ok (.iload_n 1, 1) := by decide +kernel
theorem dX6_putAside_3 : decode cX6_putAside 3 = .ok (.bipush 96, 2) := by decide +kernel
theorem dX6_putAside_5 : decode cX6_putAside 5 = .ok (.if_icmp .ge 21, 3) := by decide +kernel
theorem dX6_putAside_8 : decode cX6_putAside 8 = .ok (.aload_n 0, 1) := by decide +kernel
theorem dX6_putAside_9 : decode cX6_putAside 9 = .ok (.getfield 13, 3) := by decide +kernel
theorem dX6_putAside_12 : decode cX6_putAside 12 = .ok (.iload_n 1, 1) := by decide +kernel
theorem dX6_putAside_13 : decode cX6_putAside 13 = .ok (.aload_n 0, 1) := by decide +kernel
theorem dX6_putAside_14 : decode cX6_putAside 14 = .ok (.getfield 7, 3) := by decide +kernel
theorem dX6_putAside_17 : decode cX6_putAside 17 = .ok (.iload_n 1, 1) := by decide +kernel
theorem dX6_putAside_18 : decode cX6_putAside 18 = .ok (.iaload, 1) := by decide +kernel
theorem dX6_putAside_19 : decode cX6_putAside 19 = .ok (.iastore, 1) := by decide +kernel
theorem dX6_putAside_20 : decode cX6_putAside 20 = .ok (.iinc 1 1, 3) := by decide +kernel
theorem dX6_putAside_23 : decode cX6_putAside 23 = .ok (.goto (-21), 3) := by decide +kernel
theorem dX6_putAside_26 : decode cX6_putAside 26 = .ok (.return_, 1) := by decide +kernel
theorem dX6_putBack_0 : decode cX6_putBack 0 = .ok (.iconst 0, 1) := by decide +kernel
theorem dX6_putBack_1 : decode cX6_putBack 1 = .ok (.istore_n 1, 1) := by decide +kernel
theorem dX6_putBack_2 : decode cX6_putBack 2 = .ok (.iload_n 1, 1) := by decide +kernel
theorem dX6_putBack_3 : decode cX6_putBack 3 = .ok (.bipush 96, 2) := by decide +kernel
theorem dX6_putBack_5 : decode cX6_putBack 5 = .ok (.if_icmp .ge 21, 3) := by decide +kernel
theorem dX6_putBack_8 : decode cX6_putBack 8 = .ok (.aload_n 0, 1) := by decide +kernel
theorem dX6_putBack_9 : decode cX6_putBack 9 = .ok (.getfield 7, 3) := by decide +kernel
theorem dX6_putBack_12 : decode cX6_putBack 12 = .ok (.iload_n 1, 1) := by decide +kernel
theorem dX6_putBack_13 : decode cX6_putBack 13 = .ok (.aload_n 0, 1) := by decide +kernel
theorem dX6_putBack_14 : decode cX6_putBack 14 = .ok (.getfield 13, 3) := by decide +kernel
theorem dX6_putBack_17 : decode cX6_putBack 17 = .ok (.iload_n 1, 1) := by decide +kernel
theorem dX6_putBack_18 : decode cX6_putBack 18 = .ok (.iaload, 1) := by decide +kernel
theorem dX6_putBack_19 : decode cX6_putBack 19 = .ok (.iastore, 1) := by decide +kernel
theorem dX6_putBack_20 : decode cX6_putBack 20 = .ok (.iinc 1 1, 3) := by decide +kernel
theorem dX6_putBack_23 : decode cX6_putBack 23 = .ok (.goto (-21), 3) := by decide +kernel
theorem dX6_putBack_26 : decode cX6_putBack 26 = .ok (.return_, 1) := by decide +kernel
theorem dX6_room_0 : decode cX6_room 0 = .ok (.aload_n 0, 1) := by decide +kernel
theorem dX6_room_1 : decode cX6_room 1 = .ok (.getfield 7, 3) := by decide +kernel
theorem dX6_room_4 : decode cX6_room 4 = .ok (.bipush 36, 2) := by decide +kernel
theorem dX6_room_6 : decode cX6_room 6 = .ok (.iconst 2, 1) := by decide +kernel
theorem dX6_room_7 : decode cX6_room 7 = .ok (.iload_n 1, 1) := by decide +kernel
theorem dX6_room_8 : decode cX6_room 8 = .ok (.imul, 1) := by decide +kernel
theorem dX6_room_9 : decode cX6_room 9 = .ok (.iadd, 1) := by decide +kernel
theorem dX6_room_10 : decode cX6_room 10 = .ok (.iaload, 1) := by decide +kernel
theorem dX6_room_11 : decode cX6_room 11 = .ok (.aload_n 0, 1) := by decide +kernel
theorem dX6_room_12 : decode cX6_room 12 = .ok (.getfield 7, 3) := by decide +kernel
theorem dX6_room_15 : decode cX6_room 15 = .ok (.bipush 36, 2) := by decide +kernel
theorem dX6_room_17 : decode cX6_room 17 = .ok (.iconst 2, 1) := by decide +kernel
theorem dX6_room_18 : decode cX6_room 18 = .ok (.iload_n 1, 1) := by decide +kernel
theorem dX6_room_19 : decode cX6_room 19 = .ok (.imul, 1) := by decide +kernel
theorem dX6_room_20 : decode cX6_room 20 = .ok (.iadd, 1) := by decide +kernel
theorem dX6_room_21 : decode cX6_room 21 = .ok (.iconst 1, 1) := by decide +kernel
theorem dX6_room_22 : decode cX6_room 22 = .ok (.iadd, 1) := by decide +kernel
theorem dX6_room_23 : decode cX6_room 23 = .ok (.iaload, 1) := by decide +kernel
theorem dX6_room_24 : decode cX6_room 24 = .ok (.iadd, 1) := by decide +kernel
theorem dX6_room_25 : decode cX6_room 25 = .ok (.ireturn, 1) := by decide +kernel
theorem dX6_lesserRoom_0 : decode cX6_lesserRoom 0 = .ok (.aload_n 0, 1) := by decide +kernel
theorem dX6_lesserRoom_1 : decode cX6_lesserRoom 1 = .ok (.iconst 0, 1) := by decide +kernel
theorem dX6_lesserRoom_2 : decode cX6_lesserRoom 2 = .ok (.invokevirtual 47, 3) := by decide +kernel
theorem dX6_lesserRoom_5 : decode cX6_lesserRoom 5 = .ok (.aload_n 0, 1) := by decide +kernel
theorem dX6_lesserRoom_6 : decode cX6_lesserRoom 6 = .ok (.iconst 1, 1) := by decide +kernel
theorem dX6_lesserRoom_7 : decode cX6_lesserRoom 7 = .ok (.invokevirtual 47, 3) := by decide +kernel
theorem dX6_lesserRoom_10 : decode cX6_lesserRoom 10 = .ok (.if_icmp .ge 11, 3) := by decide +kernel
theorem dX6_lesserRoom_13 : decode cX6_lesserRoom 13 = .ok (.aload_n 0, 1) := by decide +kernel
theorem dX6_lesserRoom_14 : decode cX6_lesserRoom 14 = .ok (.iconst 0, 1) := by decide +kernel
theorem dX6_lesserRoom_15 : decode cX6_lesserRoom 15 = .ok (.invokevirtual 47, 3) := by decide +kernel
theorem dX6_lesserRoom_18 : decode cX6_lesserRoom 18 = .ok (.goto 8, 3) := by decide +kernel
theorem dX6_lesserRoom_21 : decode cX6_lesserRoom 21 = .ok (.aload_n 0, 1) := by decide +kernel
theorem dX6_lesserRoom_22 : decode cX6_lesserRoom 22 = .ok (.iconst 1, 1) := by decide +kernel
theorem dX6_lesserRoom_23 : decode cX6_lesserRoom 23 = .ok (.invokevirtual 47, 3) := by decide +kernel
theorem dX6_lesserRoom_26 : decode cX6_lesserRoom 26 = .ok (.ireturn, 1) := by decide +kernel
theorem dX6_blocks_0 : decode cX6_blocks 0 = .ok (.aload_n 0, 1) := by decide +kernel
theorem dX6_blocks_1 : decode cX6_blocks 1 = .ok (.getfield 7, 3) := by decide +kernel
theorem dX6_blocks_4 : decode cX6_blocks 4 = .ok (.bipush 40, 2) := by decide +kernel
theorem dX6_blocks_6 : decode cX6_blocks 6 = .ok (.iaload, 1) := by decide +kernel
theorem dX6_blocks_7 : decode cX6_blocks 7 = .ok (.iconst (-1), 1) := by decide +kernel
theorem dX6_blocks_8 : decode cX6_blocks 8 = .ok (.if_icmp .ne 7, 3) := by decide +kernel
theorem dX6_blocks_11 : decode cX6_blocks 11 = .ok (.iconst 0, 1) := by decide +kernel
theorem dX6_blocks_12 : decode cX6_blocks 12 = .ok (.goto 32, 3) := by decide +kernel
theorem dX6_blocks_15 : decode cX6_blocks 15 = .ok (.aload_n 0, 1) := by decide +kernel
theorem dX6_blocks_16 : decode cX6_blocks 16 = .ok (.getfield 7, 3) := by decide +kernel
theorem dX6_blocks_19 : decode cX6_blocks 19 = .ok (.bipush 40, 2) := by decide +kernel
theorem dX6_blocks_21 : decode cX6_blocks 21 = .ok (.iaload, 1) := by decide +kernel
theorem dX6_blocks_22 : decode cX6_blocks 22 = .ok (.iconst 2, 1) := by decide +kernel
theorem dX6_blocks_23 : decode cX6_blocks 23 = .ok (.if_icmp .ne 10, 3) := by decide +kernel
theorem dX6_blocks_26 : decode cX6_blocks 26 = .ok (.aload_n 0, 1) := by decide +kernel
theorem dX6_blocks_27 : decode cX6_blocks 27 = .ok (.invokevirtual 51, 3) := by decide +kernel
theorem dX6_blocks_30 : decode cX6_blocks 30 = .ok (.goto 14, 3) := by decide +kernel
theorem dX6_blocks_33 : decode cX6_blocks 33 = .ok (.aload_n 0, 1) := by decide +kernel
theorem dX6_blocks_34 : decode cX6_blocks 34 = .ok (.iconst 0, 1) := by decide +kernel
theorem dX6_blocks_35 : decode cX6_blocks 35 = .ok (.invokevirtual 47, 3) := by decide +kernel
theorem dX6_blocks_38 : decode cX6_blocks 38 = .ok (.aload_n 0, 1) := by decide +kernel
theorem dX6_blocks_39 : decode cX6_blocks 39 = .ok (.iconst 1, 1) := by decide +kernel
theorem dX6_blocks_40 : decode cX6_blocks 40 = .ok (.invokevirtual 47, 3) := by decide +kernel
theorem dX6_blocks_43 : decode cX6_blocks 43 = .ok (.iadd, 1) := by decide +kernel
theorem dX6_blocks_44 : decode cX6_blocks 44 = .ok (.ireturn, 1) := by decide +kernel
theorem dX6_wideBlocks_0 : decode cX6_wideBlocks 0 = .ok (.aload_n 0, 1) := by decide +kernel
theorem dX6_wideBlocks_1 : decode cX6_wideBlocks 1 = .ok (.getfield 7, 3) := by decide +kernel
theorem dX6_wideBlocks_4 : decode cX6_wideBlocks 4 = .ok (.bipush 40, 2) := by decide +kernel
theorem dX6_wideBlocks_6 : decode cX6_wideBlocks 6 = .ok (.iaload, 1) := by decide +kernel
theorem dX6_wideBlocks_7 : decode cX6_wideBlocks 7 = .ok (.ifCond .ne 12, 3) := by decide +kernel
theorem dX6_wideBlocks_10 : decode cX6_wideBlocks 10 = .ok (.iconst 2, 1) := by decide +kernel
theorem dX6_wideBlocks_11 : decode cX6_wideBlocks 11 = .ok (.aload_n 0, 1) := by decide +kernel
theorem dX6_wideBlocks_12 : decode cX6_wideBlocks 12 = .ok (.invokevirtual 51, 3) := by decide +kernel
theorem dX6_wideBlocks_15 : decode cX6_wideBlocks 15 = .ok (.imul, 1) := by decide +kernel
theorem dX6_wideBlocks_16 : decode cX6_wideBlocks 16 = .ok (.goto 4, 3) := by decide +kernel
theorem dX6_wideBlocks_19 : decode cX6_wideBlocks 19 = .ok (.iconst 0, 1) := by decide +kernel
theorem dX6_wideBlocks_20 : decode cX6_wideBlocks 20 = .ok (.ireturn, 1) := by decide +kernel
theorem dX6_isBlock_0 : decode cX6_isBlock 0 = .ok (.iload_n 1, 1) := by decide +kernel
theorem dX6_isBlock_1 : decode cX6_isBlock 1 = .ok (.iconst 0, 1) := by decide +kernel
theorem dX6_isBlock_2 : decode cX6_isBlock 2 = .ok (.aload_n 0, 1) := by decide +kernel
theorem dX6_isBlock_3 : decode cX6_isBlock 3 = .ok (.invokevirtual 55, 3) := by decide +kernel
theorem dX6_isBlock_6 : decode cX6_isBlock 6 = .ok (.iconst 1, 1) := by decide +kernel
theorem dX6_isBlock_7 : decode cX6_isBlock 7 = .ok (.isub, 1) := by decide +kernel
theorem dX6_isBlock_8 : decode cX6_isBlock 8 = .ok (.invokestatic 29, 3) := by decide +kernel
theorem dX6_isBlock_11 : decode cX6_isBlock 11 = .ok (.ireturn, 1) := by decide +kernel
theorem dX6_channelOf_0 : decode cX6_channelOf 0 = .ok (.aload_n 0, 1) := by decide +kernel
theorem dX6_channelOf_1 : decode cX6_channelOf 1 = .ok (.getfield 7, 3) := by decide +kernel
theorem dX6_channelOf_4 : decode cX6_channelOf 4 = .ok (.bipush 40, 2) := by decide +kernel
theorem dX6_channelOf_6 : decode cX6_channelOf 6 = .ok (.iaload, 1) := by decide +kernel
theorem dX6_channelOf_7 : decode cX6_channelOf 7 = .ok (.iconst 2, 1) := by decide +kernel
theorem dX6_channelOf_8 : decode cX6_channelOf 8 = .ok (.if_icmp .ne 5, 3) := by decide +kernel
theorem dX6_channelOf_11 : decode cX6_channelOf 11 = .ok (.iconst 0, 1) := by decide +kernel
theorem dX6_channelOf_12 : decode cX6_channelOf 12 = .ok (.ireturn, 1) := by decide +kernel
theorem dX6_channelOf_13 : decode cX6_channelOf 13 = .ok (.aload_n 0, 1) := by decide +kernel
theorem dX6_channelOf_14 : decode cX6_channelOf 14 = .ok (.getfield 7, 3) := by decide +kernel
theorem dX6_channelOf_17 : decode cX6_channelOf 17 = .ok (.bipush 40, 2) := by decide +kernel
theorem dX6_channelOf_19 : decode cX6_channelOf 19 = .ok (.iaload, 1) := by decide +kernel
theorem dX6_channelOf_20 : decode cX6_channelOf 20 = .ok (.iconst 1, 1) := by decide +kernel
theorem dX6_channelOf_21 : decode cX6_channelOf 21 = .ok (.if_icmp .ne 18, 3) := by decide +kernel
theorem dX6_channelOf_24 : decode cX6_channelOf 24 = .ok (.iload_n 1, 1) := by decide +kernel
theorem dX6_channelOf_25 : decode cX6_channelOf 25 = .ok (.aload_n 0, 1) := by decide +kernel
theorem dX6_channelOf_26 : decode cX6_channelOf 26 = .ok (.iconst 0, 1) := by decide +kernel
theorem dX6_channelOf_27 : decode cX6_channelOf 27 = .ok (.invokevirtual 47, 3) := by decide +kernel
theorem dX6_channelOf_30 : decode cX6_channelOf 30 = .ok (.if_icmp .ge 7, 3) := by decide +kernel
theorem dX6_channelOf_33 : decode cX6_channelOf 33 = .ok (.iconst 0, 1) := by decide +kernel
theorem dX6_channelOf_34 : decode cX6_channelOf 34 = .ok (.goto 4, 3) := by decide +kernel
theorem dX6_channelOf_37 : decode cX6_channelOf 37 = .ok (.iconst 1, 1) := by decide +kernel
theorem dX6_channelOf_38 : decode cX6_channelOf 38 = .ok (.ireturn, 1) := by decide +kernel
theorem dX6_channelOf_39 : decode cX6_channelOf 39 = .ok (.iload_n 1, 1) := by decide +kernel
theorem dX6_channelOf_40 : decode cX6_channelOf 40 = .ok (.aload_n 0, 1) := by decide +kernel
theorem dX6_channelOf_41 : decode cX6_channelOf 41 = .ok (.invokevirtual 58, 3) := by decide +kernel
theorem dX6_channelOf_44 : decode cX6_channelOf 44 = .ok (.if_icmp .ge 9, 3) := by decide +kernel
theorem dX6_channelOf_47 : decode cX6_channelOf 47 = .ok (.iload_n 1, 1) := by decide +kernel
theorem dX6_channelOf_48 : decode cX6_channelOf 48 = .ok (.iconst 2, 1) := by decide +kernel
theorem dX6_channelOf_49 : decode cX6_channelOf 49 = .ok (.irem, 1) := by decide +kernel
theorem dX6_channelOf_50 : decode cX6_channelOf 50 = .ok (.goto 21, 3) := by decide +kernel
theorem dX6_channelOf_53 : decode cX6_channelOf 53 = .ok (.aload_n 0, 1) := by decide +kernel
theorem dX6_channelOf_54 : decode cX6_channelOf 54 = .ok (.iconst 0, 1) := by decide +kernel
theorem dX6_channelOf_55 : decode cX6_channelOf 55 = .ok (.invokevirtual 47, 3) := by decide +kernel
theorem dX6_channelOf_58 : decode cX6_channelOf 58 = .ok (.aload_n 0, 1) := by decide +kernel
theorem dX6_channelOf_59 : decode cX6_channelOf 59 = .ok (.iconst 1, 1) := by decide +kernel
theorem dX6_channelOf_60 : decode cX6_channelOf 60 = .ok (.invokevirtual 47, 3) := by decide +kernel
theorem dX6_channelOf_63 : decode cX6_channelOf 63 = .ok (.if_icmp .le 7, 3) := by decide +kernel
theorem dX6_channelOf_66 : decode cX6_channelOf 66 = .ok (.iconst 0, 1) := by decide +kernel
theorem dX6_channelOf_67 : decode cX6_channelOf 67 = .ok (.goto 4, 3) := by decide +kernel
theorem dX6_channelOf_70 : decode cX6_channelOf 70 = .ok (.iconst 1, 1) := by decide +kernel
theorem dX6_channelOf_71 : decode cX6_channelOf 71 = .ok (.ireturn, 1) := by decide +kernel
theorem dX6_inChannel_0 : decode cX6_inChannel 0 = .ok (.aload_n 0, 1) := by decide +kernel
theorem dX6_inChannel_1 : decode cX6_inChannel 1 = .ok (.getfield 7, 3) := by decide +kernel
theorem dX6_inChannel_4 : decode cX6_inChannel 4 = .ok (.bipush 40, 2) := by decide +kernel
theorem dX6_inChannel_6 : decode cX6_inChannel 6 = .ok (.iaload, 1) := by decide +kernel
theorem dX6_inChannel_7 : decode cX6_inChannel 7 = .ok (.iconst 2, 1) := by decide +kernel
theorem dX6_inChannel_8 : decode cX6_inChannel 8 = .ok (.if_icmp .ne 5, 3) := by decide +kernel
theorem dX6_inChannel_11 : decode cX6_inChannel 11 = .ok (.iload_n 1, 1) := by decide +kernel
theorem dX6_inChannel_12 : decode cX6_inChannel 12 = .ok (.ireturn, 1) := by decide +kernel
theorem dX6_inChannel_13 : decode cX6_inChannel 13 = .ok (.aload_n 0, 1) := by decide +kernel
theorem dX6_inChannel_14 : decode cX6_inChannel 14 = .ok (.getfield 7, 3) := by decide +kernel
theorem dX6_inChannel_17 : decode cX6_inChannel 17 = .ok (.bipush 40, 2) := by decide +kernel
theorem dX6_inChannel_19 : decode cX6_inChannel 19 = .ok (.iaload, 1) := by decide +kernel
theorem dX6_inChannel_20 : decode cX6_inChannel 20 = .ok (.iconst 1, 1) := by decide +kernel
theorem dX6_inChannel_21 : decode cX6_inChannel 21 = .ok (.if_icmp .ne 24, 3) := by decide +kernel
theorem dX6_inChannel_24 : decode cX6_inChannel 24 = .ok (.iload_n 1, 1) := by decide +kernel
theorem dX6_inChannel_25 : decode cX6_inChannel 25 = .ok (.aload_n 0, 1) := by decide +kernel
theorem dX6_inChannel_26 : decode cX6_inChannel 26 = .ok (.iconst 0, 1) := by decide +kernel
theorem dX6_inChannel_27 : decode cX6_inChannel 27 = .ok (.invokevirtual 47, 3) := by decide +kernel
theorem dX6_inChannel_30 : decode cX6_inChannel 30 = .ok (.if_icmp .ge 7, 3) := by decide +kernel
theorem dX6_inChannel_33 : decode cX6_inChannel 33 = .ok (.iload_n 1, 1) := by decide +kernel
theorem dX6_inChannel_34 : decode cX6_inChannel 34 = .ok (.goto 10, 3) := by decide +kernel
theorem dX6_inChannel_37 : decode cX6_inChannel 37 = .ok (.iload_n 1, 1) := by decide +kernel
theorem dX6_inChannel_38 : decode cX6_inChannel 38 = .ok (.aload_n 0, 1) := by decide +kernel
theorem dX6_inChannel_39 : decode cX6_inChannel 39 = .ok (.iconst 0, 1) := by decide +kernel
theorem dX6_inChannel_40 : decode cX6_inChannel 40 = .ok (.invokevirtual 47, 3) := by decide +kernel
theorem dX6_inChannel_43 : decode cX6_inChannel 43 = .ok (.isub, 1) := by decide +kernel
theorem dX6_inChannel_44 : decode cX6_inChannel 44 = .ok (.ireturn, 1) := by decide +kernel
theorem dX6_inChannel_45 : decode cX6_inChannel 45 = .ok (.iload_n 1, 1) := by decide +kernel
theorem dX6_inChannel_46 : decode cX6_inChannel 46 = .ok (.aload_n 0, 1) := by decide +kernel
theorem dX6_inChannel_47 : decode cX6_inChannel 47 = .ok (.invokevirtual 58, 3) := by decide +kernel
theorem dX6_inChannel_50 : decode cX6_inChannel 50 = .ok (.if_icmp .ge 9, 3) := by decide +kernel
theorem dX6_inChannel_53 : decode cX6_inChannel 53 = .ok (.iload_n 1, 1) := by decide +kernel
theorem dX6_inChannel_54 : decode cX6_inChannel 54 = .ok (.iconst 2, 1) := by decide +kernel
theorem dX6_inChannel_55 : decode cX6_inChannel 55 = .ok (.idiv, 1) := by decide +kernel
theorem dX6_inChannel_56 : decode cX6_inChannel 56 = .ok (.goto 9, 3) := by decide +kernel
theorem dX6_inChannel_59 : decode cX6_inChannel 59 = .ok (.iload_n 1, 1) := by decide +kernel
theorem dX6_inChannel_60 : decode cX6_inChannel 60 = .ok (.aload_n 0, 1) := by decide +kernel
theorem dX6_inChannel_61 : decode cX6_inChannel 61 = .ok (.invokevirtual 51, 3) := by decide +kernel
theorem dX6_inChannel_64 : decode cX6_inChannel 64 = .ok (.isub, 1) := by decide +kernel
theorem dX6_inChannel_65 : decode cX6_inChannel 65 = .ok (.ireturn, 1) := by decide +kernel
theorem dX6_slotIn_0 : decode cX6_slotIn 0 = .ok (.iload_n 2, 1) := by decide +kernel
theorem dX6_slotIn_1 : decode cX6_slotIn 1 = .ok (.aload_n 0, 1) := by decide +kernel
theorem dX6_slotIn_2 : decode cX6_slotIn 2 = .ok (.getfield 7, 3) := by decide +kernel
theorem dX6_slotIn_5 : decode cX6_slotIn 5 = .ok (.bipush 36, 2) := by decide +kernel
theorem dX6_slotIn_7 : decode cX6_slotIn 7 = .ok (.iconst 2, 1) := by decide +kernel
theorem dX6_slotIn_8 : decode cX6_slotIn 8 = .ok (.iload_n 1, 1) := by decide +kernel
theorem dX6_slotIn_9 : decode cX6_slotIn 9 = .ok (.imul, 1) := by decide +kernel
theorem dX6_slotIn_10 : decode cX6_slotIn 10 = .ok (.iadd, 1) := by decide +kernel
theorem dX6_slotIn_11 : decode cX6_slotIn 11 = .ok (.iaload, 1) := by decide +kernel
theorem dX6_slotIn_12 : decode cX6_slotIn 12 = .ok (.if_icmp .ge 9, 3) := by decide +kernel
theorem dX6_slotIn_15 : decode cX6_slotIn 15 = .ok (.iconst 2, 1) := by decide +kernel
theorem dX6_slotIn_16 : decode cX6_slotIn 16 = .ok (.iload_n 1, 1) := by decide +kernel
theorem dX6_slotIn_17 : decode cX6_slotIn 17 = .ok (.imul, 1) := by decide +kernel
theorem dX6_slotIn_18 : decode cX6_slotIn 18 = .ok (.goto 8, 3) := by decide +kernel
theorem dX6_slotIn_21 : decode cX6_slotIn 21 = .ok (.iconst 2, 1) := by decide +kernel
theorem dX6_slotIn_22 : decode cX6_slotIn 22 = .ok (.iload_n 1, 1) := by decide +kernel
theorem dX6_slotIn_23 : decode cX6_slotIn 23 = .ok (.imul, 1) := by decide +kernel
theorem dX6_slotIn_24 : decode cX6_slotIn 24 = .ok (.iconst 1, 1) := by decide +kernel
theorem dX6_slotIn_25 : decode cX6_slotIn 25 = .ok (.iadd, 1) := by decide +kernel
theorem dX6_slotIn_26 : decode cX6_slotIn 26 = .ok (.ireturn, 1) := by decide +kernel
theorem dX6_numberIn_0 : decode cX6_numberIn 0 = .ok (.iload_n 2, 1) := by decide +kernel
theorem dX6_numberIn_1 : decode cX6_numberIn 1 = .ok (.aload_n 0, 1) := by decide +kernel
theorem dX6_numberIn_2 : decode cX6_numberIn 2 = .ok (.getfield 7, 3) := by decide +kernel
theorem dX6_numberIn_5 : decode cX6_numberIn 5 = .ok (.bipush 36, 2) := by decide +kernel
theorem dX6_numberIn_7 : decode cX6_numberIn 7 = .ok (.iconst 2, 1) := by decide +kernel
theorem dX6_numberIn_8 : decode cX6_numberIn 8 = .ok (.iload_n 1, 1) := by decide +kernel
theorem dX6_numberIn_9 : decode cX6_numberIn 9 = .ok (.imul, 1) := by decide +kernel
theorem dX6_numberIn_10 : decode cX6_numberIn 10 = .ok (.iadd, 1) := by decide +kernel
theorem dX6_numberIn_11 : decode cX6_numberIn 11 = .ok (.iaload, 1) := by decide +kernel
theorem dX6_numberIn_12 : decode cX6_numberIn 12 = .ok (.if_icmp .ge 7, 3) := by decide +kernel
theorem dX6_numberIn_15 : decode cX6_numberIn 15 = .ok (.iload_n 2, 1) := by decide +kernel
theorem dX6_numberIn_16 : decode cX6_numberIn 16 = .ok (.goto 16, 3) := by decide +kernel
theorem dX6_numberIn_19 : decode cX6_numberIn 19 = .ok (.iload_n 2, 1) := by decide +kernel
theorem dX6_numberIn_20 : decode cX6_numberIn 20 = .ok (.aload_n 0, 1) := by decide +kernel
theorem dX6_numberIn_21 : decode cX6_numberIn 21 = .ok (.getfield 7, 3) := by decide +kernel
theorem dX6_numberIn_24 : decode cX6_numberIn 24 = .ok (.bipush 36, 2) := by decide +kernel
theorem dX6_numberIn_26 : decode cX6_numberIn 26 = .ok (.iconst 2, 1) := by decide +kernel
theorem dX6_numberIn_27 : decode cX6_numberIn 27 = .ok (.iload_n 1, 1) := by decide +kernel
theorem dX6_numberIn_28 : decode cX6_numberIn 28 = .ok (.imul, 1) := by decide +kernel
theorem dX6_numberIn_29 : decode cX6_numberIn 29 = .ok (.iadd, 1) := by decide +kernel
theorem dX6_numberIn_30 : decode cX6_numberIn 30 = .ok (.iaload, 1) := by decide +kernel
theorem dX6_numberIn_31 : decode cX6_numberIn 31 = .ok (.isub, 1) := by decide +kernel
theorem dX6_numberIn_32 : decode cX6_numberIn 32 = .ok (.ireturn, 1) := by decide +kernel
theorem dX6_slotOf_0 : decode cX6_slotOf 0 = .ok (.aload_n 0, 1) := by decide +kernel
theorem dX6_slotOf_1 : decode cX6_slotOf 1 = .ok (.aload_n 0, 1) := by decide +kernel
theorem dX6_slotOf_2 : decode cX6_slotOf 2 = .ok (.iload_n 1, 1) := by decide +kernel
theorem dX6_slotOf_3 : decode cX6_slotOf 3 = .ok (.invokevirtual 61, 3) := by decide +kernel
theorem dX6_slotOf_6 : decode cX6_slotOf 6 = .ok (.aload_n 0, 1) := by decide +kernel
theorem dX6_slotOf_7 : decode cX6_slotOf 7 = .ok (.iload_n 1, 1) := by decide +kernel
theorem dX6_slotOf_8 : decode cX6_slotOf 8 = .ok (.invokevirtual 64, 3) := by decide +kernel
theorem dX6_slotOf_11 : decode cX6_slotOf 11 = .ok (.invokevirtual 67, 3) := by decide +kernel
theorem dX6_slotOf_14 : decode cX6_slotOf 14 = .ok (.ireturn, 1) := by decide +kernel
theorem dX6_numberOf_0 : decode cX6_numberOf 0 = .ok (.aload_n 0, 1) := by decide +kernel
theorem dX6_numberOf_1 : decode cX6_numberOf 1 = .ok (.aload_n 0, 1) := by decide +kernel
theorem dX6_numberOf_2 : decode cX6_numberOf 2 = .ok (.iload_n 1, 1) := by decide +kernel
theorem dX6_numberOf_3 : decode cX6_numberOf 3 = .ok (.invokevirtual 61, 3) := by decide +kernel
theorem dX6_numberOf_6 : decode cX6_numberOf 6 = .ok (.aload_n 0, 1) := by decide +kernel
theorem dX6_numberOf_7 : decode cX6_numberOf 7 = .ok (.iload_n 1, 1) := by decide +kernel
theorem dX6_numberOf_8 : decode cX6_numberOf 8 = .ok (.invokevirtual 64, 3) := by decide +kernel
theorem dX6_numberOf_11 : decode cX6_numberOf 11 = .ok (.invokevirtual 70, 3) := by decide +kernel
theorem dX6_numberOf_14 : decode cX6_numberOf 14 = .ok (.ireturn, 1) := by decide +kernel
theorem dX6_secondSlot_0 : decode cX6_secondSlot 0 = .ok (.aload_n 0, 1) := by decide +kernel
theorem dX6_secondSlot_1 : decode cX6_secondSlot 1 = .ok (.getfield 7, 3) := by decide +kernel
theorem dX6_secondSlot_4 : decode cX6_secondSlot 4 = .ok (.bipush 40, 2) := by decide +kernel
theorem dX6_secondSlot_6 : decode cX6_secondSlot 6 = .ok (.iaload, 1) := by decide +kernel
theorem dX6_secondSlot_7 : decode cX6_secondSlot 7 = .ok (.iconst 2, 1) := by decide +kernel
theorem dX6_secondSlot_8 : decode cX6_secondSlot 8 = .ok (.if_icmp .ne 12, 3) := by decide +kernel
theorem dX6_secondSlot_11 : decode cX6_secondSlot 11 = .ok (.aload_n 0, 1) := by decide +kernel
theorem dX6_secondSlot_12 : decode cX6_secondSlot 12 = .ok (.iconst 1, 1) := by decide +kernel
theorem dX6_secondSlot_13 : decode cX6_secondSlot 13 = .ok (.iload_n 1, 1) := by decide +kernel
theorem dX6_secondSlot_14 : decode cX6_secondSlot 14 = .ok (.invokevirtual 67, 3) := by decide +kernel
theorem dX6_secondSlot_17 : decode cX6_secondSlot 17 = .ok (.goto 4, 3) := by decide +kernel
theorem dX6_secondSlot_20 : decode cX6_secondSlot 20 = .ok (.iconst (-1), 1) := by decide +kernel
theorem dX6_secondSlot_21 : decode cX6_secondSlot 21 = .ok (.ireturn, 1) := by decide +kernel
theorem dX6_secondNumber_0 : decode cX6_secondNumber 0 = .ok (.aload_n 0, 1) := by decide +kernel
theorem dX6_secondNumber_1 : decode cX6_secondNumber 1 = .ok (.getfield 7, 3) := by decide +kernel
theorem dX6_secondNumber_4 : decode cX6_secondNumber 4 = .ok (.bipush 40, 2) := by decide +kernel
theorem dX6_secondNumber_6 : decode cX6_secondNumber 6 = .ok (.iaload, 1) := by decide +kernel
theorem dX6_secondNumber_7 : decode cX6_secondNumber 7 = .ok (.iconst 2, 1) := by decide +kernel
theorem dX6_secondNumber_8 : decode cX6_secondNumber 8 = .ok (.if_icmp .ne 12, 3) := by decide +kernel
theorem dX6_secondNumber_11 : decode cX6_secondNumber 11 = .ok (.aload_n 0, 1) := by decide +kernel
theorem dX6_secondNumber_12 : decode cX6_secondNumber 12 = .ok (.iconst 1, 1) := by decide +kernel
theorem dX6_secondNumber_13 : decode cX6_secondNumber 13 = .ok (.iload_n 1, 1) := by decide +kernel
theorem dX6_secondNumber_14 : decode cX6_secondNumber 14 = .ok (.invokevirtual 70, 3) := by decide +kernel
theorem dX6_secondNumber_17 : decode cX6_secondNumber 17 = .ok (.goto 4, 3) := by decide +kernel
theorem dX6_secondNumber_20 : decode cX6_secondNumber 20 = .ok (.iconst (-1), 1) := by decide +kernel
theorem dX6_secondNumber_21 : decode cX6_secondNumber 21 = .ok (.ireturn, 1) := by decide +kernel
theorem dX6_isLeftFor_0 : decode cX6_isLeftFor 0 = .ok (.aload_n 0, 1) := by decide +kernel
theorem dX6_isLeftFor_1 : decode cX6_isLeftFor 1 = .ok (.aload_n 0, 1) := by decide +kernel
theorem dX6_isLeftFor_2 : decode cX6_isLeftFor 2 = .ok (.iload_n 1, 1) := by decide +kernel
theorem dX6_isLeftFor_3 : decode cX6_isLeftFor 3 = .ok (.invokevirtual 73, 3) := by decide +kernel
theorem dX6_isLeftFor_6 : decode cX6_isLeftFor 6 = .ok (.invokevirtual 76, 3) := by decide +kernel
theorem dX6_isLeftFor_9 : decode cX6_isLeftFor 9 = .ok (.ifCond .ne 26, 3) := by decide +kernel
theorem dX6_isLeftFor_12 : decode cX6_isLeftFor 12 = .ok (.aload_n 0, 1) := by decide +kernel
theorem dX6_isLeftFor_13 : decode cX6_isLeftFor 13 = .ok (.getfield 7, 3) := by decide +kernel
theorem dX6_isLeftFor_16 : decode cX6_isLeftFor 16 = .ok (.bipush 40, 2) := by decide +kernel
theorem dX6_isLeftFor_18 : decode cX6_isLeftFor 18 = .ok (.iaload, 1) := by decide +kernel
theorem dX6_isLeftFor_19 : decode cX6_isLeftFor 19 = .ok (.iconst 2, 1) := by decide +kernel
theorem dX6_isLeftFor_20 : decode cX6_isLeftFor 20 = .ok (.if_icmp .ne 19, 3) := by decide +kernel
theorem dX6_isLeftFor_23 : decode cX6_isLeftFor 23 = .ok (.aload_n 0, 1) := by decide +kernel
theorem dX6_isLeftFor_24 : decode cX6_isLeftFor 24 = .ok (.aload_n 0, 1) := by decide +kernel
theorem dX6_isLeftFor_25 : decode cX6_isLeftFor 25 = .ok (.iload_n 1, 1) := by decide +kernel
theorem dX6_isLeftFor_26 : decode cX6_isLeftFor 26 = .ok (.invokevirtual 80, 3) := by decide +kernel
theorem dX6_isLeftFor_29 : decode cX6_isLeftFor 29 = .ok (.invokevirtual 76, 3) := by decide +kernel
theorem dX6_isLeftFor_32 : decode cX6_isLeftFor 32 = .ok (.ifCond .eq 7, 3) := by decide +kernel
theorem dX6_isLeftFor_35 : decode cX6_isLeftFor 35 = .ok (.iconst 1, 1) := by decide +kernel
theorem dX6_isLeftFor_36 : decode cX6_isLeftFor 36 = .ok (.goto 4, 3) := by decide +kernel
theorem dX6_isLeftFor_39 : decode cX6_isLeftFor 39 = .ok (.iconst 0, 1) := by decide +kernel
theorem dX6_isLeftFor_40 : decode cX6_isLeftFor 40 = .ok (.ireturn, 1) := by decide +kernel
theorem dX6_readSlot_0 : decode cX6_readSlot 0 = .ok (.aload_n 0, 1) := by decide +kernel
theorem dX6_readSlot_1 : decode cX6_readSlot 1 = .ok (.aload_n 0, 1) := by decide +kernel
theorem dX6_readSlot_2 : decode cX6_readSlot 2 = .ok (.iload_n 1, 1) := by decide +kernel
theorem dX6_readSlot_3 : decode cX6_readSlot 3 = .ok (.invokevirtual 73, 3) := by decide +kernel
theorem dX6_readSlot_6 : decode cX6_readSlot 6 = .ok (.invokevirtual 76, 3) := by decide +kernel
theorem dX6_readSlot_9 : decode cX6_readSlot 9 = .ok (.ifCond .eq 11, 3) := by decide +kernel
theorem dX6_readSlot_12 : decode cX6_readSlot 12 = .ok (.aload_n 0, 1) := by decide +kernel
theorem dX6_readSlot_13 : decode cX6_readSlot 13 = .ok (.iload_n 1, 1) := by decide +kernel
theorem dX6_readSlot_14 : decode cX6_readSlot 14 = .ok (.invokevirtual 73, 3) := by decide +kernel
theorem dX6_readSlot_17 : decode cX6_readSlot 17 = .ok (.goto 8, 3) := by decide +kernel
theorem dX6_readSlot_20 : decode cX6_readSlot 20 = .ok (.aload_n 0, 1) := by decide +kernel
theorem dX6_readSlot_21 : decode cX6_readSlot 21 = .ok (.iload_n 1, 1) := by decide +kernel
theorem dX6_readSlot_22 : decode cX6_readSlot 22 = .ok (.invokevirtual 80, 3) := by decide +kernel
theorem dX6_readSlot_25 : decode cX6_readSlot 25 = .ok (.ireturn, 1) := by decide +kernel
theorem dX6_readNumber_0 : decode cX6_readNumber 0 = .ok (.aload_n 0, 1) := by decide +kernel
theorem dX6_readNumber_1 : decode cX6_readNumber 1 = .ok (.aload_n 0, 1) := by decide +kernel
theorem dX6_readNumber_2 : decode cX6_readNumber 2 = .ok (.iload_n 1, 1) := by decide +kernel
theorem dX6_readNumber_3 : decode cX6_readNumber 3 = .ok (.invokevirtual 73, 3) := by decide +kernel
theorem dX6_readNumber_6 : decode cX6_readNumber 6 = .ok (.invokevirtual 76, 3) := by decide +kernel
theorem dX6_readNumber_9 : decode cX6_readNumber 9 = .ok (.ifCond .eq 11, 3) := by decide +kernel
theorem dX6_readNumber_12 : decode cX6_readNumber 12 = .ok (.aload_n 0, 1) := by decide +kernel
theorem dX6_readNumber_13 : decode cX6_readNumber 13 = .ok (.iload_n 1, 1) := by decide +kernel
theorem dX6_readNumber_14 : decode cX6_readNumber 14 = .ok (.invokevirtual 83, 3) := by decide +kernel
theorem dX6_readNumber_17 : decode cX6_readNumber 17 = .ok (.goto 8, 3) := by decide +kernel
theorem dX6_readNumber_20 : decode cX6_readNumber 20 = .ok (.aload_n 0, 1) := by decide +kernel
theorem dX6_readNumber_21 : decode cX6_readNumber 21 = .ok (.iload_n 1, 1) := by decide +kernel
theorem dX6_readNumber_22 : decode cX6_readNumber 22 = .ok (.invokevirtual 86, 3) := by decide +kernel
theorem dX6_readNumber_25 : decode cX6_readNumber 25 = .ok (.ireturn, 1) := by decide +kernel
theorem dX6_valueOf_0 : decode cX6_valueOf 0 = .ok (.aload_n 0, 1) := by decide +kernel
theorem dX6_valueOf_1 : decode cX6_valueOf 1 = .ok (.getfield 7, 3) := by decide +kernel
theorem dX6_valueOf_4 : decode cX6_valueOf 4 = .ok (.bipush 48, 2) := by decide +kernel
theorem dX6_valueOf_6 : decode cX6_valueOf 6 = .ok (.bipush 12, 2) := by decide +kernel
theorem dX6_valueOf_8 : decode cX6_valueOf 8 = .ok (.aload_n 0, 1) := by decide +kernel
theorem dX6_valueOf_9 : decode cX6_valueOf 9 = .ok (.iload_n 1, 1) := by decide +kernel
theorem dX6_valueOf_10 : decode cX6_valueOf 10 = .ok (.invokevirtual 89, 3) := by decide +kernel
theorem dX6_valueOf_13 : decode cX6_valueOf 13 = .ok (.imul, 1) := by decide +kernel
theorem dX6_valueOf_14 : decode cX6_valueOf 14 = .ok (.iadd, 1) := by decide +kernel
theorem dX6_valueOf_15 : decode cX6_valueOf 15 = .ok (.aload_n 0, 1) := by decide +kernel
theorem dX6_valueOf_16 : decode cX6_valueOf 16 = .ok (.iload_n 1, 1) := by decide +kernel
theorem dX6_valueOf_17 : decode cX6_valueOf 17 = .ok (.invokevirtual 92, 3) := by decide +kernel
theorem dX6_valueOf_20 : decode cX6_valueOf 20 = .ok (.iadd, 1) := by decide +kernel
theorem dX6_valueOf_21 : decode cX6_valueOf 21 = .ok (.iaload, 1) := by decide +kernel
theorem dX6_valueOf_22 : decode cX6_valueOf 22 = .ok (.ireturn, 1) := by decide +kernel
theorem dX6_blockAt_0 : decode cX6_blockAt 0 = .ok (.aload_n 0, 1) := by decide +kernel
theorem dX6_blockAt_1 : decode cX6_blockAt 1 = .ok (.getfield 7, 3) := by decide +kernel
theorem dX6_blockAt_4 : decode cX6_blockAt 4 = .ok (.bipush 40, 2) := by decide +kernel
theorem dX6_blockAt_6 : decode cX6_blockAt 6 = .ok (.iaload, 1) := by decide +kernel
theorem dX6_blockAt_7 : decode cX6_blockAt 7 = .ok (.iconst (-1), 1) := by decide +kernel
theorem dX6_blockAt_8 : decode cX6_blockAt 8 = .ok (.if_icmp .eq 16, 3) := by decide +kernel
theorem dX6_blockAt_11 : decode cX6_blockAt 11 = .ok (.iload_n 2, 1) := by decide +kernel
theorem dX6_blockAt_12 : decode cX6_blockAt 12 = .ok (.aload_n 0, 1) := by decide +kernel
theorem dX6_blockAt_13 : decode cX6_blockAt 13 = .ok (.getfield 7, 3) := by decide +kernel
theorem dX6_blockAt_16 : decode cX6_blockAt 16 = .ok (.bipush 36, 2) := by decide +kernel
theorem dX6_blockAt_18 : decode cX6_blockAt 18 = .ok (.iload_n 1, 1) := by decide +kernel
theorem dX6_blockAt_19 : decode cX6_blockAt 19 = .ok (.iadd, 1) := by decide +kernel
theorem dX6_blockAt_20 : decode cX6_blockAt 20 = .ok (.iaload, 1) := by decide +kernel
theorem dX6_blockAt_21 : decode cX6_blockAt 21 = .ok (.if_icmp .lt 5, 3) := by decide +kernel
theorem dX6_blockAt_24 : decode cX6_blockAt 24 = .ok (.iconst (-1), 1) := by decide +kernel
theorem dX6_blockAt_25 : decode cX6_blockAt 25 = .ok (.ireturn, 1) := by decide +kernel
theorem dX6_blockAt_26 : decode cX6_blockAt 26 = .ok (.iload_n 1, 1) := by decide +kernel
theorem dX6_blockAt_27 : decode cX6_blockAt 27 = .ok (.iconst 2, 1) := by decide +kernel
theorem dX6_blockAt_28 : decode cX6_blockAt 28 = .ok (.idiv, 1) := by decide +kernel
theorem dX6_blockAt_29 : decode cX6_blockAt 29 = .ok (.istore_n 3, 1) := by decide +kernel
theorem dX6_blockAt_30 : decode cX6_blockAt 30 = .ok (.iload_n 1, 1) := by decide +kernel
theorem dX6_blockAt_31 : decode cX6_blockAt 31 = .ok (.iconst 2, 1) := by decide +kernel
theorem dX6_blockAt_32 : decode cX6_blockAt 32 = .ok (.irem, 1) := by decide +kernel
theorem dX6_blockAt_33 : decode cX6_blockAt 33 = .ok (.ifCond .ne 7, 3) := by decide +kernel
theorem dX6_blockAt_36 : decode cX6_blockAt 36 = .ok (.iload_n 2, 1) := by decide +kernel
theorem dX6_blockAt_37 : decode cX6_blockAt 37 = .ok (.goto 16, 3) := by decide +kernel
theorem dX6_blockAt_40 : decode cX6_blockAt 40 = .ok (.aload_n 0, 1) := by decide +kernel
theorem dX6_blockAt_41 : decode cX6_blockAt 41 = .ok (.getfield 7, 3) := by decide +kernel
theorem dX6_blockAt_44 : decode cX6_blockAt 44 = .ok (.bipush 36, 2) := by decide +kernel
theorem dX6_blockAt_46 : decode cX6_blockAt 46 = .ok (.iload_n 1, 1) := by decide +kernel
theorem dX6_blockAt_47 : decode cX6_blockAt 47 = .ok (.iadd, 1) := by decide +kernel
theorem dX6_blockAt_48 : decode cX6_blockAt 48 = .ok (.iconst 1, 1) := by decide +kernel
theorem dX6_blockAt_49 : decode cX6_blockAt 49 = .ok (.isub, 1) := by decide +kernel
theorem dX6_blockAt_50 : decode cX6_blockAt 50 = .ok (.iaload, 1) := by decide +kernel
theorem dX6_blockAt_51 : decode cX6_blockAt 51 = .ok (.iload_n 2, 1) := by decide +kernel
theorem dX6_blockAt_52 : decode cX6_blockAt 52 = .ok (.iadd, 1) := by decide +kernel
theorem dX6_blockAt_53 : decode cX6_blockAt 53 = .ok (.istore 4, 2) := by decide +kernel
theorem dX6_blockAt_55 : decode cX6_blockAt 55 = .ok (.aload_n 0, 1) := by decide +kernel
theorem dX6_blockAt_56 : decode cX6_blockAt 56 = .ok (.getfield 7, 3) := by decide +kernel
theorem dX6_blockAt_59 : decode cX6_blockAt 59 = .ok (.bipush 40, 2) := by decide +kernel
theorem dX6_blockAt_61 : decode cX6_blockAt 61 = .ok (.iaload, 1) := by decide +kernel
theorem dX6_blockAt_62 : decode cX6_blockAt 62 = .ok (.iconst 2, 1) := by decide +kernel
theorem dX6_blockAt_63 : decode cX6_blockAt 63 = .ok (.if_icmp .ne 19, 3) := by decide +kernel
theorem dX6_blockAt_66 : decode cX6_blockAt 66 = .ok (.iload 4, 2) := by decide +kernel
theorem dX6_blockAt_68 : decode cX6_blockAt 68 = .ok (.aload_n 0, 1) := by decide +kernel
theorem dX6_blockAt_69 : decode cX6_blockAt 69 = .ok (.invokevirtual 51, 3) := by decide +kernel
theorem dX6_blockAt_72 : decode cX6_blockAt 72 = .ok (.if_icmp .ge 8, 3) := by decide +kernel
theorem dX6_blockAt_75 : decode cX6_blockAt 75 = .ok (.iload 4, 2) := by decide +kernel
theorem dX6_blockAt_77 : decode cX6_blockAt 77 = .ok (.goto 4, 3) := by decide +kernel
theorem dX6_blockAt_80 : decode cX6_blockAt 80 = .ok (.iconst (-1), 1) := by decide +kernel
theorem dX6_blockAt_81 : decode cX6_blockAt 81 = .ok (.ireturn, 1) := by decide +kernel
theorem dX6_blockAt_82 : decode cX6_blockAt 82 = .ok (.aload_n 0, 1) := by decide +kernel
theorem dX6_blockAt_83 : decode cX6_blockAt 83 = .ok (.getfield 7, 3) := by decide +kernel
theorem dX6_blockAt_86 : decode cX6_blockAt 86 = .ok (.bipush 40, 2) := by decide +kernel
theorem dX6_blockAt_88 : decode cX6_blockAt 88 = .ok (.iaload, 1) := by decide +kernel
theorem dX6_blockAt_89 : decode cX6_blockAt 89 = .ok (.iconst 1, 1) := by decide +kernel
theorem dX6_blockAt_90 : decode cX6_blockAt 90 = .ok (.if_icmp .ne 21, 3) := by decide +kernel
theorem dX6_blockAt_93 : decode cX6_blockAt 93 = .ok (.iload_n 3, 1) := by decide +kernel
theorem dX6_blockAt_94 : decode cX6_blockAt 94 = .ok (.ifCond .ne 8, 3) := by decide +kernel
theorem dX6_blockAt_97 : decode cX6_blockAt 97 = .ok (.iload 4, 2) := by decide +kernel
theorem dX6_blockAt_99 : decode cX6_blockAt 99 = .ok (.goto 11, 3) := by decide +kernel
theorem dX6_blockAt_102 : decode cX6_blockAt 102 = .ok (.aload_n 0, 1) := by decide +kernel
theorem dX6_blockAt_103 : decode cX6_blockAt 103 = .ok (.iconst 0, 1) := by decide +kernel
theorem dX6_blockAt_104 : decode cX6_blockAt 104 = .ok (.invokevirtual 47, 3) := by decide +kernel
theorem dX6_blockAt_107 : decode cX6_blockAt 107 = .ok (.iload 4, 2) := by decide +kernel
theorem dX6_blockAt_109 : decode cX6_blockAt 109 = .ok (.iadd, 1) := by decide +kernel
theorem dX6_blockAt_110 : decode cX6_blockAt 110 = .ok (.ireturn, 1) := by decide +kernel
theorem dX6_blockAt_111 : decode cX6_blockAt 111 = .ok (.iload 4, 2) := by decide +kernel
theorem dX6_blockAt_113 : decode cX6_blockAt 113 = .ok (.aload_n 0, 1) := by decide +kernel
theorem dX6_blockAt_114 : decode cX6_blockAt 114 = .ok (.invokevirtual 51, 3) := by decide +kernel
theorem dX6_blockAt_117 : decode cX6_blockAt 117 = .ok (.if_icmp .ge 12, 3) := by decide +kernel
theorem dX6_blockAt_120 : decode cX6_blockAt 120 = .ok (.iconst 2, 1) := by decide +kernel
theorem dX6_blockAt_121 : decode cX6_blockAt 121 = .ok (.iload 4, 2) := by decide +kernel
theorem dX6_blockAt_123 : decode cX6_blockAt 123 = .ok (.imul, 1) := by decide +kernel
theorem dX6_blockAt_124 : decode cX6_blockAt 124 = .ok (.iload_n 3, 1) := by decide +kernel
theorem dX6_blockAt_125 : decode cX6_blockAt 125 = .ok (.iadd, 1) := by decide +kernel
theorem dX6_blockAt_126 : decode cX6_blockAt 126 = .ok (.goto 10, 3) := by decide +kernel
theorem dX6_blockAt_129 : decode cX6_blockAt 129 = .ok (.iload 4, 2) := by decide +kernel
theorem dX6_blockAt_131 : decode cX6_blockAt 131 = .ok (.aload_n 0, 1) := by decide +kernel
theorem dX6_blockAt_132 : decode cX6_blockAt 132 = .ok (.invokevirtual 51, 3) := by decide +kernel
theorem dX6_blockAt_135 : decode cX6_blockAt 135 = .ok (.iadd, 1) := by decide +kernel
theorem dX6_blockAt_136 : decode cX6_blockAt 136 = .ok (.ireturn, 1) := by decide +kernel
theorem dX6_used_0 : decode cX6_used 0 = .ok (.iconst 0, 1) := by decide +kernel
theorem dX6_used_1 : decode cX6_used 1 = .ok (.istore_n 2, 1) := by decide +kernel
theorem dX6_used_2 : decode cX6_used 2 = .ok (.iconst 0, 1) := by decide +kernel
theorem dX6_used_3 : decode cX6_used 3 = .ok (.istore_n 3, 1) := by decide +kernel
theorem dX6_used_4 : decode cX6_used 4 = .ok (.iload_n 3, 1) := by decide +kernel
theorem dX6_used_5 : decode cX6_used 5 = .ok (.bipush 12, 2) := by decide +kernel
theorem dX6_used_7 : decode cX6_used 7 = .ok (.if_icmp .ge 26, 3) := by decide +kernel
theorem dX6_used_10 : decode cX6_used 10 = .ok (.iload_n 2, 1) := by decide +kernel
theorem dX6_used_11 : decode cX6_used 11 = .ok (.aload_n 0, 1) := by decide +kernel
theorem dX6_used_12 : decode cX6_used 12 = .ok (.iload_n 1, 1) := by decide +kernel
theorem dX6_used_13 : decode cX6_used 13 = .ok (.iload_n 3, 1) := by decide +kernel
theorem dX6_used_14 : decode cX6_used 14 = .ok (.invokevirtual 95, 3) := by decide +kernel
theorem dX6_used_17 : decode cX6_used 17 = .ok (.ifCond .lt 7, 3) := by decide +kernel
theorem dX6_used_20 : decode cX6_used 20 = .ok (.iconst 1, 1) := by decide +kernel
theorem dX6_used_21 : decode cX6_used 21 = .ok (.goto 4, 3) := by decide +kernel
theorem dX6_used_24 : decode cX6_used 24 = .ok (.iconst 0, 1) := by decide +kernel
theorem dX6_used_25 : decode cX6_used 25 = .ok (.iadd, 1) := by decide +kernel
theorem dX6_used_26 : decode cX6_used 26 = .ok (.istore_n 2, 1) := by decide +kernel
theorem dX6_used_27 : decode cX6_used 27 = .ok (.iinc 3 1, 3) := by decide +kernel
theorem dX6_used_30 : decode cX6_used 30 = .ok (.goto (-26), 3) := by decide +kernel
theorem dX6_used_33 : decode cX6_used 33 = .ok (.iload_n 2, 1) := by decide +kernel
theorem dX6_used_34 : decode cX6_used 34 = .ok (.ireturn, 1) := by decide +kernel
theorem dX6_forgetMap_0 : decode cX6_forgetMap 0 = .ok (.aload_n 0, 1) := by decide +kernel
theorem dX6_forgetMap_1 : decode cX6_forgetMap 1 = .ok (.getfield 7, 3) := by decide +kernel
theorem dX6_forgetMap_4 : decode cX6_forgetMap 4 = .ok (.bipush 40, 2) := by decide +kernel
theorem dX6_forgetMap_6 : decode cX6_forgetMap 6 = .ok (.iconst (-1), 1) := by decide +kernel
theorem dX6_forgetMap_7 : decode cX6_forgetMap 7 = .ok (.iastore, 1) := by decide +kernel
theorem dX6_forgetMap_8 : decode cX6_forgetMap 8 = .ok (.iconst 0, 1) := by decide +kernel
theorem dX6_forgetMap_9 : decode cX6_forgetMap 9 = .ok (.istore_n 1, 1) := by decide +kernel
theorem dX6_forgetMap_10 : decode cX6_forgetMap 10 = .ok (.iload_n 1, 1) := by decide +kernel
theorem dX6_forgetMap_11 : decode cX6_forgetMap 11 = .ok (.iconst 4, 1) := by decide +kernel
theorem dX6_forgetMap_12 : decode cX6_forgetMap 12 = .ok (.if_icmp .ge 26, 3) := by decide +kernel
theorem dX6_forgetMap_15 : decode cX6_forgetMap 15 = .ok (.aload_n 0, 1) := by decide +kernel
theorem dX6_forgetMap_16 : decode cX6_forgetMap 16 = .ok (.getfield 7, 3) := by decide +kernel
theorem dX6_forgetMap_19 : decode cX6_forgetMap 19 = .ok (.bipush 36, 2) := by decide +kernel
theorem dX6_forgetMap_21 : decode cX6_forgetMap 21 = .ok (.iload_n 1, 1) := by decide +kernel
theorem dX6_forgetMap_22 : decode cX6_forgetMap 22 = .ok (.iadd, 1) := by decide +kernel
theorem dX6_forgetMap_23 : decode cX6_forgetMap 23 = .ok (.iconst 0, 1) := by decide +kernel
theorem dX6_forgetMap_24 : decode cX6_forgetMap 24 = .ok (.iastore, 1) := by decide +kernel
theorem dX6_forgetMap_25 : decode cX6_forgetMap 25 = .ok (.aload_n 0, 1) := by decide +kernel
theorem dX6_forgetMap_26 : decode cX6_forgetMap 26 = .ok (.iload_n 1, 1) := by decide +kernel
theorem dX6_forgetMap_27 : decode cX6_forgetMap 27 = .ok (.iconst 5, 1) := by decide +kernel
theorem dX6_forgetMap_28 : decode cX6_forgetMap 28 = .ok (.iconst 0, 1) := by decide +kernel
theorem dX6_forgetMap_29 : decode cX6_forgetMap 29 = .ok (.invokevirtual 98, 3) := by decide +kernel
theorem dX6_forgetMap_32 : decode cX6_forgetMap 32 = .ok (.iinc 1 1, 3) := by decide +kernel
theorem dX6_forgetMap_35 : decode cX6_forgetMap 35 = .ok (.goto (-25), 3) := by decide +kernel
theorem dX6_forgetMap_38 : decode cX6_forgetMap 38 = .ok (.return_, 1) := by decide +kernel
theorem dX6_goodRoom_0 : decode cX6_goodRoom 0 = .ok (.iconst 0, 1) := by decide +kernel
theorem dX6_goodRoom_1 : decode cX6_goodRoom 1 = .ok (.istore_n 2, 1) := by decide +kernel
theorem dX6_goodRoom_2 : decode cX6_goodRoom 2 = .ok (.iconst 2, 1) := by decide +kernel
theorem dX6_goodRoom_3 : decode cX6_goodRoom 3 = .ok (.iload_n 1, 1) := by decide +kernel
theorem dX6_goodRoom_4 : decode cX6_goodRoom 4 = .ok (.imul, 1) := by decide +kernel
theorem dX6_goodRoom_5 : decode cX6_goodRoom 5 = .ok (.istore_n 3, 1) := by decide +kernel
theorem dX6_goodRoom_6 : decode cX6_goodRoom 6 = .ok (.iload_n 3, 1) := by decide +kernel
theorem dX6_goodRoom_7 : decode cX6_goodRoom 7 = .ok (.iconst 2, 1) := by decide +kernel
theorem dX6_goodRoom_8 : decode cX6_goodRoom 8 = .ok (.iload_n 1, 1) := by decide +kernel
theorem dX6_goodRoom_9 : decode cX6_goodRoom 9 = .ok (.imul, 1) := by decide +kernel
theorem dX6_goodRoom_10 : decode cX6_goodRoom 10 = .ok (.iconst 2, 1) := by decide +kernel
theorem dX6_goodRoom_11 : decode cX6_goodRoom 11 = .ok (.iadd, 1) := by decide +kernel
theorem dX6_goodRoom_12 : decode cX6_goodRoom 12 = .ok (.if_icmp .ge 39, 3) := by decide +kernel
theorem dX6_goodRoom_15 : decode cX6_goodRoom 15 = .ok (.iload_n 2, 1) := by decide +kernel
theorem dX6_goodRoom_16 : decode cX6_goodRoom 16 = .ok (.aload_n 0, 1) := by decide +kernel
theorem dX6_goodRoom_17 : decode cX6_goodRoom 17 = .ok (.iload_n 3, 1) := by decide +kernel
theorem dX6_goodRoom_18 : decode cX6_goodRoom 18 = .ok (.invokevirtual 102, 3) := by decide +kernel
theorem dX6_goodRoom_21 : decode cX6_goodRoom 21 = .ok (.ifCond .eq 21, 3) := by decide +kernel
theorem dX6_goodRoom_24 : decode cX6_goodRoom 24 = .ok (.aload_n 0, 1) := by decide +kernel
theorem dX6_goodRoom_25 : decode cX6_goodRoom 25 = .ok (.iload_n 3, 1) := by decide +kernel
theorem dX6_goodRoom_26 : decode cX6_goodRoom 26 = .ok (.iconst 4, 1) := by decide +kernel
theorem dX6_goodRoom_27 : decode cX6_goodRoom 27 = .ok (.invokevirtual 33, 3) := by decide +kernel
theorem dX6_goodRoom_30 : decode cX6_goodRoom 30 = .ok (.ifCond .ne 12, 3) := by decide +kernel
theorem dX6_goodRoom_33 : decode cX6_goodRoom 33 = .ok (.aload_n 0, 1) := by decide +kernel
theorem dX6_goodRoom_34 : decode cX6_goodRoom 34 = .ok (.iload_n 3, 1) := by decide +kernel
theorem dX6_goodRoom_35 : decode cX6_goodRoom 35 = .ok (.iconst 1, 1) := by decide +kernel
theorem dX6_goodRoom_36 : decode cX6_goodRoom 36 = .ok (.invokevirtual 33, 3) := by decide +kernel
theorem dX6_goodRoom_39 : decode cX6_goodRoom 39 = .ok (.goto 4, 3) := by decide +kernel
theorem dX6_goodRoom_42 : decode cX6_goodRoom 42 = .ok (.iconst 0, 1) := by decide +kernel
theorem dX6_goodRoom_43 : decode cX6_goodRoom 43 = .ok (.iadd, 1) := by decide +kernel
theorem dX6_goodRoom_44 : decode cX6_goodRoom 44 = .ok (.istore_n 2, 1) := by decide +kernel
theorem dX6_goodRoom_45 : decode cX6_goodRoom 45 = .ok (.iinc 3 1, 3) := by decide +kernel
theorem dX6_goodRoom_48 : decode cX6_goodRoom 48 = .ok (.goto (-42), 3) := by decide +kernel
theorem dX6_goodRoom_51 : decode cX6_goodRoom 51 = .ok (.iload_n 2, 1) := by decide +kernel
theorem dX6_goodRoom_52 : decode cX6_goodRoom 52 = .ok (.ireturn, 1) := by decide +kernel
theorem dX6_whyNot_0 : decode cX6_whyNot 0 = .ok (.aload_n 0, 1) := by decide +kernel
theorem dX6_whyNot_1 : decode cX6_whyNot 1 = .ok (.iconst 0, 1) := by decide +kernel
theorem dX6_whyNot_2 : decode cX6_whyNot 2 = .ok (.invokevirtual 105, 3) := by decide +kernel
theorem dX6_whyNot_5 : decode cX6_whyNot 5 = .ok (.aload_n 0, 1) := by decide +kernel
theorem dX6_whyNot_6 : decode cX6_whyNot 6 = .ok (.iconst 1, 1) := by decide +kernel
theorem dX6_whyNot_7 : decode cX6_whyNot 7 = .ok (.invokevirtual 105, 3) := by decide +kernel
theorem dX6_whyNot_10 : decode cX6_whyNot 10 = .ok (.iadd, 1) := by decide +kernel
theorem dX6_whyNot_11 : decode cX6_whyNot 11 = .ok (.ifCond .ne 5, 3) := by decide +kernel
theorem dX6_whyNot_14 : decode cX6_whyNot 14 = .ok (.iconst 1, 1) := by decide +kernel
theorem dX6_whyNot_15 : decode cX6_whyNot 15 = .ok (.ireturn, 1) := by decide +kernel
theorem dX6_whyNot_16 : decode cX6_whyNot 16 = .ok (.iload_n 1, 1) := by decide +kernel
theorem dX6_whyNot_17 : decode cX6_whyNot 17 = .ok (.iconst 2, 1) := by decide +kernel
theorem dX6_whyNot_18 : decode cX6_whyNot 18 = .ok (.if_icmp .ne 23, 3) := by decide +kernel
theorem dX6_whyNot_21 : decode cX6_whyNot 21 = .ok (.aload_n 0, 1) := by decide +kernel
theorem dX6_whyNot_22 : decode cX6_whyNot 22 = .ok (.iconst 0, 1) := by decide +kernel
theorem dX6_whyNot_23 : decode cX6_whyNot 23 = .ok (.invokevirtual 105, 3) := by decide +kernel
theorem dX6_whyNot_26 : decode cX6_whyNot 26 = .ok (.ifCond .eq 11, 3) := by decide +kernel
theorem dX6_whyNot_29 : decode cX6_whyNot 29 = .ok (.aload_n 0, 1) := by decide +kernel
theorem dX6_whyNot_30 : decode cX6_whyNot 30 = .ok (.iconst 1, 1) := by decide +kernel
theorem dX6_whyNot_31 : decode cX6_whyNot 31 = .ok (.invokevirtual 105, 3) := by decide +kernel
theorem dX6_whyNot_34 : decode cX6_whyNot 34 = .ok (.ifCond .ne 7, 3) := by decide +kernel
theorem dX6_whyNot_37 : decode cX6_whyNot 37 = .ok (.iconst 2, 1) := by decide +kernel
theorem dX6_whyNot_38 : decode cX6_whyNot 38 = .ok (.goto 4, 3) := by decide +kernel
theorem dX6_whyNot_41 : decode cX6_whyNot 41 = .ok (.iconst 0, 1) := by decide +kernel
theorem dX6_whyNot_42 : decode cX6_whyNot 42 = .ok (.ireturn, 1) := by decide +kernel
theorem dX6_makeMap_0 : decode cX6_makeMap 0 = .ok (.aload_n 0, 1) := by decide +kernel
theorem dX6_makeMap_1 : decode cX6_makeMap 1 = .ok (.invokevirtual 108, 3) := by decide +kernel
theorem dX6_makeMap_4 : decode cX6_makeMap 4 = .ok (.aload_n 0, 1) := by decide +kernel
theorem dX6_makeMap_5 : decode cX6_makeMap 5 = .ok (.getfield 7, 3) := by decide +kernel
theorem dX6_makeMap_8 : decode cX6_makeMap 8 = .ok (.bipush 40, 2) := by decide +kernel
theorem dX6_makeMap_10 : decode cX6_makeMap 10 = .ok (.iload_n 1, 1) := by decide +kernel
theorem dX6_makeMap_11 : decode cX6_makeMap 11 = .ok (.iastore, 1) := by decide +kernel
theorem dX6_makeMap_12 : decode cX6_makeMap 12 = .ok (.iconst 0, 1) := by decide +kernel
theorem dX6_makeMap_13 : decode cX6_makeMap 13 = .ok (.istore_n 2, 1) := by decide +kernel
theorem dX6_makeMap_14 : decode cX6_makeMap 14 = .ok (.iload_n 2, 1) := by decide +kernel
theorem dX6_makeMap_15 : decode cX6_makeMap 15 = .ok (.iconst 4, 1) := by decide +kernel
theorem dX6_makeMap_16 : decode cX6_makeMap 16 = .ok (.if_icmp .ge 76, 3) := by decide +kernel
theorem dX6_makeMap_19 : decode cX6_makeMap 19 = .ok (.aload_n 0, 1) := by decide +kernel
theorem dX6_makeMap_20 : decode cX6_makeMap 20 = .ok (.iload_n 2, 1) := by decide +kernel
theorem dX6_makeMap_21 : decode cX6_makeMap 21 = .ok (.invokevirtual 102, 3) := by decide +kernel
theorem dX6_makeMap_24 : decode cX6_makeMap 24 = .ok (.ifCond .eq 34, 3) := by decide +kernel
theorem dX6_makeMap_27 : decode cX6_makeMap 27 = .ok (.aload_n 0, 1) := by decide +kernel
theorem dX6_makeMap_28 : decode cX6_makeMap 28 = .ok (.iload_n 2, 1) := by decide +kernel
theorem dX6_makeMap_29 : decode cX6_makeMap 29 = .ok (.iconst 4, 1) := by decide +kernel
theorem dX6_makeMap_30 : decode cX6_makeMap 30 = .ok (.invokevirtual 33, 3) := by decide +kernel
theorem dX6_makeMap_33 : decode cX6_makeMap 33 = .ok (.ifCond .ne 25, 3) := by decide +kernel
theorem dX6_makeMap_36 : decode cX6_makeMap 36 = .ok (.aload_n 0, 1) := by decide +kernel
theorem dX6_makeMap_37 : decode cX6_makeMap 37 = .ok (.getfield 7, 3) := by decide +kernel
theorem dX6_makeMap_40 : decode cX6_makeMap 40 = .ok (.bipush 36, 2) := by decide +kernel
theorem dX6_makeMap_42 : decode cX6_makeMap 42 = .ok (.iload_n 2, 1) := by decide +kernel
theorem dX6_makeMap_43 : decode cX6_makeMap 43 = .ok (.iadd, 1) := by decide +kernel
theorem dX6_makeMap_44 : decode cX6_makeMap 44 = .ok (.aload_n 0, 1) := by decide +kernel
theorem dX6_makeMap_45 : decode cX6_makeMap 45 = .ok (.iload_n 2, 1) := by decide +kernel
theorem dX6_makeMap_46 : decode cX6_makeMap 46 = .ok (.iconst 1, 1) := by decide +kernel
theorem dX6_makeMap_47 : decode cX6_makeMap 47 = .ok (.invokevirtual 33, 3) := by decide +kernel
theorem dX6_makeMap_50 : decode cX6_makeMap 50 = .ok (.iastore, 1) := by decide +kernel
theorem dX6_makeMap_51 : decode cX6_makeMap 51 = .ok (.aload_n 0, 1) := by decide +kernel
theorem dX6_makeMap_52 : decode cX6_makeMap 52 = .ok (.iload_n 2, 1) := by decide +kernel
theorem dX6_makeMap_53 : decode cX6_makeMap 53 = .ok (.iconst 5, 1) := by decide +kernel
theorem dX6_makeMap_54 : decode cX6_makeMap 54 = .ok (.iconst 1, 1) := by decide +kernel
theorem dX6_makeMap_55 : decode cX6_makeMap 55 = .ok (.invokevirtual 98, 3) := by decide +kernel
theorem dX6_makeMap_58 : decode cX6_makeMap 58 = .ok (.aload_n 0, 1) := by decide +kernel
theorem dX6_makeMap_59 : decode cX6_makeMap 59 = .ok (.iload_n 2, 1) := by decide +kernel
theorem dX6_makeMap_60 : decode cX6_makeMap 60 = .ok (.bipush 6, 2) := by decide +kernel
theorem dX6_makeMap_62 : decode cX6_makeMap 62 = .ok (.aload_n 0, 1) := by decide +kernel
theorem dX6_makeMap_63 : decode cX6_makeMap 63 = .ok (.getfield 7, 3) := by decide +kernel
theorem dX6_makeMap_66 : decode cX6_makeMap 66 = .ok (.bipush 41, 2) := by decide +kernel
theorem dX6_makeMap_68 : decode cX6_makeMap 68 = .ok (.iaload, 1) := by decide +kernel
theorem dX6_makeMap_69 : decode cX6_makeMap 69 = .ok (.invokevirtual 98, 3) := by decide +kernel
theorem dX6_makeMap_72 : decode cX6_makeMap 72 = .ok (.aload_n 0, 1) := by decide +kernel
theorem dX6_makeMap_73 : decode cX6_makeMap 73 = .ok (.iload_n 2, 1) := by decide +kernel
theorem dX6_makeMap_74 : decode cX6_makeMap 74 = .ok (.bipush 7, 2) := by decide +kernel
theorem dX6_makeMap_76 : decode cX6_makeMap 76 = .ok (.aload_n 0, 1) := by decide +kernel
theorem dX6_makeMap_77 : decode cX6_makeMap 77 = .ok (.getfield 7, 3) := by decide +kernel
theorem dX6_makeMap_80 : decode cX6_makeMap 80 = .ok (.bipush 41, 2) := by decide +kernel
theorem dX6_makeMap_82 : decode cX6_makeMap 82 = .ok (.iaload, 1) := by decide +kernel
theorem dX6_makeMap_83 : decode cX6_makeMap 83 = .ok (.invokevirtual 98, 3) := by decide +kernel
theorem dX6_makeMap_86 : decode cX6_makeMap 86 = .ok (.iinc 2 1, 3) := by decide +kernel
theorem dX6_makeMap_89 : decode cX6_makeMap 89 = .ok (.goto (-75), 3) := by decide +kernel
theorem dX6_makeMap_92 : decode cX6_makeMap 92 = .ok (.bipush 48, 2) := by decide +kernel
theorem dX6_makeMap_94 : decode cX6_makeMap 94 = .ok (.istore_n 2, 1) := by decide +kernel
theorem dX6_makeMap_95 : decode cX6_makeMap 95 = .ok (.iload_n 2, 1) := by decide +kernel
theorem dX6_makeMap_96 : decode cX6_makeMap 96 = .ok (.bipush 96, 2) := by decide +kernel
theorem dX6_makeMap_98 : decode cX6_makeMap 98 = .ok (.if_icmp .ge 16, 3) := by decide +kernel
theorem dX6_makeMap_101 : decode cX6_makeMap 101 = .ok (.aload_n 0, 1) := by decide +kernel
theorem dX6_makeMap_102 : decode cX6_makeMap 102 = .ok (.getfield 7, 3) := by decide +kernel
theorem dX6_makeMap_105 : decode cX6_makeMap 105 = .ok (.iload_n 2, 1) := by decide +kernel
theorem dX6_makeMap_106 : decode cX6_makeMap 106 = .ok (.iconst 0, 1) := by decide +kernel
theorem dX6_makeMap_107 : decode cX6_makeMap 107 = .ok (.iastore, 1) := by decide +kernel
theorem dX6_makeMap_108 : decode cX6_makeMap 108 = .ok (.iinc 2 1, 3) := by decide +kernel
theorem dX6_makeMap_111 : decode cX6_makeMap 111 = .ok (.goto (-16), 3) := by decide +kernel
theorem dX6_makeMap_114 : decode cX6_makeMap 114 = .ok (.return_, 1) := by decide +kernel
theorem dX6_plug_0 : decode cX6_plug 0 = .ok (.iload_n 2, 1) := by decide +kernel
theorem dX6_plug_1 : decode cX6_plug 1 = .ok (.iconst 1, 1) := by decide +kernel
theorem dX6_plug_2 : decode cX6_plug 2 = .ok (.bipush 12, 2) := by decide +kernel
theorem dX6_plug_4 : decode cX6_plug 4 = .ok (.invokestatic 29, 3) := by decide +kernel
theorem dX6_plug_7 : decode cX6_plug 7 = .ok (.ifCond .eq 27, 3) := by decide +kernel
theorem dX6_plug_10 : decode cX6_plug 10 = .ok (.iload_n 3, 1) := by decide +kernel
theorem dX6_plug_11 : decode cX6_plug 11 = .ok (.iconst 1, 1) := by decide +kernel
theorem dX6_plug_12 : decode cX6_plug 12 = .ok (.iconst 2, 1) := by decide +kernel
theorem dX6_plug_13 : decode cX6_plug 13 = .ok (.invokestatic 29, 3) := by decide +kernel
theorem dX6_plug_16 : decode cX6_plug 16 = .ok (.ifCond .eq 18, 3) := by decide +kernel
theorem dX6_plug_19 : decode cX6_plug 19 = .ok (.iload 4, 2) := by decide +kernel
theorem dX6_plug_21 : decode cX6_plug 21 = .ok (.iconst 1, 1) := by decide +kernel
theorem dX6_plug_22 : decode cX6_plug 22 = .ok (.bipush 9, 2) := by decide +kernel
theorem dX6_plug_24 : decode cX6_plug 24 = .ok (.invokestatic 29, 3) := by decide +kernel
theorem dX6_plug_27 : decode cX6_plug 27 = .ok (.ifCond .eq 7, 3) := by decide +kernel
theorem dX6_plug_30 : decode cX6_plug 30 = .ok (.iconst 1, 1) := by decide +kernel
theorem dX6_plug_31 : decode cX6_plug 31 = .ok (.goto 4, 3) := by decide +kernel
theorem dX6_plug_34 : decode cX6_plug 34 = .ok (.iconst 0, 1) := by decide +kernel
theorem dX6_plug_35 : decode cX6_plug 35 = .ok (.istore 5, 2) := by decide +kernel
theorem dX6_plug_37 : decode cX6_plug 37 = .ok (.aload_n 0, 1) := by decide +kernel
theorem dX6_plug_38 : decode cX6_plug 38 = .ok (.iload_n 1, 1) := by decide +kernel
theorem dX6_plug_39 : decode cX6_plug 39 = .ok (.invokestatic 111, 3) := by decide +kernel
theorem dX6_plug_42 : decode cX6_plug 42 = .ok (.ifCond .ne 7, 3) := by decide +kernel
theorem dX6_plug_45 : decode cX6_plug 45 = .ok (.iconst 1, 1) := by decide +kernel
theorem dX6_plug_46 : decode cX6_plug 46 = .ok (.goto 25, 3) := by decide +kernel
theorem dX6_plug_49 : decode cX6_plug 49 = .ok (.iload 5, 2) := by decide +kernel
theorem dX6_plug_51 : decode cX6_plug 51 = .ok (.ifCond .ne 7, 3) := by decide +kernel
theorem dX6_plug_54 : decode cX6_plug 54 = .ok (.iconst 2, 1) := by decide +kernel
theorem dX6_plug_55 : decode cX6_plug 55 = .ok (.goto 16, 3) := by decide +kernel
theorem dX6_plug_58 : decode cX6_plug 58 = .ok (.aload_n 0, 1) := by decide +kernel
theorem dX6_plug_59 : decode cX6_plug 59 = .ok (.iload_n 1, 1) := by decide +kernel
theorem dX6_plug_60 : decode cX6_plug 60 = .ok (.invokevirtual 102, 3) := by decide +kernel
theorem dX6_plug_63 : decode cX6_plug 63 = .ok (.ifCond .eq 7, 3) := by decide +kernel
theorem dX6_plug_66 : decode cX6_plug 66 = .ok (.iconst 3, 1) := by decide +kernel
theorem dX6_plug_67 : decode cX6_plug 67 = .ok (.goto 4, 3) := by decide +kernel
theorem dX6_plug_70 : decode cX6_plug 70 = .ok (.iconst 0, 1) := by decide +kernel
theorem dX6_plug_71 : decode cX6_plug 71 = .ok (.putfield 25, 3) := by decide +kernel
theorem dX6_plug_74 : decode cX6_plug 74 = .ok (.aload_n 0, 1) := by decide +kernel
theorem dX6_plug_75 : decode cX6_plug 75 = .ok (.getfield 25, 3) := by decide +kernel
theorem dX6_plug_78 : decode cX6_plug 78 = .ok (.ifCond .le 5, 3) := by decide +kernel
theorem dX6_plug_81 : decode cX6_plug 81 = .ok (.iconst 0, 1) := by decide +kernel
theorem dX6_plug_82 : decode cX6_plug 82 = .ok (.ireturn, 1) := by decide +kernel
theorem dX6_plug_83 : decode cX6_plug 83 = .ok (.aload_n 0, 1) := by decide +kernel
theorem dX6_plug_84 : decode cX6_plug 84 = .ok (.invokevirtual 44, 3) := by decide +kernel
theorem dX6_plug_87 : decode cX6_plug 87 = .ok (.aload_n 0, 1) := by decide +kernel
theorem dX6_plug_88 : decode cX6_plug 88 = .ok (.iload_n 1, 1) := by decide +kernel
theorem dX6_plug_89 : decode cX6_plug 89 = .ok (.iconst 0, 1) := by decide +kernel
theorem dX6_plug_90 : decode cX6_plug 90 = .ok (.iconst 1, 1) := by decide +kernel
theorem dX6_plug_91 : decode cX6_plug 91 = .ok (.invokevirtual 98, 3) := by decide +kernel
theorem dX6_plug_94 : decode cX6_plug 94 = .ok (.aload_n 0, 1) := by decide +kernel
theorem dX6_plug_95 : decode cX6_plug 95 = .ok (.iload_n 1, 1) := by decide +kernel
theorem dX6_plug_96 : decode cX6_plug 96 = .ok (.iconst 1, 1) := by decide +kernel
theorem dX6_plug_97 : decode cX6_plug 97 = .ok (.iload_n 2, 1) := by decide +kernel
theorem dX6_plug_98 : decode cX6_plug 98 = .ok (.invokevirtual 98, 3) := by decide +kernel
theorem dX6_plug_101 : decode cX6_plug 101 = .ok (.aload_n 0, 1) := by decide +kernel
theorem dX6_plug_102 : decode cX6_plug 102 = .ok (.iload_n 1, 1) := by decide +kernel
theorem dX6_plug_103 : decode cX6_plug 103 = .ok (.iconst 2, 1) := by decide +kernel
theorem dX6_plug_104 : decode cX6_plug 104 = .ok (.iload_n 3, 1) := by decide +kernel
theorem dX6_plug_105 : decode cX6_plug 105 = .ok (.invokevirtual 98, 3) := by decide +kernel
theorem dX6_plug_108 : decode cX6_plug 108 = .ok (.aload_n 0, 1) := by decide +kernel
theorem dX6_plug_109 : decode cX6_plug 109 = .ok (.iload_n 1, 1) := by decide +kernel
theorem dX6_plug_110 : decode cX6_plug 110 = .ok (.iconst 3, 1) := by decide +kernel
theorem dX6_plug_111 : decode cX6_plug 111 = .ok (.iload 4, 2) := by decide +kernel
theorem dX6_plug_113 : decode cX6_plug 113 = .ok (.invokevirtual 98, 3) := by decide +kernel
theorem dX6_plug_116 : decode cX6_plug 116 = .ok (.aload_n 0, 1) := by decide +kernel
theorem dX6_plug_117 : decode cX6_plug 117 = .ok (.iload_n 1, 1) := by decide +kernel
theorem dX6_plug_118 : decode cX6_plug 118 = .ok (.iconst 4, 1) := by decide +kernel
theorem dX6_plug_119 : decode cX6_plug 119 = .ok (.iconst 0, 1) := by decide +kernel
theorem dX6_plug_120 : decode cX6_plug 120 = .ok (.invokevirtual 98, 3) := by decide +kernel
theorem dX6_plug_123 : decode cX6_plug 123 = .ok (.aload_n 0, 1) := by decide +kernel
theorem dX6_plug_124 : decode cX6_plug 124 = .ok (.iload_n 1, 1) := by decide +kernel
theorem dX6_plug_125 : decode cX6_plug 125 = .ok (.iconst 5, 1) := by decide +kernel
theorem dX6_plug_126 : decode cX6_plug 126 = .ok (.iconst 0, 1) := by decide +kernel
theorem dX6_plug_127 : decode cX6_plug 127 = .ok (.invokevirtual 98, 3) := by decide +kernel
theorem dX6_plug_130 : decode cX6_plug 130 = .ok (.aload_n 0, 1) := by decide +kernel
theorem dX6_plug_131 : decode cX6_plug 131 = .ok (.iload_n 1, 1) := by decide +kernel
theorem dX6_plug_132 : decode cX6_plug 132 = .ok (.bipush 6, 2) := by decide +kernel
theorem dX6_plug_134 : decode cX6_plug 134 = .ok (.iconst 0, 1) := by decide +kernel
theorem dX6_plug_135 : decode cX6_plug 135 = .ok (.invokevirtual 98, 3) := by decide +kernel
theorem dX6_plug_138 : decode cX6_plug 138 = .ok (.aload_n 0, 1) := by decide +kernel
theorem dX6_plug_139 : decode cX6_plug 139 = .ok (.iload_n 1, 1) := by decide +kernel
theorem dX6_plug_140 : decode cX6_plug 140 = .ok (.bipush 7, 2) := by decide +kernel
theorem dX6_plug_142 : decode cX6_plug 142 = .ok (.iconst 0, 1) := by decide +kernel
theorem dX6_plug_143 : decode cX6_plug 143 = .ok (.invokevirtual 98, 3) := by decide +kernel
theorem dX6_plug_146 : decode cX6_plug 146 = .ok (.aload_n 0, 1) := by decide +kernel
theorem dX6_plug_147 : decode cX6_plug 147 = .ok (.iload_n 1, 1) := by decide +kernel
theorem dX6_plug_148 : decode cX6_plug 148 = .ok (.bipush 8, 2) := by decide +kernel
theorem dX6_plug_150 : decode cX6_plug 150 = .ok (.iconst 0, 1) := by decide +kernel
theorem dX6_plug_151 : decode cX6_plug 151 = .ok (.invokevirtual 98, 3) := by decide +kernel
theorem dX6_plug_154 : decode cX6_plug 154 = .ok (.aload_n 0, 1) := by decide +kernel
theorem dX6_plug_155 : decode cX6_plug 155 = .ok (.iconst 0, 1) := by decide +kernel
theorem dX6_plug_156 : decode cX6_plug 156 = .ok (.invokevirtual 114, 3) := by decide +kernel
theorem dX6_plug_159 : decode cX6_plug 159 = .ok (.ireturn, 1) := by decide +kernel
theorem dX6_sticks_0 : decode cX6_sticks 0 = .ok (.iconst 0, 1) := by decide +kernel
theorem dX6_sticks_1 : decode cX6_sticks 1 = .ok (.istore_n 2, 1) := by decide +kernel
theorem dX6_sticks_2 : decode cX6_sticks 2 = .ok (.iconst 0, 1) := by decide +kernel
theorem dX6_sticks_3 : decode cX6_sticks 3 = .ok (.istore_n 3, 1) := by decide +kernel
theorem dX6_sticks_4 : decode cX6_sticks 4 = .ok (.iload_n 3, 1) := by decide +kernel
theorem dX6_sticks_5 : decode cX6_sticks 5 = .ok (.iconst 4, 1) := by decide +kernel
theorem dX6_sticks_6 : decode cX6_sticks 6 = .ok (.if_icmp .ge 39, 3) := by decide +kernel
theorem dX6_sticks_9 : decode cX6_sticks 9 = .ok (.iload_n 2, 1) := by decide +kernel
theorem dX6_sticks_10 : decode cX6_sticks 10 = .ok (.aload_n 0, 1) := by decide +kernel
theorem dX6_sticks_11 : decode cX6_sticks 11 = .ok (.iload_n 3, 1) := by decide +kernel
theorem dX6_sticks_12 : decode cX6_sticks 12 = .ok (.invokevirtual 102, 3) := by decide +kernel
theorem dX6_sticks_15 : decode cX6_sticks 15 = .ok (.ifCond .eq 21, 3) := by decide +kernel
theorem dX6_sticks_18 : decode cX6_sticks 18 = .ok (.iload_n 1, 1) := by decide +kernel
theorem dX6_sticks_19 : decode cX6_sticks 19 = .ok (.ifCond .eq 13, 3) := by decide +kernel
theorem dX6_sticks_22 : decode cX6_sticks 22 = .ok (.aload_n 0, 1) := by decide +kernel
theorem dX6_sticks_23 : decode cX6_sticks 23 = .ok (.iload_n 3, 1) := by decide +kernel
theorem dX6_sticks_24 : decode cX6_sticks 24 = .ok (.iconst 4, 1) := by decide +kernel
theorem dX6_sticks_25 : decode cX6_sticks 25 = .ok (.invokevirtual 33, 3) := by decide +kernel
theorem dX6_sticks_28 : decode cX6_sticks 28 = .ok (.iconst 1, 1) := by decide +kernel
theorem dX6_sticks_29 : decode cX6_sticks 29 = .ok (.if_icmp .ne 7, 3) := by decide +kernel
theorem dX6_sticks_32 : decode cX6_sticks 32 = .ok (.iconst 1, 1) := by decide +kernel
theorem dX6_sticks_33 : decode cX6_sticks 33 = .ok (.goto 4, 3) := by decide +kernel
theorem dX6_sticks_36 : decode cX6_sticks 36 = .ok (.iconst 0, 1) := by decide +kernel
theorem dX6_sticks_37 : decode cX6_sticks 37 = .ok (.iadd, 1) := by decide +kernel
theorem dX6_sticks_38 : decode cX6_sticks 38 = .ok (.istore_n 2, 1) := by decide +kernel
theorem dX6_sticks_39 : decode cX6_sticks 39 = .ok (.iinc 3 1, 3) := by decide +kernel
theorem dX6_sticks_42 : decode cX6_sticks 42 = .ok (.goto (-38), 3) := by decide +kernel
theorem dX6_sticks_45 : decode cX6_sticks 45 = .ok (.iload_n 2, 1) := by decide +kernel
theorem dX6_sticks_46 : decode cX6_sticks 46 = .ok (.ireturn, 1) := by decide +kernel
theorem dX6_pull_0 : decode cX6_pull 0 = .ok (.aload_n 0, 1) := by decide +kernel
theorem dX6_pull_1 : decode cX6_pull 1 = .ok (.iload_n 1, 1) := by decide +kernel
theorem dX6_pull_2 : decode cX6_pull 2 = .ok (.invokestatic 111, 3) := by decide +kernel
theorem dX6_pull_5 : decode cX6_pull 5 = .ok (.ifCond .ne 7, 3) := by decide +kernel
theorem dX6_pull_8 : decode cX6_pull 8 = .ok (.iconst 1, 1) := by decide +kernel
theorem dX6_pull_9 : decode cX6_pull 9 = .ok (.goto 16, 3) := by decide +kernel
theorem dX6_pull_12 : decode cX6_pull 12 = .ok (.aload_n 0, 1) := by decide +kernel
theorem dX6_pull_13 : decode cX6_pull 13 = .ok (.iload_n 1, 1) := by decide +kernel
theorem dX6_pull_14 : decode cX6_pull 14 = .ok (.invokevirtual 102, 3) := by decide +kernel
theorem dX6_pull_17 : decode cX6_pull 17 = .ok (.ifCond .eq 7, 3) := by decide +kernel
theorem dX6_pull_20 : decode cX6_pull 20 = .ok (.iconst 0, 1) := by decide +kernel
theorem dX6_pull_21 : decode cX6_pull 21 = .ok (.goto 4, 3) := by decide +kernel
theorem dX6_pull_24 : decode cX6_pull 24 = .ok (.iconst 2, 1) := by decide +kernel
theorem dX6_pull_25 : decode cX6_pull 25 = .ok (.putfield 25, 3) := by decide +kernel
theorem dX6_pull_28 : decode cX6_pull 28 = .ok (.aload_n 0, 1) := by decide +kernel
theorem dX6_pull_29 : decode cX6_pull 29 = .ok (.getfield 25, 3) := by decide +kernel
theorem dX6_pull_32 : decode cX6_pull 32 = .ok (.ifCond .le 5, 3) := by decide +kernel
theorem dX6_pull_35 : decode cX6_pull 35 = .ok (.iconst 0, 1) := by decide +kernel
theorem dX6_pull_36 : decode cX6_pull 36 = .ok (.ireturn, 1) := by decide +kernel
theorem dX6_pull_37 : decode cX6_pull 37 = .ok (.aload_n 0, 1) := by decide +kernel
theorem dX6_pull_38 : decode cX6_pull 38 = .ok (.invokevirtual 44, 3) := by decide +kernel
theorem dX6_pull_41 : decode cX6_pull 41 = .ok (.aload_n 0, 1) := by decide +kernel
theorem dX6_pull_42 : decode cX6_pull 42 = .ok (.iload_n 1, 1) := by decide +kernel
theorem dX6_pull_43 : decode cX6_pull 43 = .ok (.invokevirtual 76, 3) := by decide +kernel
theorem dX6_pull_46 : decode cX6_pull 46 = .ok (.ifCond .eq 11, 3) := by decide +kernel
theorem dX6_pull_49 : decode cX6_pull 49 = .ok (.aload_n 0, 1) := by decide +kernel
theorem dX6_pull_50 : decode cX6_pull 50 = .ok (.iload_n 1, 1) := by decide +kernel
theorem dX6_pull_51 : decode cX6_pull 51 = .ok (.invokevirtual 118, 3) := by decide +kernel
theorem dX6_pull_54 : decode cX6_pull 54 = .ok (.goto 4, 3) := by decide +kernel
theorem dX6_pull_57 : decode cX6_pull 57 = .ok (.iconst 0, 1) := by decide +kernel
theorem dX6_pull_58 : decode cX6_pull 58 = .ok (.istore_n 2, 1) := by decide +kernel
theorem dX6_pull_59 : decode cX6_pull 59 = .ok (.aload_n 0, 1) := by decide +kernel
theorem dX6_pull_60 : decode cX6_pull 60 = .ok (.iload_n 1, 1) := by decide +kernel
theorem dX6_pull_61 : decode cX6_pull 61 = .ok (.iconst 0, 1) := by decide +kernel
theorem dX6_pull_62 : decode cX6_pull 62 = .ok (.iconst 0, 1) := by decide +kernel
theorem dX6_pull_63 : decode cX6_pull 63 = .ok (.invokevirtual 98, 3) := by decide +kernel
theorem dX6_pull_66 : decode cX6_pull 66 = .ok (.aload_n 0, 1) := by decide +kernel
theorem dX6_pull_67 : decode cX6_pull 67 = .ok (.iload_n 1, 1) := by decide +kernel
theorem dX6_pull_68 : decode cX6_pull 68 = .ok (.iconst 5, 1) := by decide +kernel
theorem dX6_pull_69 : decode cX6_pull 69 = .ok (.iconst 0, 1) := by decide +kernel
theorem dX6_pull_70 : decode cX6_pull 70 = .ok (.invokevirtual 98, 3) := by decide +kernel
theorem dX6_pull_73 : decode cX6_pull 73 = .ok (.iload_n 2, 1) := by decide +kernel
theorem dX6_pull_74 : decode cX6_pull 74 = .ok (.ireturn, 1) := by decide +kernel
theorem dX6_fail_0 : decode cX6_fail 0 = .ok (.aload_n 0, 1) := by decide +kernel
theorem dX6_fail_1 : decode cX6_fail 1 = .ok (.iload_n 1, 1) := by decide +kernel
theorem dX6_fail_2 : decode cX6_fail 2 = .ok (.invokestatic 111, 3) := by decide +kernel
theorem dX6_fail_5 : decode cX6_fail 5 = .ok (.ifCond .ne 7, 3) := by decide +kernel
theorem dX6_fail_8 : decode cX6_fail 8 = .ok (.iconst 1, 1) := by decide +kernel
theorem dX6_fail_9 : decode cX6_fail 9 = .ok (.goto 25, 3) := by decide +kernel
theorem dX6_fail_12 : decode cX6_fail 12 = .ok (.aload_n 0, 1) := by decide +kernel
theorem dX6_fail_13 : decode cX6_fail 13 = .ok (.iload_n 1, 1) := by decide +kernel
theorem dX6_fail_14 : decode cX6_fail 14 = .ok (.invokevirtual 102, 3) := by decide +kernel
theorem dX6_fail_17 : decode cX6_fail 17 = .ok (.ifCond .eq 16, 3) := by decide +kernel
theorem dX6_fail_20 : decode cX6_fail 20 = .ok (.aload_n 0, 1) := by decide +kernel
theorem dX6_fail_21 : decode cX6_fail 21 = .ok (.iload_n 1, 1) := by decide +kernel
theorem dX6_fail_22 : decode cX6_fail 22 = .ok (.iconst 4, 1) := by decide +kernel
theorem dX6_fail_23 : decode cX6_fail 23 = .ok (.invokevirtual 33, 3) := by decide +kernel
theorem dX6_fail_26 : decode cX6_fail 26 = .ok (.ifCond .ne 7, 3) := by decide +kernel
theorem dX6_fail_29 : decode cX6_fail 29 = .ok (.iconst 0, 1) := by decide +kernel
theorem dX6_fail_30 : decode cX6_fail 30 = .ok (.goto 4, 3) := by decide +kernel
theorem dX6_fail_33 : decode cX6_fail 33 = .ok (.iconst 2, 1) := by decide +kernel
theorem dX6_fail_34 : decode cX6_fail 34 = .ok (.putfield 25, 3) := by decide +kernel
theorem dX6_fail_37 : decode cX6_fail 37 = .ok (.aload_n 0, 1) := by decide +kernel
theorem dX6_fail_38 : decode cX6_fail 38 = .ok (.getfield 25, 3) := by decide +kernel
theorem dX6_fail_41 : decode cX6_fail 41 = .ok (.ifCond .le 5, 3) := by decide +kernel
theorem dX6_fail_44 : decode cX6_fail 44 = .ok (.iconst 0, 1) := by decide +kernel
theorem dX6_fail_45 : decode cX6_fail 45 = .ok (.ireturn, 1) := by decide +kernel
theorem dX6_fail_46 : decode cX6_fail 46 = .ok (.aload_n 0, 1) := by decide +kernel
theorem dX6_fail_47 : decode cX6_fail 47 = .ok (.invokevirtual 44, 3) := by decide +kernel
theorem dX6_fail_50 : decode cX6_fail 50 = .ok (.aload_n 0, 1) := by decide +kernel
theorem dX6_fail_51 : decode cX6_fail 51 = .ok (.iload_n 1, 1) := by decide +kernel
theorem dX6_fail_52 : decode cX6_fail 52 = .ok (.invokevirtual 76, 3) := by decide +kernel
theorem dX6_fail_55 : decode cX6_fail 55 = .ok (.ifCond .eq 11, 3) := by decide +kernel
theorem dX6_fail_58 : decode cX6_fail 58 = .ok (.aload_n 0, 1) := by decide +kernel
theorem dX6_fail_59 : decode cX6_fail 59 = .ok (.iload_n 1, 1) := by decide +kernel
theorem dX6_fail_60 : decode cX6_fail 60 = .ok (.invokevirtual 118, 3) := by decide +kernel
theorem dX6_fail_63 : decode cX6_fail 63 = .ok (.goto 4, 3) := by decide +kernel
theorem dX6_fail_66 : decode cX6_fail 66 = .ok (.iconst 0, 1) := by decide +kernel
theorem dX6_fail_67 : decode cX6_fail 67 = .ok (.istore_n 2, 1) := by decide +kernel
theorem dX6_fail_68 : decode cX6_fail 68 = .ok (.aload_n 0, 1) := by decide +kernel
theorem dX6_fail_69 : decode cX6_fail 69 = .ok (.iload_n 1, 1) := by decide +kernel
theorem dX6_fail_70 : decode cX6_fail 70 = .ok (.iconst 4, 1) := by decide +kernel
theorem dX6_fail_71 : decode cX6_fail 71 = .ok (.iconst 1, 1) := by decide +kernel
theorem dX6_fail_72 : decode cX6_fail 72 = .ok (.invokevirtual 98, 3) := by decide +kernel
theorem dX6_fail_75 : decode cX6_fail 75 = .ok (.iload_n 2, 1) := by decide +kernel
theorem dX6_fail_76 : decode cX6_fail 76 = .ok (.ireturn, 1) := by decide +kernel
theorem dX6_start_0 : decode cX6_start 0 = .ok (.aload_n 0, 1) := by decide +kernel
theorem dX6_start_1 : decode cX6_start 1 = .ok (.aload_n 0, 1) := by decide +kernel
theorem dX6_start_2 : decode cX6_start 2 = .ok (.aload_n 0, 1) := by decide +kernel
theorem dX6_start_3 : decode cX6_start 3 = .ok (.getfield 7, 3) := by decide +kernel
theorem dX6_start_6 : decode cX6_start 6 = .ok (.bipush 46, 2) := by decide +kernel
theorem dX6_start_8 : decode cX6_start 8 = .ok (.iaload, 1) := by decide +kernel
theorem dX6_start_9 : decode cX6_start 9 = .ok (.invokevirtual 121, 3) := by decide +kernel
theorem dX6_start_12 : decode cX6_start 12 = .ok (.ifCond .ne 7, 3) := by decide +kernel
theorem dX6_start_15 : decode cX6_start 15 = .ok (.iconst 0, 1) := by decide +kernel
theorem dX6_start_16 : decode cX6_start 16 = .ok (.goto 4, 3) := by decide +kernel
theorem dX6_start_19 : decode cX6_start 19 = .ok (.iconst 1, 1) := by decide +kernel
theorem dX6_start_20 : decode cX6_start 20 = .ok (.putfield 25, 3) := by decide +kernel
theorem dX6_start_23 : decode cX6_start 23 = .ok (.aload_n 0, 1) := by decide +kernel
theorem dX6_start_24 : decode cX6_start 24 = .ok (.getfield 25, 3) := by decide +kernel
theorem dX6_start_27 : decode cX6_start 27 = .ok (.ifCond .le 5, 3) := by decide +kernel
theorem dX6_start_30 : decode cX6_start 30 = .ok (.iconst 0, 1) := by decide +kernel
theorem dX6_start_31 : decode cX6_start 31 = .ok (.ireturn, 1) := by decide +kernel
theorem dX6_start_32 : decode cX6_start 32 = .ok (.aload_n 0, 1) := by decide +kernel
theorem dX6_start_33 : decode cX6_start 33 = .ok (.invokevirtual 44, 3) := by decide +kernel
theorem dX6_start_36 : decode cX6_start 36 = .ok (.aload_n 0, 1) := by decide +kernel
theorem dX6_start_37 : decode cX6_start 37 = .ok (.aload_n 0, 1) := by decide +kernel
theorem dX6_start_38 : decode cX6_start 38 = .ok (.getfield 7, 3) := by decide +kernel
theorem dX6_start_41 : decode cX6_start 41 = .ok (.bipush 46, 2) := by decide +kernel
theorem dX6_start_43 : decode cX6_start 43 = .ok (.iaload, 1) := by decide +kernel
theorem dX6_start_44 : decode cX6_start 44 = .ok (.invokevirtual 124, 3) := by decide +kernel
theorem dX6_start_47 : decode cX6_start 47 = .ok (.aload_n 0, 1) := by decide +kernel
theorem dX6_start_48 : decode cX6_start 48 = .ok (.getfield 7, 3) := by decide +kernel
theorem dX6_start_51 : decode cX6_start 51 = .ok (.bipush 45, 2) := by decide +kernel
theorem dX6_start_53 : decode cX6_start 53 = .ok (.dup2, 1) := by decide +kernel
theorem dX6_start_54 : decode cX6_start 54 = .ok (.iaload, 1) := by decide +kernel
theorem dX6_start_55 : decode cX6_start 55 = .ok (.iconst 1, 1) := by decide +kernel
theorem dX6_start_56 : decode cX6_start 56 = .ok (.iadd, 1) := by decide +kernel
theorem dX6_start_57 : decode cX6_start 57 = .ok (.iastore, 1) := by decide +kernel
theorem dX6_start_58 : decode cX6_start 58 = .ok (.aload_n 0, 1) := by decide +kernel
theorem dX6_start_59 : decode cX6_start 59 = .ok (.invokevirtual 55, 3) := by decide +kernel
theorem dX6_start_62 : decode cX6_start 62 = .ok (.ireturn, 1) := by decide +kernel
theorem dX6_stop_0 : decode cX6_stop 0 = .ok (.aload_n 0, 1) := by decide +kernel
theorem dX6_stop_1 : decode cX6_stop 1 = .ok (.aload_n 0, 1) := by decide +kernel
theorem dX6_stop_2 : decode cX6_stop 2 = .ok (.getfield 7, 3) := by decide +kernel
theorem dX6_stop_5 : decode cX6_stop 5 = .ok (.bipush 40, 2) := by decide +kernel
theorem dX6_stop_7 : decode cX6_stop 7 = .ok (.iaload, 1) := by decide +kernel
theorem dX6_stop_8 : decode cX6_stop 8 = .ok (.iconst (-1), 1) := by decide +kernel
theorem dX6_stop_9 : decode cX6_stop 9 = .ok (.if_icmp .ne 7, 3) := by decide +kernel
theorem dX6_stop_12 : decode cX6_stop 12 = .ok (.iconst 1, 1) := by decide +kernel
theorem dX6_stop_13 : decode cX6_stop 13 = .ok (.goto 4, 3) := by decide +kernel
theorem dX6_stop_16 : decode cX6_stop 16 = .ok (.iconst 0, 1) := by decide +kernel
theorem dX6_stop_17 : decode cX6_stop 17 = .ok (.putfield 25, 3) := by decide +kernel
theorem dX6_stop_20 : decode cX6_stop 20 = .ok (.aload_n 0, 1) := by decide +kernel
theorem dX6_stop_21 : decode cX6_stop 21 = .ok (.getfield 25, 3) := by decide +kernel
theorem dX6_stop_24 : decode cX6_stop 24 = .ok (.ifCond .le 5, 3) := by decide +kernel
theorem dX6_stop_27 : decode cX6_stop 27 = .ok (.iconst 0, 1) := by decide +kernel
theorem dX6_stop_28 : decode cX6_stop 28 = .ok (.ireturn, 1) := by decide +kernel
theorem dX6_stop_29 : decode cX6_stop 29 = .ok (.aload_n 0, 1) := by decide +kernel
theorem dX6_stop_30 : decode cX6_stop 30 = .ok (.invokevirtual 44, 3) := by decide +kernel
theorem dX6_stop_33 : decode cX6_stop 33 = .ok (.aload_n 0, 1) := by decide +kernel
theorem dX6_stop_34 : decode cX6_stop 34 = .ok (.invokevirtual 55, 3) := by decide +kernel
theorem dX6_stop_37 : decode cX6_stop 37 = .ok (.istore_n 1, 1) := by decide +kernel
theorem dX6_stop_38 : decode cX6_stop 38 = .ok (.aload_n 0, 1) := by decide +kernel
theorem dX6_stop_39 : decode cX6_stop 39 = .ok (.invokevirtual 108, 3) := by decide +kernel
theorem dX6_stop_42 : decode cX6_stop 42 = .ok (.iload_n 1, 1) := by decide +kernel
theorem dX6_stop_43 : decode cX6_stop 43 = .ok (.ireturn, 1) := by decide +kernel
theorem dX6_write_0 : decode cX6_write 0 = .ok (.aload_n 0, 1) := by decide +kernel
theorem dX6_write_1 : decode cX6_write 1 = .ok (.aload_n 0, 1) := by decide +kernel
theorem dX6_write_2 : decode cX6_write 2 = .ok (.iload_n 1, 1) := by decide +kernel
theorem dX6_write_3 : decode cX6_write 3 = .ok (.invokevirtual 128, 3) := by decide +kernel
theorem dX6_write_6 : decode cX6_write 6 = .ok (.ifCond .ne 7, 3) := by decide +kernel
theorem dX6_write_9 : decode cX6_write 9 = .ok (.iconst 1, 1) := by decide +kernel
theorem dX6_write_10 : decode cX6_write 10 = .ok (.goto 30, 3) := by decide +kernel
theorem dX6_write_13 : decode cX6_write 13 = .ok (.iload_n 2, 1) := by decide +kernel
theorem dX6_write_14 : decode cX6_write 14 = .ok (.iconst 0, 1) := by decide +kernel
theorem dX6_write_15 : decode cX6_write 15 = .ok (.bipush 99, 2) := by decide +kernel
theorem dX6_write_17 : decode cX6_write 17 = .ok (.invokestatic 29, 3) := by decide +kernel
theorem dX6_write_20 : decode cX6_write 20 = .ok (.ifCond .ne 7, 3) := by decide +kernel
theorem dX6_write_23 : decode cX6_write 23 = .ok (.iconst 2, 1) := by decide +kernel
theorem dX6_write_24 : decode cX6_write 24 = .ok (.goto 16, 3) := by decide +kernel
theorem dX6_write_27 : decode cX6_write 27 = .ok (.aload_n 0, 1) := by decide +kernel
theorem dX6_write_28 : decode cX6_write 28 = .ok (.iload_n 1, 1) := by decide +kernel
theorem dX6_write_29 : decode cX6_write 29 = .ok (.invokevirtual 131, 3) := by decide +kernel
theorem dX6_write_32 : decode cX6_write 32 = .ok (.ifCond .eq 7, 3) := by decide +kernel
theorem dX6_write_35 : decode cX6_write 35 = .ok (.iconst 0, 1) := by decide +kernel
theorem dX6_write_36 : decode cX6_write 36 = .ok (.goto 4, 3) := by decide +kernel
theorem dX6_write_39 : decode cX6_write 39 = .ok (.iconst 3, 1) := by decide +kernel
theorem dX6_write_40 : decode cX6_write 40 = .ok (.putfield 25, 3) := by decide +kernel
theorem dX6_write_43 : decode cX6_write 43 = .ok (.aload_n 0, 1) := by decide +kernel
theorem dX6_write_44 : decode cX6_write 44 = .ok (.getfield 25, 3) := by decide +kernel
theorem dX6_write_47 : decode cX6_write 47 = .ok (.ifCond .le 5, 3) := by decide +kernel
theorem dX6_write_50 : decode cX6_write 50 = .ok (.iconst 0, 1) := by decide +kernel
theorem dX6_write_51 : decode cX6_write 51 = .ok (.ireturn, 1) := by decide +kernel
theorem dX6_write_52 : decode cX6_write 52 = .ok (.aload_n 0, 1) := by decide +kernel
theorem dX6_write_53 : decode cX6_write 53 = .ok (.invokevirtual 44, 3) := by decide +kernel
theorem dX6_write_56 : decode cX6_write 56 = .ok (.aload_n 0, 1) := by decide +kernel
theorem dX6_write_57 : decode cX6_write 57 = .ok (.iload_n 1, 1) := by decide +kernel
theorem dX6_write_58 : decode cX6_write 58 = .ok (.invokevirtual 134, 3) := by decide +kernel
theorem dX6_write_61 : decode cX6_write 61 = .ok (.istore_n 3, 1) := by decide +kernel
theorem dX6_write_62 : decode cX6_write 62 = .ok (.aload_n 0, 1) := by decide +kernel
theorem dX6_write_63 : decode cX6_write 63 = .ok (.getfield 7, 3) := by decide +kernel
theorem dX6_write_66 : decode cX6_write 66 = .ok (.bipush 48, 2) := by decide +kernel
theorem dX6_write_68 : decode cX6_write 68 = .ok (.bipush 12, 2) := by decide +kernel
theorem dX6_write_70 : decode cX6_write 70 = .ok (.aload_n 0, 1) := by decide +kernel
theorem dX6_write_71 : decode cX6_write 71 = .ok (.iload_n 1, 1) := by decide +kernel
theorem dX6_write_72 : decode cX6_write 72 = .ok (.invokevirtual 73, 3) := by decide +kernel
theorem dX6_write_75 : decode cX6_write 75 = .ok (.imul, 1) := by decide +kernel
theorem dX6_write_76 : decode cX6_write 76 = .ok (.iadd, 1) := by decide +kernel
theorem dX6_write_77 : decode cX6_write 77 = .ok (.aload_n 0, 1) := by decide +kernel
theorem dX6_write_78 : decode cX6_write 78 = .ok (.iload_n 1, 1) := by decide +kernel
theorem dX6_write_79 : decode cX6_write 79 = .ok (.invokevirtual 83, 3) := by decide +kernel
theorem dX6_write_82 : decode cX6_write 82 = .ok (.iadd, 1) := by decide +kernel
theorem dX6_write_83 : decode cX6_write 83 = .ok (.iload_n 2, 1) := by decide +kernel
theorem dX6_write_84 : decode cX6_write 84 = .ok (.iastore, 1) := by decide +kernel
theorem dX6_write_85 : decode cX6_write 85 = .ok (.aload_n 0, 1) := by decide +kernel
theorem dX6_write_86 : decode cX6_write 86 = .ok (.getfield 7, 3) := by decide +kernel
theorem dX6_write_89 : decode cX6_write 89 = .ok (.bipush 40, 2) := by decide +kernel
theorem dX6_write_91 : decode cX6_write 91 = .ok (.iaload, 1) := by decide +kernel
theorem dX6_write_92 : decode cX6_write 92 = .ok (.iconst 2, 1) := by decide +kernel
theorem dX6_write_93 : decode cX6_write 93 = .ok (.if_icmp .ne 26, 3) := by decide +kernel
theorem dX6_write_96 : decode cX6_write 96 = .ok (.aload_n 0, 1) := by decide +kernel
theorem dX6_write_97 : decode cX6_write 97 = .ok (.getfield 7, 3) := by decide +kernel
theorem dX6_write_100 : decode cX6_write 100 = .ok (.bipush 48, 2) := by decide +kernel
theorem dX6_write_102 : decode cX6_write 102 = .ok (.bipush 12, 2) := by decide +kernel
theorem dX6_write_104 : decode cX6_write 104 = .ok (.aload_n 0, 1) := by decide +kernel
theorem dX6_write_105 : decode cX6_write 105 = .ok (.iload_n 1, 1) := by decide +kernel
theorem dX6_write_106 : decode cX6_write 106 = .ok (.invokevirtual 80, 3) := by decide +kernel
theorem dX6_write_109 : decode cX6_write 109 = .ok (.imul, 1) := by decide +kernel
theorem dX6_write_110 : decode cX6_write 110 = .ok (.iadd, 1) := by decide +kernel
theorem dX6_write_111 : decode cX6_write 111 = .ok (.aload_n 0, 1) := by decide +kernel
theorem dX6_write_112 : decode cX6_write 112 = .ok (.iload_n 1, 1) := by decide +kernel
theorem dX6_write_113 : decode cX6_write 113 = .ok (.invokevirtual 86, 3) := by decide +kernel
theorem dX6_write_116 : decode cX6_write 116 = .ok (.iadd, 1) := by decide +kernel
theorem dX6_write_117 : decode cX6_write 117 = .ok (.iload_n 2, 1) := by decide +kernel
theorem dX6_write_118 : decode cX6_write 118 = .ok (.iastore, 1) := by decide +kernel
theorem dX6_write_119 : decode cX6_write 119 = .ok (.iload_n 3, 1) := by decide +kernel
theorem dX6_write_120 : decode cX6_write 120 = .ok (.ireturn, 1) := by decide +kernel
theorem dX6_rankOf_0 : decode cX6_rankOf 0 = .ok (.aload_n 0, 1) := by decide +kernel
theorem dX6_rankOf_1 : decode cX6_rankOf 1 = .ok (.iload_n 1, 1) := by decide +kernel
theorem dX6_rankOf_2 : decode cX6_rankOf 2 = .ok (.iconst 2, 1) := by decide +kernel
theorem dX6_rankOf_3 : decode cX6_rankOf 3 = .ok (.invokevirtual 33, 3) := by decide +kernel
theorem dX6_rankOf_6 : decode cX6_rankOf 6 = .ok (.iconst 2, 1) := by decide +kernel
theorem dX6_rankOf_7 : decode cX6_rankOf 7 = .ok (.if_icmp .ne 9, 3) := by decide +kernel
theorem dX6_rankOf_10 : decode cX6_rankOf 10 = .ok (.iload_n 2, 1) := by decide +kernel
theorem dX6_rankOf_11 : decode cX6_rankOf 11 = .ok (.iconst 2, 1) := by decide +kernel
theorem dX6_rankOf_12 : decode cX6_rankOf 12 = .ok (.irem, 1) := by decide +kernel
theorem dX6_rankOf_13 : decode cX6_rankOf 13 = .ok (.goto 4, 3) := by decide +kernel
theorem dX6_rankOf_16 : decode cX6_rankOf 16 = .ok (.iconst 0, 1) := by decide +kernel
theorem dX6_rankOf_17 : decode cX6_rankOf 17 = .ok (.ireturn, 1) := by decide +kernel
theorem dX6_freeFrom_0 : decode cX6_freeFrom 0 = .ok (.aload_n 0, 1) := by decide +kernel
theorem dX6_freeFrom_1 : decode cX6_freeFrom 1 = .ok (.iload_n 1, 1) := by decide +kernel
theorem dX6_freeFrom_2 : decode cX6_freeFrom 2 = .ok (.invokevirtual 89, 3) := by decide +kernel
theorem dX6_freeFrom_5 : decode cX6_freeFrom 5 = .ok (.istore_n 2, 1) := by decide +kernel
theorem dX6_freeFrom_6 : decode cX6_freeFrom 6 = .ok (.aload_n 0, 1) := by decide +kernel
theorem dX6_freeFrom_7 : decode cX6_freeFrom 7 = .ok (.iload_n 2, 1) := by decide +kernel
theorem dX6_freeFrom_8 : decode cX6_freeFrom 8 = .ok (.bipush 6, 2) := by decide +kernel
theorem dX6_freeFrom_10 : decode cX6_freeFrom 10 = .ok (.aload_n 0, 1) := by decide +kernel
theorem dX6_freeFrom_11 : decode cX6_freeFrom 11 = .ok (.iload_n 2, 1) := by decide +kernel
theorem dX6_freeFrom_12 : decode cX6_freeFrom 12 = .ok (.aload_n 0, 1) := by decide +kernel
theorem dX6_freeFrom_13 : decode cX6_freeFrom 13 = .ok (.iload_n 1, 1) := by decide +kernel
theorem dX6_freeFrom_14 : decode cX6_freeFrom 14 = .ok (.invokevirtual 92, 3) := by decide +kernel
theorem dX6_freeFrom_17 : decode cX6_freeFrom 17 = .ok (.invokevirtual 137, 3) := by decide +kernel
theorem dX6_freeFrom_20 : decode cX6_freeFrom 20 = .ok (.iadd, 1) := by decide +kernel
theorem dX6_freeFrom_21 : decode cX6_freeFrom 21 = .ok (.invokevirtual 33, 3) := by decide +kernel
theorem dX6_freeFrom_24 : decode cX6_freeFrom 24 = .ok (.ireturn, 1) := by decide +kernel
theorem dX6_waitFor_0 : decode cX6_waitFor 0 = .ok (.iload_n 1, 1) := by decide +kernel
theorem dX6_waitFor_1 : decode cX6_waitFor 1 = .ok (.aload_n 0, 1) := by decide +kernel
theorem dX6_waitFor_2 : decode cX6_waitFor 2 = .ok (.getfield 7, 3) := by decide +kernel
theorem dX6_waitFor_5 : decode cX6_waitFor 5 = .ok (.bipush 41, 2) := by decide +kernel
theorem dX6_waitFor_7 : decode cX6_waitFor 7 = .ok (.iaload, 1) := by decide +kernel
theorem dX6_waitFor_8 : decode cX6_waitFor 8 = .ok (.if_icmp .le 30, 3) := by decide +kernel
theorem dX6_waitFor_11 : decode cX6_waitFor 11 = .ok (.aload_n 0, 1) := by decide +kernel
theorem dX6_waitFor_12 : decode cX6_waitFor 12 = .ok (.getfield 7, 3) := by decide +kernel
theorem dX6_waitFor_15 : decode cX6_waitFor 15 = .ok (.bipush 44, 2) := by decide +kernel
theorem dX6_waitFor_17 : decode cX6_waitFor 17 = .ok (.dup2, 1) := by decide +kernel
theorem dX6_waitFor_18 : decode cX6_waitFor 18 = .ok (.iaload, 1) := by decide +kernel
theorem dX6_waitFor_19 : decode cX6_waitFor 19 = .ok (.iload_n 1, 1) := by decide +kernel
theorem dX6_waitFor_20 : decode cX6_waitFor 20 = .ok (.aload_n 0, 1) := by decide +kernel
theorem dX6_waitFor_21 : decode cX6_waitFor 21 = .ok (.getfield 7, 3) := by decide +kernel
theorem dX6_waitFor_24 : decode cX6_waitFor 24 = .ok (.bipush 41, 2) := by decide +kernel
theorem dX6_waitFor_26 : decode cX6_waitFor 26 = .ok (.iaload, 1) := by decide +kernel
theorem dX6_waitFor_27 : decode cX6_waitFor 27 = .ok (.isub, 1) := by decide +kernel
theorem dX6_waitFor_28 : decode cX6_waitFor 28 = .ok (.iadd, 1) := by decide +kernel
theorem dX6_waitFor_29 : decode cX6_waitFor 29 = .ok (.iastore, 1) := by decide +kernel
theorem dX6_waitFor_30 : decode cX6_waitFor 30 = .ok (.aload_n 0, 1) := by decide +kernel
theorem dX6_waitFor_31 : decode cX6_waitFor 31 = .ok (.getfield 7, 3) := by decide +kernel
theorem dX6_waitFor_34 : decode cX6_waitFor 34 = .ok (.bipush 41, 2) := by decide +kernel
theorem dX6_waitFor_36 : decode cX6_waitFor 36 = .ok (.iload_n 1, 1) := by decide +kernel
theorem dX6_waitFor_37 : decode cX6_waitFor 37 = .ok (.iastore, 1) := by decide +kernel
theorem dX6_waitFor_38 : decode cX6_waitFor 38 = .ok (.return_, 1) := by decide +kernel
theorem dX6_readNow_0 : decode cX6_readNow 0 = .ok (.aload_n 0, 1) := by decide +kernel
theorem dX6_readNow_1 : decode cX6_readNow 1 = .ok (.iload_n 1, 1) := by decide +kernel
theorem dX6_readNow_2 : decode cX6_readNow 2 = .ok (.invokevirtual 89, 3) := by decide +kernel
theorem dX6_readNow_5 : decode cX6_readNow 5 = .ok (.istore_n 2, 1) := by decide +kernel
theorem dX6_readNow_6 : decode cX6_readNow 6 = .ok (.aload_n 0, 1) := by decide +kernel
theorem dX6_readNow_7 : decode cX6_readNow 7 = .ok (.iload_n 2, 1) := by decide +kernel
theorem dX6_readNow_8 : decode cX6_readNow 8 = .ok (.bipush 6, 2) := by decide +kernel
theorem dX6_readNow_10 : decode cX6_readNow 10 = .ok (.aload_n 0, 1) := by decide +kernel
theorem dX6_readNow_11 : decode cX6_readNow 11 = .ok (.iload_n 2, 1) := by decide +kernel
theorem dX6_readNow_12 : decode cX6_readNow 12 = .ok (.aload_n 0, 1) := by decide +kernel
theorem dX6_readNow_13 : decode cX6_readNow 13 = .ok (.iload_n 1, 1) := by decide +kernel
theorem dX6_readNow_14 : decode cX6_readNow 14 = .ok (.invokevirtual 92, 3) := by decide +kernel
theorem dX6_readNow_17 : decode cX6_readNow 17 = .ok (.invokevirtual 137, 3) := by decide +kernel
theorem dX6_readNow_20 : decode cX6_readNow 20 = .ok (.iadd, 1) := by decide +kernel
theorem dX6_readNow_21 : decode cX6_readNow 21 = .ok (.aload_n 0, 1) := by decide +kernel
theorem dX6_readNow_22 : decode cX6_readNow 22 = .ok (.getfield 7, 3) := by decide +kernel
theorem dX6_readNow_25 : decode cX6_readNow 25 = .ok (.bipush 41, 2) := by decide +kernel
theorem dX6_readNow_27 : decode cX6_readNow 27 = .ok (.iaload, 1) := by decide +kernel
theorem dX6_readNow_28 : decode cX6_readNow 28 = .ok (.aload_n 0, 1) := by decide +kernel
theorem dX6_readNow_29 : decode cX6_readNow 29 = .ok (.iload_n 2, 1) := by decide +kernel
theorem dX6_readNow_30 : decode cX6_readNow 30 = .ok (.iconst 3, 1) := by decide +kernel
theorem dX6_readNow_31 : decode cX6_readNow 31 = .ok (.invokevirtual 33, 3) := by decide +kernel
theorem dX6_readNow_34 : decode cX6_readNow 34 = .ok (.iadd, 1) := by decide +kernel
theorem dX6_readNow_35 : decode cX6_readNow 35 = .ok (.invokevirtual 98, 3) := by decide +kernel
theorem dX6_readNow_38 : decode cX6_readNow 38 = .ok (.aload_n 0, 1) := by decide +kernel
theorem dX6_readNow_39 : decode cX6_readNow 39 = .ok (.iload_n 2, 1) := by decide +kernel
theorem dX6_readNow_40 : decode cX6_readNow 40 = .ok (.bipush 8, 2) := by decide +kernel
theorem dX6_readNow_42 : decode cX6_readNow 42 = .ok (.aload_n 0, 1) := by decide +kernel
theorem dX6_readNow_43 : decode cX6_readNow 43 = .ok (.iload_n 2, 1) := by decide +kernel
theorem dX6_readNow_44 : decode cX6_readNow 44 = .ok (.bipush 8, 2) := by decide +kernel
theorem dX6_readNow_46 : decode cX6_readNow 46 = .ok (.invokevirtual 33, 3) := by decide +kernel
theorem dX6_readNow_49 : decode cX6_readNow 49 = .ok (.iconst 1, 1) := by decide +kernel
theorem dX6_readNow_50 : decode cX6_readNow 50 = .ok (.iadd, 1) := by decide +kernel
theorem dX6_readNow_51 : decode cX6_readNow 51 = .ok (.invokevirtual 98, 3) := by decide +kernel
theorem dX6_readNow_54 : decode cX6_readNow 54 = .ok (.aload_n 0, 1) := by decide +kernel
theorem dX6_readNow_55 : decode cX6_readNow 55 = .ok (.getfield 7, 3) := by decide +kernel
theorem dX6_readNow_58 : decode cX6_readNow 58 = .ok (.bipush 42, 2) := by decide +kernel
theorem dX6_readNow_60 : decode cX6_readNow 60 = .ok (.dup2, 1) := by decide +kernel
theorem dX6_readNow_61 : decode cX6_readNow 61 = .ok (.iaload, 1) := by decide +kernel
theorem dX6_readNow_62 : decode cX6_readNow 62 = .ok (.iconst 1, 1) := by decide +kernel
theorem dX6_readNow_63 : decode cX6_readNow 63 = .ok (.iadd, 1) := by decide +kernel
theorem dX6_readNow_64 : decode cX6_readNow 64 = .ok (.iastore, 1) := by decide +kernel
theorem dX6_readNow_65 : decode cX6_readNow 65 = .ok (.aload_n 0, 1) := by decide +kernel
theorem dX6_readNow_66 : decode cX6_readNow 66 = .ok (.iload_n 1, 1) := by decide +kernel
theorem dX6_readNow_67 : decode cX6_readNow 67 = .ok (.invokevirtual 134, 3) := by decide +kernel
theorem dX6_readNow_70 : decode cX6_readNow 70 = .ok (.ireturn, 1) := by decide +kernel
theorem dX6_doRead_0 : decode cX6_doRead 0 = .ok (.aload_n 0, 1) := by decide +kernel
theorem dX6_doRead_1 : decode cX6_doRead 1 = .ok (.aload_n 0, 1) := by decide +kernel
theorem dX6_doRead_2 : decode cX6_doRead 2 = .ok (.iload_n 1, 1) := by decide +kernel
theorem dX6_doRead_3 : decode cX6_doRead 3 = .ok (.invokevirtual 140, 3) := by decide +kernel
theorem dX6_doRead_6 : decode cX6_doRead 6 = .ok (.invokevirtual 143, 3) := by decide +kernel
theorem dX6_doRead_9 : decode cX6_doRead 9 = .ok (.aload_n 0, 1) := by decide +kernel
theorem dX6_doRead_10 : decode cX6_doRead 10 = .ok (.iload_n 1, 1) := by decide +kernel
theorem dX6_doRead_11 : decode cX6_doRead 11 = .ok (.invokevirtual 146, 3) := by decide +kernel
theorem dX6_doRead_14 : decode cX6_doRead 14 = .ok (.istore_n 2, 1) := by decide +kernel
theorem dX6_doRead_15 : decode cX6_doRead 15 = .ok (.aload_n 0, 1) := by decide +kernel
theorem dX6_doRead_16 : decode cX6_doRead 16 = .ok (.getfield 7, 3) := by decide +kernel
theorem dX6_doRead_19 : decode cX6_doRead 19 = .ok (.bipush 41, 2) := by decide +kernel
theorem dX6_doRead_21 : decode cX6_doRead 21 = .ok (.dup2, 1) := by decide +kernel
theorem dX6_doRead_22 : decode cX6_doRead 22 = .ok (.iaload, 1) := by decide +kernel
theorem dX6_doRead_23 : decode cX6_doRead 23 = .ok (.iconst 1, 1) := by decide +kernel
theorem dX6_doRead_24 : decode cX6_doRead 24 = .ok (.iadd, 1) := by decide +kernel
theorem dX6_doRead_25 : decode cX6_doRead 25 = .ok (.iastore, 1) := by decide +kernel
theorem dX6_doRead_26 : decode cX6_doRead 26 = .ok (.iload_n 2, 1) := by decide +kernel
theorem dX6_doRead_27 : decode cX6_doRead 27 = .ok (.ireturn, 1) := by decide +kernel
theorem dX6_readPair_0 : decode cX6_readPair 0 = .ok (.aload_n 0, 1) := by decide +kernel
theorem dX6_readPair_1 : decode cX6_readPair 1 = .ok (.aload_n 0, 1) := by decide +kernel
theorem dX6_readPair_2 : decode cX6_readPair 2 = .ok (.iload_n 1, 1) := by decide +kernel
theorem dX6_readPair_3 : decode cX6_readPair 3 = .ok (.invokevirtual 140, 3) := by decide +kernel
theorem dX6_readPair_6 : decode cX6_readPair 6 = .ok (.invokevirtual 143, 3) := by decide +kernel
theorem dX6_readPair_9 : decode cX6_readPair 9 = .ok (.aload_n 0, 1) := by decide +kernel
theorem dX6_readPair_10 : decode cX6_readPair 10 = .ok (.aload_n 0, 1) := by decide +kernel
theorem dX6_readPair_11 : decode cX6_readPair 11 = .ok (.iload_n 1, 1) := by decide +kernel
theorem dX6_readPair_12 : decode cX6_readPair 12 = .ok (.iconst 1, 1) := by decide +kernel
theorem dX6_readPair_13 : decode cX6_readPair 13 = .ok (.iadd, 1) := by decide +kernel
theorem dX6_readPair_14 : decode cX6_readPair 14 = .ok (.invokevirtual 140, 3) := by decide +kernel
theorem dX6_readPair_17 : decode cX6_readPair 17 = .ok (.invokevirtual 143, 3) := by decide +kernel
theorem dX6_readPair_20 : decode cX6_readPair 20 = .ok (.aload_n 0, 1) := by decide +kernel
theorem dX6_readPair_21 : decode cX6_readPair 21 = .ok (.iload_n 1, 1) := by decide +kernel
theorem dX6_readPair_22 : decode cX6_readPair 22 = .ok (.invokevirtual 146, 3) := by decide +kernel
theorem dX6_readPair_25 : decode cX6_readPair 25 = .ok (.istore_n 2, 1) := by decide +kernel
theorem dX6_readPair_26 : decode cX6_readPair 26 = .ok (.iload_n 2, 1) := by decide +kernel
theorem dX6_readPair_27 : decode cX6_readPair 27 = .ok (.aload_n 0, 1) := by decide +kernel
theorem dX6_readPair_28 : decode cX6_readPair 28 = .ok (.iload_n 1, 1) := by decide +kernel
theorem dX6_readPair_29 : decode cX6_readPair 29 = .ok (.iconst 1, 1) := by decide +kernel
theorem dX6_readPair_30 : decode cX6_readPair 30 = .ok (.iadd, 1) := by decide +kernel
theorem dX6_readPair_31 : decode cX6_readPair 31 = .ok (.invokevirtual 146, 3) := by decide +kernel
theorem dX6_readPair_34 : decode cX6_readPair 34 = .ok (.iadd, 1) := by decide +kernel
theorem dX6_readPair_35 : decode cX6_readPair 35 = .ok (.istore_n 2, 1) := by decide +kernel
theorem dX6_readPair_36 : decode cX6_readPair 36 = .ok (.aload_n 0, 1) := by decide +kernel
theorem dX6_readPair_37 : decode cX6_readPair 37 = .ok (.getfield 7, 3) := by decide +kernel
theorem dX6_readPair_40 : decode cX6_readPair 40 = .ok (.bipush 43, 2) := by decide +kernel
theorem dX6_readPair_42 : decode cX6_readPair 42 = .ok (.dup2, 1) := by decide +kernel
theorem dX6_readPair_43 : decode cX6_readPair 43 = .ok (.iaload, 1) := by decide +kernel
theorem dX6_readPair_44 : decode cX6_readPair 44 = .ok (.iconst 1, 1) := by decide +kernel
theorem dX6_readPair_45 : decode cX6_readPair 45 = .ok (.iadd, 1) := by decide +kernel
theorem dX6_readPair_46 : decode cX6_readPair 46 = .ok (.iastore, 1) := by decide +kernel
theorem dX6_readPair_47 : decode cX6_readPair 47 = .ok (.aload_n 0, 1) := by decide +kernel
theorem dX6_readPair_48 : decode cX6_readPair 48 = .ok (.getfield 7, 3) := by decide +kernel
theorem dX6_readPair_51 : decode cX6_readPair 51 = .ok (.bipush 41, 2) := by decide +kernel
theorem dX6_readPair_53 : decode cX6_readPair 53 = .ok (.dup2, 1) := by decide +kernel
theorem dX6_readPair_54 : decode cX6_readPair 54 = .ok (.iaload, 1) := by decide +kernel
theorem dX6_readPair_55 : decode cX6_readPair 55 = .ok (.iconst 1, 1) := by decide +kernel
theorem dX6_readPair_56 : decode cX6_readPair 56 = .ok (.iadd, 1) := by decide +kernel
theorem dX6_readPair_57 : decode cX6_readPair 57 = .ok (.iastore, 1) := by decide +kernel
theorem dX6_readPair_58 : decode cX6_readPair 58 = .ok (.iload_n 2, 1) := by decide +kernel
theorem dX6_readPair_59 : decode cX6_readPair 59 = .ok (.ireturn, 1) := by decide +kernel
theorem dX6_read_0 : decode cX6_read 0 = .ok (.aload_n 0, 1) := by decide +kernel
theorem dX6_read_1 : decode cX6_read 1 = .ok (.aload_n 0, 1) := by decide +kernel
theorem dX6_read_2 : decode cX6_read 2 = .ok (.iload_n 1, 1) := by decide +kernel
theorem dX6_read_3 : decode cX6_read 3 = .ok (.invokevirtual 128, 3) := by decide +kernel
theorem dX6_read_6 : decode cX6_read 6 = .ok (.ifCond .ne 7, 3) := by decide +kernel
theorem dX6_read_9 : decode cX6_read 9 = .ok (.iconst 1, 1) := by decide +kernel
theorem dX6_read_10 : decode cX6_read 10 = .ok (.goto 16, 3) := by decide +kernel
theorem dX6_read_13 : decode cX6_read 13 = .ok (.aload_n 0, 1) := by decide +kernel
theorem dX6_read_14 : decode cX6_read 14 = .ok (.iload_n 1, 1) := by decide +kernel
theorem dX6_read_15 : decode cX6_read 15 = .ok (.invokevirtual 131, 3) := by decide +kernel
theorem dX6_read_18 : decode cX6_read 18 = .ok (.ifCond .eq 7, 3) := by decide +kernel
theorem dX6_read_21 : decode cX6_read 21 = .ok (.iconst 0, 1) := by decide +kernel
theorem dX6_read_22 : decode cX6_read 22 = .ok (.goto 4, 3) := by decide +kernel
theorem dX6_read_25 : decode cX6_read 25 = .ok (.iconst 2, 1) := by decide +kernel
theorem dX6_read_26 : decode cX6_read 26 = .ok (.putfield 25, 3) := by decide +kernel
theorem dX6_read_29 : decode cX6_read 29 = .ok (.aload_n 0, 1) := by decide +kernel
theorem dX6_read_30 : decode cX6_read 30 = .ok (.getfield 25, 3) := by decide +kernel
theorem dX6_read_33 : decode cX6_read 33 = .ok (.ifCond .le 5, 3) := by decide +kernel
theorem dX6_read_36 : decode cX6_read 36 = .ok (.iconst 0, 1) := by decide +kernel
theorem dX6_read_37 : decode cX6_read 37 = .ok (.ireturn, 1) := by decide +kernel
theorem dX6_read_38 : decode cX6_read 38 = .ok (.aload_n 0, 1) := by decide +kernel
theorem dX6_read_39 : decode cX6_read 39 = .ok (.invokevirtual 44, 3) := by decide +kernel
theorem dX6_read_42 : decode cX6_read 42 = .ok (.aload_n 0, 1) := by decide +kernel
theorem dX6_read_43 : decode cX6_read 43 = .ok (.iload_n 1, 1) := by decide +kernel
theorem dX6_read_44 : decode cX6_read 44 = .ok (.invokevirtual 149, 3) := by decide +kernel
theorem dX6_read_47 : decode cX6_read 47 = .ok (.ireturn, 1) := by decide +kernel
theorem dX6_rest_0 : decode cX6_rest 0 = .ok (.aload_n 0, 1) := by decide +kernel
theorem dX6_rest_1 : decode cX6_rest 1 = .ok (.iload_n 1, 1) := by decide +kernel
theorem dX6_rest_2 : decode cX6_rest 2 = .ok (.iconst 1, 1) := by decide +kernel
theorem dX6_rest_3 : decode cX6_rest 3 = .ok (.bipush 99, 2) := by decide +kernel
theorem dX6_rest_5 : decode cX6_rest 5 = .ok (.invokestatic 29, 3) := by decide +kernel
theorem dX6_rest_8 : decode cX6_rest 8 = .ok (.ifCond .eq 7, 3) := by decide +kernel
theorem dX6_rest_11 : decode cX6_rest 11 = .ok (.iconst 0, 1) := by decide +kernel
theorem dX6_rest_12 : decode cX6_rest 12 = .ok (.goto 4, 3) := by decide +kernel
theorem dX6_rest_15 : decode cX6_rest 15 = .ok (.iconst 1, 1) := by decide +kernel
theorem dX6_rest_16 : decode cX6_rest 16 = .ok (.putfield 25, 3) := by decide +kernel
theorem dX6_rest_19 : decode cX6_rest 19 = .ok (.aload_n 0, 1) := by decide +kernel
theorem dX6_rest_20 : decode cX6_rest 20 = .ok (.getfield 25, 3) := by decide +kernel
theorem dX6_rest_23 : decode cX6_rest 23 = .ok (.ifCond .le 5, 3) := by decide +kernel
theorem dX6_rest_26 : decode cX6_rest 26 = .ok (.iconst 0, 1) := by decide +kernel
theorem dX6_rest_27 : decode cX6_rest 27 = .ok (.ireturn, 1) := by decide +kernel
theorem dX6_rest_28 : decode cX6_rest 28 = .ok (.aload_n 0, 1) := by decide +kernel
theorem dX6_rest_29 : decode cX6_rest 29 = .ok (.invokevirtual 44, 3) := by decide +kernel
theorem dX6_rest_32 : decode cX6_rest 32 = .ok (.aload_n 0, 1) := by decide +kernel
theorem dX6_rest_33 : decode cX6_rest 33 = .ok (.getfield 7, 3) := by decide +kernel
theorem dX6_rest_36 : decode cX6_rest 36 = .ok (.bipush 41, 2) := by decide +kernel
theorem dX6_rest_38 : decode cX6_rest 38 = .ok (.dup2, 1) := by decide +kernel
theorem dX6_rest_39 : decode cX6_rest 39 = .ok (.iaload, 1) := by decide +kernel
theorem dX6_rest_40 : decode cX6_rest 40 = .ok (.iload_n 1, 1) := by decide +kernel
theorem dX6_rest_41 : decode cX6_rest 41 = .ok (.iadd, 1) := by decide +kernel
theorem dX6_rest_42 : decode cX6_rest 42 = .ok (.iastore, 1) := by decide +kernel
theorem dX6_rest_43 : decode cX6_rest 43 = .ok (.aload_n 0, 1) := by decide +kernel
theorem dX6_rest_44 : decode cX6_rest 44 = .ok (.getfield 7, 3) := by decide +kernel
theorem dX6_rest_47 : decode cX6_rest 47 = .ok (.bipush 41, 2) := by decide +kernel
theorem dX6_rest_49 : decode cX6_rest 49 = .ok (.iaload, 1) := by decide +kernel
theorem dX6_rest_50 : decode cX6_rest 50 = .ok (.ireturn, 1) := by decide +kernel
theorem dX6_set_0 : decode cX6_set 0 = .ok (.aload_n 0, 1) := by decide +kernel
theorem dX6_set_1 : decode cX6_set 1 = .ok (.iload_n 1, 1) := by decide +kernel
theorem dX6_set_2 : decode cX6_set 2 = .ok (.iconst 0, 1) := by decide +kernel
theorem dX6_set_3 : decode cX6_set 3 = .ok (.iconst 1, 1) := by decide +kernel
theorem dX6_set_4 : decode cX6_set 4 = .ok (.invokestatic 29, 3) := by decide +kernel
theorem dX6_set_7 : decode cX6_set 7 = .ok (.ifCond .ne 7, 3) := by decide +kernel
theorem dX6_set_10 : decode cX6_set 10 = .ok (.iconst 1, 1) := by decide +kernel
theorem dX6_set_11 : decode cX6_set 11 = .ok (.goto 19, 3) := by decide +kernel
theorem dX6_set_14 : decode cX6_set 14 = .ok (.iload_n 2, 1) := by decide +kernel
theorem dX6_set_15 : decode cX6_set 15 = .ok (.iconst 0, 1) := by decide +kernel
theorem dX6_set_16 : decode cX6_set 16 = .ok (.iconst 2, 1) := by decide +kernel
theorem dX6_set_17 : decode cX6_set 17 = .ok (.iload_n 1, 1) := by decide +kernel
theorem dX6_set_18 : decode cX6_set 18 = .ok (.isub, 1) := by decide +kernel
theorem dX6_set_19 : decode cX6_set 19 = .ok (.invokestatic 29, 3) := by decide +kernel
theorem dX6_set_22 : decode cX6_set 22 = .ok (.ifCond .eq 7, 3) := by decide +kernel
theorem dX6_set_25 : decode cX6_set 25 = .ok (.iconst 0, 1) := by decide +kernel
theorem dX6_set_26 : decode cX6_set 26 = .ok (.goto 4, 3) := by decide +kernel
theorem dX6_set_29 : decode cX6_set 29 = .ok (.iconst 2, 1) := by decide +kernel
theorem dX6_set_30 : decode cX6_set 30 = .ok (.putfield 25, 3) := by decide +kernel
theorem dX6_set_33 : decode cX6_set 33 = .ok (.aload_n 0, 1) := by decide +kernel
theorem dX6_set_34 : decode cX6_set 34 = .ok (.getfield 25, 3) := by decide +kernel
theorem dX6_set_37 : decode cX6_set 37 = .ok (.ifCond .le 5, 3) := by decide +kernel
theorem dX6_set_40 : decode cX6_set 40 = .ok (.iconst 0, 1) := by decide +kernel
theorem dX6_set_41 : decode cX6_set 41 = .ok (.ireturn, 1) := by decide +kernel
theorem dX6_set_42 : decode cX6_set 42 = .ok (.aload_n 0, 1) := by decide +kernel
theorem dX6_set_43 : decode cX6_set 43 = .ok (.invokevirtual 44, 3) := by decide +kernel
theorem dX6_set_46 : decode cX6_set 46 = .ok (.aload_n 0, 1) := by decide +kernel
theorem dX6_set_47 : decode cX6_set 47 = .ok (.getfield 7, 3) := by decide +kernel
theorem dX6_set_50 : decode cX6_set 50 = .ok (.bipush 46, 2) := by decide +kernel
theorem dX6_set_52 : decode cX6_set 52 = .ok (.iload_n 1, 1) := by decide +kernel
theorem dX6_set_53 : decode cX6_set 53 = .ok (.iadd, 1) := by decide +kernel
theorem dX6_set_54 : decode cX6_set 54 = .ok (.iaload, 1) := by decide +kernel
theorem dX6_set_55 : decode cX6_set 55 = .ok (.istore_n 3, 1) := by decide +kernel
theorem dX6_set_56 : decode cX6_set 56 = .ok (.aload_n 0, 1) := by decide +kernel
theorem dX6_set_57 : decode cX6_set 57 = .ok (.getfield 7, 3) := by decide +kernel
theorem dX6_set_60 : decode cX6_set 60 = .ok (.bipush 46, 2) := by decide +kernel
theorem dX6_set_62 : decode cX6_set 62 = .ok (.iload_n 1, 1) := by decide +kernel
theorem dX6_set_63 : decode cX6_set 63 = .ok (.iadd, 1) := by decide +kernel
theorem dX6_set_64 : decode cX6_set 64 = .ok (.iload_n 2, 1) := by decide +kernel
theorem dX6_set_65 : decode cX6_set 65 = .ok (.iastore, 1) := by decide +kernel
theorem dX6_set_66 : decode cX6_set 66 = .ok (.iload_n 3, 1) := by decide +kernel
theorem dX6_set_67 : decode cX6_set 67 = .ok (.ireturn, 1) := by decide +kernel
theorem dX6_append_0 : decode cX6_append 0 = .ok (.aload_n 0, 1) := by decide +kernel
theorem dX6_append_1 : decode cX6_append 1 = .ok (.iload_n 1, 1) := by decide +kernel
theorem dX6_append_2 : decode cX6_append 2 = .ok (.bipush 33, 2) := by decide +kernel
theorem dX6_append_4 : decode cX6_append 4 = .ok (.bipush 126, 2) := by decide +kernel
theorem dX6_append_6 : decode cX6_append 6 = .ok (.invokestatic 29, 3) := by decide +kernel
theorem dX6_append_9 : decode cX6_append 9 = .ok (.ifCond .ne 7, 3) := by decide +kernel
theorem dX6_append_12 : decode cX6_append 12 = .ok (.iconst 1, 1) := by decide +kernel
theorem dX6_append_13 : decode cX6_append 13 = .ok (.goto 17, 3) := by decide +kernel
theorem dX6_append_16 : decode cX6_append 16 = .ok (.aload_n 0, 1) := by decide +kernel
theorem dX6_append_17 : decode cX6_append 17 = .ok (.getfield 152, 3) := by decide +kernel
theorem dX6_append_20 : decode cX6_append 20 = .ok (.bipush 60, 2) := by decide +kernel
theorem dX6_append_22 : decode cX6_append 22 = .ok (.if_icmp .ne 7, 3) := by decide +kernel
theorem dX6_append_25 : decode cX6_append 25 = .ok (.iconst 2, 1) := by decide +kernel
theorem dX6_append_26 : decode cX6_append 26 = .ok (.goto 4, 3) := by decide +kernel
theorem dX6_append_29 : decode cX6_append 29 = .ok (.iconst 0, 1) := by decide +kernel
theorem dX6_append_30 : decode cX6_append 30 = .ok (.putfield 25, 3) := by decide +kernel
theorem dX6_append_33 : decode cX6_append 33 = .ok (.aload_n 0, 1) := by decide +kernel
theorem dX6_append_34 : decode cX6_append 34 = .ok (.getfield 25, 3) := by decide +kernel
theorem dX6_append_37 : decode cX6_append 37 = .ok (.ifCond .le 5, 3) := by decide +kernel
theorem dX6_append_40 : decode cX6_append 40 = .ok (.iconst 0, 1) := by decide +kernel
theorem dX6_append_41 : decode cX6_append 41 = .ok (.ireturn, 1) := by decide +kernel
theorem dX6_append_42 : decode cX6_append 42 = .ok (.aload_n 0, 1) := by decide +kernel
theorem dX6_append_43 : decode cX6_append 43 = .ok (.getfield 22, 3) := by decide +kernel
theorem dX6_append_46 : decode cX6_append 46 = .ok (.aload_n 0, 1) := by decide +kernel
theorem dX6_append_47 : decode cX6_append 47 = .ok (.getfield 152, 3) := by decide +kernel
theorem dX6_append_50 : decode cX6_append 50 = .ok (.iload_n 1, 1) := by decide +kernel
theorem dX6_append_51 : decode cX6_append 51 = .ok (.iastore, 1) := by decide +kernel
theorem dX6_append_52 : decode cX6_append 52 = .ok (.aload_n 0, 1) := by decide +kernel
theorem dX6_append_53 : decode cX6_append 53 = .ok (.dup, 1) := by decide +kernel
theorem dX6_append_54 : decode cX6_append 54 = .ok (.getfield 152, 3) := by decide +kernel
theorem dX6_append_57 : decode cX6_append 57 = .ok (.iconst 1, 1) := by decide +kernel
theorem dX6_append_58 : decode cX6_append 58 = .ok (.iadd, 1) := by decide +kernel
theorem dX6_append_59 : decode cX6_append 59 = .ok (.putfield 152, 3) := by decide +kernel
theorem dX6_append_62 : decode cX6_append 62 = .ok (.aload_n 0, 1) := by decide +kernel
theorem dX6_append_63 : decode cX6_append 63 = .ok (.getfield 152, 3) := by decide +kernel
theorem dX6_append_66 : decode cX6_append 66 = .ok (.ireturn, 1) := by decide +kernel
theorem dX6_clearBuffer_0 : decode cX6_clearBuffer 0 = .ok (.aload_n 0, 1) := by decide +kernel
theorem dX6_clearBuffer_1 : decode cX6_clearBuffer 1 = .ok (.iconst 0, 1) := by decide +kernel
theorem dX6_clearBuffer_2 : decode cX6_clearBuffer 2 = .ok (.putfield 25, 3) := by decide +kernel
theorem dX6_clearBuffer_5 : decode cX6_clearBuffer 5 = .ok (.aload_n 0, 1) := by decide +kernel
theorem dX6_clearBuffer_6 : decode cX6_clearBuffer 6 = .ok (.getfield 152, 3) := by decide +kernel
theorem dX6_clearBuffer_9 : decode cX6_clearBuffer 9 = .ok (.istore_n 1, 1) := by decide +kernel
theorem dX6_clearBuffer_10 : decode cX6_clearBuffer 10 = .ok (.aload_n 0, 1) := by decide +kernel
theorem dX6_clearBuffer_11 : decode cX6_clearBuffer 11 = .ok (.iconst 0, 1) := by decide +kernel
theorem dX6_clearBuffer_12 : decode cX6_clearBuffer 12 = .ok (.putfield 152, 3) := by decide +kernel
theorem dX6_clearBuffer_15 : decode cX6_clearBuffer 15 = .ok (.iload_n 1, 1) := by decide +kernel
theorem dX6_clearBuffer_16 : decode cX6_clearBuffer 16 = .ok (.ireturn, 1) := by decide +kernel
theorem dX6_at_0 : decode cX6_at 0 = .ok (.iload_n 1, 1) := by decide +kernel
theorem dX6_at_1 : decode cX6_at 1 = .ok (.aload_n 0, 1) := by decide +kernel
theorem dX6_at_2 : decode cX6_at 2 = .ok (.getfield 152, 3) := by decide +kernel
theorem dX6_at_5 : decode cX6_at 5 = .ok (.if_icmp .ge 12, 3) := by decide +kernel
theorem dX6_at_8 : decode cX6_at 8 = .ok (.aload_n 0, 1) := by decide +kernel
theorem dX6_at_9 : decode cX6_at 9 = .ok (.getfield 22, 3) := by decide +kernel
theorem dX6_at_12 : decode cX6_at 12 = .ok (.iload_n 1, 1) := by decide +kernel
theorem dX6_at_13 : decode cX6_at 13 = .ok (.iaload, 1) := by decide +kernel
theorem dX6_at_14 : decode cX6_at 14 = .ok (.goto 4, 3) := by decide +kernel
theorem dX6_at_17 : decode cX6_at 17 = .ok (.iconst 0, 1) := by decide +kernel
theorem dX6_at_18 : decode cX6_at 18 = .ok (.ireturn, 1) := by decide +kernel
theorem dX6_takeBlock_0 : decode cX6_takeBlock 0 = .ok (.aload_n 0, 1) := by decide +kernel
theorem dX6_takeBlock_1 : decode cX6_takeBlock 1 = .ok (.iload_n 1, 1) := by decide +kernel
theorem dX6_takeBlock_2 : decode cX6_takeBlock 2 = .ok (.invokevirtual 155, 3) := by decide +kernel
theorem dX6_takeBlock_5 : decode cX6_takeBlock 5 = .ok (.bipush 48, 2) := by decide +kernel
theorem dX6_takeBlock_7 : decode cX6_takeBlock 7 = .ok (.isub, 1) := by decide +kernel
theorem dX6_takeBlock_8 : decode cX6_takeBlock 8 = .ok (.istore_n 2, 1) := by decide +kernel
theorem dX6_takeBlock_9 : decode cX6_takeBlock 9 = .ok (.iload_n 2, 1) := by decide +kernel
theorem dX6_takeBlock_10 : decode cX6_takeBlock 10 = .ok (.iconst 0, 1) := by decide +kernel
theorem dX6_takeBlock_11 : decode cX6_takeBlock 11 = .ok (.bipush 9, 2) := by decide +kernel
theorem dX6_takeBlock_13 : decode cX6_takeBlock 13 = .ok (.invokestatic 29, 3) := by decide +kernel
theorem dX6_takeBlock_16 : decode cX6_takeBlock 16 = .ok (.ifCond .ne 7, 3) := by decide +kernel
theorem dX6_takeBlock_19 : decode cX6_takeBlock 19 = .ok (.iconst (-1), 1) := by decide +kernel
theorem dX6_takeBlock_20 : decode cX6_takeBlock 20 = .ok (.iload_n 1, 1) := by decide +kernel
theorem dX6_takeBlock_21 : decode cX6_takeBlock 21 = .ok (.isub, 1) := by decide +kernel
theorem dX6_takeBlock_22 : decode cX6_takeBlock 22 = .ok (.ireturn, 1) := by decide +kernel
theorem dX6_takeBlock_23 : decode cX6_takeBlock 23 = .ok (.aload_n 0, 1) := by decide +kernel
theorem dX6_takeBlock_24 : decode cX6_takeBlock 24 = .ok (.iload_n 1, 1) := by decide +kernel
theorem dX6_takeBlock_25 : decode cX6_takeBlock 25 = .ok (.iconst 1, 1) := by decide +kernel
theorem dX6_takeBlock_26 : decode cX6_takeBlock 26 = .ok (.iadd, 1) := by decide +kernel
theorem dX6_takeBlock_27 : decode cX6_takeBlock 27 = .ok (.invokevirtual 155, 3) := by decide +kernel
theorem dX6_takeBlock_30 : decode cX6_takeBlock 30 = .ok (.bipush 48, 2) := by decide +kernel
theorem dX6_takeBlock_32 : decode cX6_takeBlock 32 = .ok (.isub, 1) := by decide +kernel
theorem dX6_takeBlock_33 : decode cX6_takeBlock 33 = .ok (.istore_n 3, 1) := by decide +kernel
theorem dX6_takeBlock_34 : decode cX6_takeBlock 34 = .ok (.iload_n 2, 1) := by decide +kernel
theorem dX6_takeBlock_35 : decode cX6_takeBlock 35 = .ok (.ifCond .le 28, 3) := by decide +kernel
theorem dX6_takeBlock_38 : decode cX6_takeBlock 38 = .ok (.iload_n 3, 1) := by decide +kernel
theorem dX6_takeBlock_39 : decode cX6_takeBlock 39 = .ok (.iconst 0, 1) := by decide +kernel
theorem dX6_takeBlock_40 : decode cX6_takeBlock 40 = .ok (.bipush 9, 2) := by decide +kernel
theorem dX6_takeBlock_42 : decode cX6_takeBlock 42 = .ok (.invokestatic 29, 3) := by decide +kernel
theorem dX6_takeBlock_45 : decode cX6_takeBlock 45 = .ok (.ifCond .eq 18, 3) := by decide +kernel
theorem dX6_takeBlock_48 : decode cX6_takeBlock 48 = .ok (.bipush 10, 2) := by decide +kernel
theorem dX6_takeBlock_50 : decode cX6_takeBlock 50 = .ok (.iload_n 2, 1) := by decide +kernel
theorem dX6_takeBlock_51 : decode cX6_takeBlock 51 = .ok (.imul, 1) := by decide +kernel
theorem dX6_takeBlock_52 : decode cX6_takeBlock 52 = .ok (.iload_n 3, 1) := by decide +kernel
theorem dX6_takeBlock_53 : decode cX6_takeBlock 53 = .ok (.iadd, 1) := by decide +kernel
theorem dX6_takeBlock_54 : decode cX6_takeBlock 54 = .ok (.bipush 47, 2) := by decide +kernel
theorem dX6_takeBlock_56 : decode cX6_takeBlock 56 = .ok (.if_icmp .gt 7, 3) := by decide +kernel
theorem dX6_takeBlock_59 : decode cX6_takeBlock 59 = .ok (.iconst 1, 1) := by decide +kernel
theorem dX6_takeBlock_60 : decode cX6_takeBlock 60 = .ok (.goto 4, 3) := by decide +kernel
theorem dX6_takeBlock_63 : decode cX6_takeBlock 63 = .ok (.iconst 0, 1) := by decide +kernel
theorem dX6_takeBlock_64 : decode cX6_takeBlock 64 = .ok (.istore 4, 2) := by decide +kernel
theorem dX6_takeBlock_66 : decode cX6_takeBlock 66 = .ok (.aload_n 0, 1) := by decide +kernel
theorem dX6_takeBlock_67 : decode cX6_takeBlock 67 = .ok (.iload 4, 2) := by decide +kernel
theorem dX6_takeBlock_69 : decode cX6_takeBlock 69 = .ok (.ifCond .eq 12, 3) := by decide +kernel
theorem dX6_takeBlock_72 : decode cX6_takeBlock 72 = .ok (.bipush 10, 2) := by decide +kernel
theorem dX6_takeBlock_74 : decode cX6_takeBlock 74 = .ok (.iload_n 2, 1) := by decide +kernel
theorem dX6_takeBlock_75 : decode cX6_takeBlock 75 = .ok (.imul, 1) := by decide +kernel
theorem dX6_takeBlock_76 : decode cX6_takeBlock 76 = .ok (.iload_n 3, 1) := by decide +kernel
theorem dX6_takeBlock_77 : decode cX6_takeBlock 77 = .ok (.iadd, 1) := by decide +kernel
theorem dX6_takeBlock_78 : decode cX6_takeBlock 78 = .ok (.goto 4, 3) := by decide +kernel
theorem dX6_takeBlock_81 : decode cX6_takeBlock 81 = .ok (.iload_n 2, 1) := by decide +kernel
theorem dX6_takeBlock_82 : decode cX6_takeBlock 82 = .ok (.putfield 158, 3) := by decide +kernel
theorem dX6_takeBlock_85 : decode cX6_takeBlock 85 = .ok (.iload 4, 2) := by decide +kernel
theorem dX6_takeBlock_87 : decode cX6_takeBlock 87 = .ok (.ifCond .eq 9, 3) := by decide +kernel
theorem dX6_takeBlock_90 : decode cX6_takeBlock 90 = .ok (.iload_n 1, 1) := by decide +kernel
theorem dX6_takeBlock_91 : decode cX6_takeBlock 91 = .ok (.iconst 2, 1) := by decide +kernel
theorem dX6_takeBlock_92 : decode cX6_takeBlock 92 = .ok (.iadd, 1) := by decide +kernel
theorem dX6_takeBlock_93 : decode cX6_takeBlock 93 = .ok (.goto 6, 3) := by decide +kernel
theorem dX6_takeBlock_96 : decode cX6_takeBlock 96 = .ok (.iload_n 1, 1) := by decide +kernel
theorem dX6_takeBlock_97 : decode cX6_takeBlock 97 = .ok (.iconst 1, 1) := by decide +kernel
theorem dX6_takeBlock_98 : decode cX6_takeBlock 98 = .ok (.iadd, 1) := by decide +kernel
theorem dX6_takeBlock_99 : decode cX6_takeBlock 99 = .ok (.ireturn, 1) := by decide +kernel
theorem dX6_takePart_0 : decode cX6_takePart 0 = .ok (.aload_n 0, 1) := by decide +kernel
theorem dX6_takePart_1 : decode cX6_takePart 1 = .ok (.iload_n 1, 1) := by decide +kernel
theorem dX6_takePart_2 : decode cX6_takePart 2 = .ok (.invokevirtual 161, 3) := by decide +kernel
theorem dX6_takePart_5 : decode cX6_takePart 5 = .ok (.istore_n 2, 1) := by decide +kernel
theorem dX6_takePart_6 : decode cX6_takePart 6 = .ok (.aload_n 0, 1) := by decide +kernel
theorem dX6_takePart_7 : decode cX6_takePart 7 = .ok (.aload_n 0, 1) := by decide +kernel
theorem dX6_takePart_8 : decode cX6_takePart 8 = .ok (.getfield 158, 3) := by decide +kernel
theorem dX6_takePart_11 : decode cX6_takePart 11 = .ok (.putfield 164, 3) := by decide +kernel
theorem dX6_takePart_14 : decode cX6_takePart 14 = .ok (.iload_n 2, 1) := by decide +kernel
theorem dX6_takePart_15 : decode cX6_takePart 15 = .ok (.ifCond .lt 23, 3) := by decide +kernel
theorem dX6_takePart_18 : decode cX6_takePart 18 = .ok (.aload_n 0, 1) := by decide +kernel
theorem dX6_takePart_19 : decode cX6_takePart 19 = .ok (.iload_n 2, 1) := by decide +kernel
theorem dX6_takePart_20 : decode cX6_takePart 20 = .ok (.invokevirtual 155, 3) := by decide +kernel
theorem dX6_takePart_23 : decode cX6_takePart 23 = .ok (.bipush 45, 2) := by decide +kernel
theorem dX6_takePart_25 : decode cX6_takePart 25 = .ok (.if_icmp .ne 13, 3) := by decide +kernel
theorem dX6_takePart_28 : decode cX6_takePart 28 = .ok (.aload_n 0, 1) := by decide +kernel
theorem dX6_takePart_29 : decode cX6_takePart 29 = .ok (.iload_n 2, 1) := by decide +kernel
theorem dX6_takePart_30 : decode cX6_takePart 30 = .ok (.iconst 1, 1) := by decide +kernel
theorem dX6_takePart_31 : decode cX6_takePart 31 = .ok (.iadd, 1) := by decide +kernel
theorem dX6_takePart_32 : decode cX6_takePart 32 = .ok (.invokevirtual 161, 3) := by decide +kernel
theorem dX6_takePart_35 : decode cX6_takePart 35 = .ok (.goto 4, 3) := by decide +kernel
theorem dX6_takePart_38 : decode cX6_takePart 38 = .ok (.iload_n 2, 1) := by decide +kernel
theorem dX6_takePart_39 : decode cX6_takePart 39 = .ok (.ireturn, 1) := by decide +kernel
theorem dX6_findError_0 : decode cX6_findError 0 = .ok (.iconst 0, 1) := by decide +kernel
theorem dX6_findError_1 : decode cX6_findError 1 = .ok (.istore_n 1, 1) := by decide +kernel
theorem dX6_findError_2 : decode cX6_findError 2 = .ok (.aload_n 0, 1) := by decide +kernel
theorem dX6_findError_3 : decode cX6_findError 3 = .ok (.iload_n 1, 1) := by decide +kernel
theorem dX6_findError_4 : decode cX6_findError 4 = .ok (.invokevirtual 167, 3) := by decide +kernel
theorem dX6_findError_7 : decode cX6_findError 7 = .ok (.istore_n 1, 1) := by decide +kernel
theorem dX6_findError_8 : decode cX6_findError 8 = .ok (.iload_n 1, 1) := by decide +kernel
theorem dX6_findError_9 : decode cX6_findError 9 = .ok (.ifCond .ge 7, 3) := by decide +kernel
theorem dX6_findError_12 : decode cX6_findError 12 = .ok (.iconst (-1), 1) := by decide +kernel
theorem dX6_findError_13 : decode cX6_findError 13 = .ok (.iload_n 1, 1) := by decide +kernel
theorem dX6_findError_14 : decode cX6_findError 14 = .ok (.isub, 1) := by decide +kernel
theorem dX6_findError_15 : decode cX6_findError 15 = .ok (.ireturn, 1) := by decide +kernel
theorem dX6_findError_16 : decode cX6_findError 16 = .ok (.iload_n 1, 1) := by decide +kernel
theorem dX6_findError_17 : decode cX6_findError 17 = .ok (.aload_n 0, 1) := by decide +kernel
theorem dX6_findError_18 : decode cX6_findError 18 = .ok (.getfield 152, 3) := by decide +kernel
theorem dX6_findError_21 : decode cX6_findError 21 = .ok (.if_icmp .ne 5, 3) := by decide +kernel
theorem dX6_findError_24 : decode cX6_findError 24 = .ok (.iconst (-1), 1) := by decide +kernel
theorem dX6_findError_25 : decode cX6_findError 25 = .ok (.ireturn, 1) := by decide +kernel
theorem dX6_findError_26 : decode cX6_findError 26 = .ok (.aload_n 0, 1) := by decide +kernel
theorem dX6_findError_27 : decode cX6_findError 27 = .ok (.getfield 22, 3) := by decide +kernel
theorem dX6_findError_30 : decode cX6_findError 30 = .ok (.iload_n 1, 1) := by decide +kernel
theorem dX6_findError_31 : decode cX6_findError 31 = .ok (.iaload, 1) := by decide +kernel
theorem dX6_findError_32 : decode cX6_findError 32 = .ok (.bipush 44, 2) := by decide +kernel
theorem dX6_findError_34 : decode cX6_findError 34 = .ok (.if_icmp .eq 5, 3) := by decide +kernel
theorem dX6_findError_37 : decode cX6_findError 37 = .ok (.iload_n 1, 1) := by decide +kernel
theorem dX6_findError_38 : decode cX6_findError 38 = .ok (.ireturn, 1) := by decide +kernel
theorem dX6_findError_39 : decode cX6_findError 39 = .ok (.iinc 1 1, 3) := by decide +kernel
theorem dX6_findError_42 : decode cX6_findError 42 = .ok (.goto (-40), 3) := by decide +kernel
theorem dX6_firstError_0 : decode cX6_firstError 0 = .ok (.aload_n 0, 1) := by decide +kernel
theorem dX6_firstError_1 : decode cX6_firstError 1 = .ok (.iconst 0, 1) := by decide +kernel
theorem dX6_firstError_2 : decode cX6_firstError 2 = .ok (.putfield 25, 3) := by decide +kernel
theorem dX6_firstError_5 : decode cX6_firstError 5 = .ok (.aload_n 0, 1) := by decide +kernel
theorem dX6_firstError_6 : decode cX6_firstError 6 = .ok (.invokevirtual 170, 3) := by decide +kernel
theorem dX6_firstError_9 : decode cX6_firstError 9 = .ok (.istore_n 1, 1) := by decide +kernel
theorem dX6_firstError_10 : decode cX6_firstError 10 = .ok (.iload_n 1, 1) := by decide +kernel
theorem dX6_firstError_11 : decode cX6_firstError 11 = .ok (.ifCond .ge 10, 3) := by decide +kernel
theorem dX6_firstError_14 : decode cX6_firstError 14 = .ok (.aload_n 0, 1) := by decide +kernel
theorem dX6_firstError_15 : decode cX6_firstError 15 = .ok (.getfield 152, 3) := by decide +kernel
theorem dX6_firstError_18 : decode cX6_firstError 18 = .ok (.goto 4, 3) := by decide +kernel
theorem dX6_firstError_21 : decode cX6_firstError 21 = .ok (.iload_n 1, 1) := by decide +kernel
theorem dX6_firstError_22 : decode cX6_firstError 22 = .ok (.ireturn, 1) := by decide +kernel
theorem dX6_areRising_0 : decode cX6_areRising 0 = .ok (.iconst 1, 1) := by decide +kernel
theorem dX6_areRising_1 : decode cX6_areRising 1 = .ok (.istore_n 1, 1) := by decide +kernel
theorem dX6_areRising_2 : decode cX6_areRising 2 = .ok (.iconst 0, 1) := by decide +kernel
theorem dX6_areRising_3 : decode cX6_areRising 3 = .ok (.istore_n 2, 1) := by decide +kernel
theorem dX6_areRising_4 : decode cX6_areRising 4 = .ok (.iload_n 2, 1) := by decide +kernel
theorem dX6_areRising_5 : decode cX6_areRising 5 = .ok (.aload_n 0, 1) := by decide +kernel
theorem dX6_areRising_6 : decode cX6_areRising 6 = .ok (.getfield 152, 3) := by decide +kernel
theorem dX6_areRising_9 : decode cX6_areRising 9 = .ok (.if_icmp .ge 36, 3) := by decide +kernel
theorem dX6_areRising_12 : decode cX6_areRising 12 = .ok (.aload_n 0, 1) := by decide +kernel
theorem dX6_areRising_13 : decode cX6_areRising 13 = .ok (.iload_n 2, 1) := by decide +kernel
theorem dX6_areRising_14 : decode cX6_areRising 14 = .ok (.invokevirtual 167, 3) := by decide +kernel
theorem dX6_areRising_17 : decode cX6_areRising 17 = .ok (.istore_n 2, 1) := by decide +kernel
theorem dX6_areRising_18 : decode cX6_areRising 18 = .ok (.iload_n 1, 1) := by decide +kernel
theorem dX6_areRising_19 : decode cX6_areRising 19 = .ok (.ifCond .eq 18, 3) := by decide +kernel
theorem dX6_areRising_22 : decode cX6_areRising 22 = .ok (.aload_n 0, 1) := by decide +kernel
theorem dX6_areRising_23 : decode cX6_areRising 23 = .ok (.getfield 164, 3) := by decide +kernel
theorem dX6_areRising_26 : decode cX6_areRising 26 = .ok (.aload_n 0, 1) := by decide +kernel
theorem dX6_areRising_27 : decode cX6_areRising 27 = .ok (.getfield 158, 3) := by decide +kernel
theorem dX6_areRising_30 : decode cX6_areRising 30 = .ok (.if_icmp .gt 7, 3) := by decide +kernel
theorem dX6_areRising_33 : decode cX6_areRising 33 = .ok (.iconst 1, 1) := by decide +kernel
theorem dX6_areRising_34 : decode cX6_areRising 34 = .ok (.goto 4, 3) := by decide +kernel
theorem dX6_areRising_37 : decode cX6_areRising 37 = .ok (.iconst 0, 1) := by decide +kernel
theorem dX6_areRising_38 : decode cX6_areRising 38 = .ok (.istore_n 1, 1) := by decide +kernel
theorem dX6_areRising_39 : decode cX6_areRising 39 = .ok (.iinc 2 1, 3) := by decide +kernel
theorem dX6_areRising_42 : decode cX6_areRising 42 = .ok (.goto (-38), 3) := by decide +kernel
theorem dX6_areRising_45 : decode cX6_areRising 45 = .ok (.iload_n 1, 1) := by decide +kernel
theorem dX6_areRising_46 : decode cX6_areRising 46 = .ok (.ireturn, 1) := by decide +kernel
theorem dX6_canRead_0 : decode cX6_canRead 0 = .ok (.aload_n 0, 1) := by decide +kernel
theorem dX6_canRead_1 : decode cX6_canRead 1 = .ok (.iload_n 1, 1) := by decide +kernel
theorem dX6_canRead_2 : decode cX6_canRead 2 = .ok (.invokevirtual 128, 3) := by decide +kernel
theorem dX6_canRead_5 : decode cX6_canRead 5 = .ok (.ifCond .eq 15, 3) := by decide +kernel
theorem dX6_canRead_8 : decode cX6_canRead 8 = .ok (.aload_n 0, 1) := by decide +kernel
theorem dX6_canRead_9 : decode cX6_canRead 9 = .ok (.iload_n 1, 1) := by decide +kernel
theorem dX6_canRead_10 : decode cX6_canRead 10 = .ok (.invokevirtual 131, 3) := by decide +kernel
theorem dX6_canRead_13 : decode cX6_canRead 13 = .ok (.ifCond .eq 7, 3) := by decide +kernel
theorem dX6_canRead_16 : decode cX6_canRead 16 = .ok (.iconst 1, 1) := by decide +kernel
theorem dX6_canRead_17 : decode cX6_canRead 17 = .ok (.goto 4, 3) := by decide +kernel
theorem dX6_canRead_20 : decode cX6_canRead 20 = .ok (.iconst 0, 1) := by decide +kernel
theorem dX6_canRead_21 : decode cX6_canRead 21 = .ok (.ireturn, 1) := by decide +kernel
theorem dX6_run_0 : decode cX6_run 0 = .ok (.aload_n 0, 1) := by decide +kernel
theorem dX6_run_1 : decode cX6_run 1 = .ok (.aload_n 0, 1) := by decide +kernel
theorem dX6_run_2 : decode cX6_run 2 = .ok (.invokevirtual 170, 3) := by decide +kernel
theorem dX6_run_5 : decode cX6_run 5 = .ok (.ifCond .ge 14, 3) := by decide +kernel
theorem dX6_run_8 : decode cX6_run 8 = .ok (.aload_n 0, 1) := by decide +kernel
theorem dX6_run_9 : decode cX6_run 9 = .ok (.invokevirtual 173, 3) := by decide +kernel
theorem dX6_run_12 : decode cX6_run 12 = .ok (.ifCond .eq 7, 3) := by decide +kernel
theorem dX6_run_15 : decode cX6_run 15 = .ok (.iconst 0, 1) := by decide +kernel
theorem dX6_run_16 : decode cX6_run 16 = .ok (.goto 4, 3) := by decide +kernel
theorem dX6_run_19 : decode cX6_run 19 = .ok (.iconst 1, 1) := by decide +kernel
theorem dX6_run_20 : decode cX6_run 20 = .ok (.putfield 25, 3) := by decide +kernel
theorem dX6_run_23 : decode cX6_run 23 = .ok (.aload_n 0, 1) := by decide +kernel
theorem dX6_run_24 : decode cX6_run 24 = .ok (.getfield 25, 3) := by decide +kernel
theorem dX6_run_27 : decode cX6_run 27 = .ok (.ifCond .le 5, 3) := by decide +kernel
theorem dX6_run_30 : decode cX6_run 30 = .ok (.iconst 0, 1) := by decide +kernel
theorem dX6_run_31 : decode cX6_run 31 = .ok (.ireturn, 1) := by decide +kernel
theorem dX6_run_32 : decode cX6_run 32 = .ok (.aload_n 0, 1) := by decide +kernel
theorem dX6_run_33 : decode cX6_run 33 = .ok (.invokevirtual 44, 3) := by decide +kernel
theorem dX6_run_36 : decode cX6_run 36 = .ok (.iconst 0, 1) := by decide +kernel
theorem dX6_run_37 : decode cX6_run 37 = .ok (.istore_n 1, 1) := by decide +kernel
theorem dX6_run_38 : decode cX6_run 38 = .ok (.iconst 1, 1) := by decide +kernel
theorem dX6_run_39 : decode cX6_run 39 = .ok (.istore_n 2, 1) := by decide +kernel
theorem dX6_run_40 : decode cX6_run 40 = .ok (.iconst 0, 1) := by decide +kernel
theorem dX6_run_41 : decode cX6_run 41 = .ok (.istore_n 3, 1) := by decide +kernel
theorem dX6_run_42 : decode cX6_run 42 = .ok (.iload_n 3, 1) := by decide +kernel
theorem dX6_run_43 : decode cX6_run 43 = .ok (.aload_n 0, 1) := by decide +kernel
theorem dX6_run_44 : decode cX6_run 44 = .ok (.getfield 152, 3) := by decide +kernel
theorem dX6_run_47 : decode cX6_run 47 = .ok (.if_icmp .ge 149, 3) := by decide +kernel
theorem dX6_run_50 : decode cX6_run 50 = .ok (.iload_n 2, 1) := by decide +kernel
theorem dX6_run_51 : decode cX6_run 51 = .ok (.ifCond .eq 145, 3) := by decide +kernel
theorem dX6_run_54 : decode cX6_run 54 = .ok (.aload_n 0, 1) := by decide +kernel
theorem dX6_run_55 : decode cX6_run 55 = .ok (.iload_n 3, 1) := by decide +kernel
theorem dX6_run_56 : decode cX6_run 56 = .ok (.invokevirtual 167, 3) := by decide +kernel
theorem dX6_run_59 : decode cX6_run 59 = .ok (.istore_n 3, 1) := by decide +kernel
theorem dX6_run_60 : decode cX6_run 60 = .ok (.aload_n 0, 1) := by decide +kernel
theorem dX6_run_61 : decode cX6_run 61 = .ok (.getfield 164, 3) := by decide +kernel
theorem dX6_run_64 : decode cX6_run 64 = .ok (.istore 4, 2) := by decide +kernel
theorem dX6_run_66 : decode cX6_run 66 = .ok (.aload_n 0, 1) := by decide +kernel
theorem dX6_run_67 : decode cX6_run 67 = .ok (.getfield 158, 3) := by decide +kernel
theorem dX6_run_70 : decode cX6_run 70 = .ok (.istore 5, 2) := by decide +kernel
theorem dX6_run_72 : decode cX6_run 72 = .ok (.iload_n 2, 1) := by decide +kernel
theorem dX6_run_73 : decode cX6_run 73 = .ok (.ifCond .eq 117, 3) := by decide +kernel
theorem dX6_run_76 : decode cX6_run 76 = .ok (.iload 4, 2) := by decide +kernel
theorem dX6_run_78 : decode cX6_run 78 = .ok (.iload 5, 2) := by decide +kernel
theorem dX6_run_80 : decode cX6_run 80 = .ok (.if_icmp .gt 110, 3) := by decide +kernel
theorem dX6_run_83 : decode cX6_run 83 = .ok (.aload_n 0, 1) := by decide +kernel
theorem dX6_run_84 : decode cX6_run 84 = .ok (.getfield 7, 3) := by decide +kernel
theorem dX6_run_87 : decode cX6_run 87 = .ok (.bipush 47, 2) := by decide +kernel
theorem dX6_run_89 : decode cX6_run 89 = .ok (.iaload, 1) := by decide +kernel
theorem dX6_run_90 : decode cX6_run 90 = .ok (.iconst 1, 1) := by decide +kernel
theorem dX6_run_91 : decode cX6_run 91 = .ok (.if_icmp .ne 50, 3) := by decide +kernel
theorem dX6_run_94 : decode cX6_run 94 = .ok (.iload 4, 2) := by decide +kernel
theorem dX6_run_96 : decode cX6_run 96 = .ok (.iconst 2, 1) := by decide +kernel
theorem dX6_run_97 : decode cX6_run 97 = .ok (.irem, 1) := by decide +kernel
theorem dX6_run_98 : decode cX6_run 98 = .ok (.ifCond .ne 43, 3) := by decide +kernel
theorem dX6_run_101 : decode cX6_run 101 = .ok (.iload 4, 2) := by decide +kernel
theorem dX6_run_103 : decode cX6_run 103 = .ok (.aload_n 0, 1) := by decide +kernel
theorem dX6_run_104 : decode cX6_run 104 = .ok (.invokevirtual 58, 3) := by decide +kernel
theorem dX6_run_107 : decode cX6_run 107 = .ok (.if_icmp .ge 34, 3) := by decide +kernel
theorem dX6_run_110 : decode cX6_run 110 = .ok (.iload 4, 2) := by decide +kernel
theorem dX6_run_112 : decode cX6_run 112 = .ok (.iload 5, 2) := by decide +kernel
theorem dX6_run_114 : decode cX6_run 114 = .ok (.if_icmp .ge 27, 3) := by decide +kernel
theorem dX6_run_117 : decode cX6_run 117 = .ok (.aload_n 0, 1) := by decide +kernel
theorem dX6_run_118 : decode cX6_run 118 = .ok (.iload 4, 2) := by decide +kernel
theorem dX6_run_120 : decode cX6_run 120 = .ok (.invokevirtual 177, 3) := by decide +kernel
theorem dX6_run_123 : decode cX6_run 123 = .ok (.ifCond .eq 18, 3) := by decide +kernel
theorem dX6_run_126 : decode cX6_run 126 = .ok (.aload_n 0, 1) := by decide +kernel
theorem dX6_run_127 : decode cX6_run 127 = .ok (.iload 4, 2) := by decide +kernel
theorem dX6_run_129 : decode cX6_run 129 = .ok (.iconst 1, 1) := by decide +kernel
theorem dX6_run_130 : decode cX6_run 130 = .ok (.iadd, 1) := by decide +kernel
theorem dX6_run_131 : decode cX6_run 131 = .ok (.invokevirtual 177, 3) := by decide +kernel
theorem dX6_run_134 : decode cX6_run 134 = .ok (.ifCond .eq 7, 3) := by decide +kernel
theorem dX6_run_137 : decode cX6_run 137 = .ok (.iconst 1, 1) := by decide +kernel
theorem dX6_run_138 : decode cX6_run 138 = .ok (.goto 4, 3) := by decide +kernel
theorem dX6_run_141 : decode cX6_run 141 = .ok (.iconst 0, 1) := by decide +kernel
theorem dX6_run_142 : decode cX6_run 142 = .ok (.istore 6, 2) := by decide +kernel
theorem dX6_run_144 : decode cX6_run 144 = .ok (.aload_n 0, 1) := by decide +kernel
theorem dX6_run_145 : decode cX6_run 145 = .ok (.iload 4, 2) := by decide +kernel
theorem dX6_run_147 : decode cX6_run 147 = .ok (.invokevirtual 177, 3) := by decide +kernel
theorem dX6_run_150 : decode cX6_run 150 = .ok (.istore_n 2, 1) := by decide +kernel
theorem dX6_run_151 : decode cX6_run 151 = .ok (.iload 6, 2) := by decide +kernel
theorem dX6_run_153 : decode cX6_run 153 = .ok (.ifCond .eq 18, 3) := by decide +kernel
theorem dX6_run_156 : decode cX6_run 156 = .ok (.iload_n 1, 1) := by decide +kernel
theorem dX6_run_157 : decode cX6_run 157 = .ok (.aload_n 0, 1) := by decide +kernel
theorem dX6_run_158 : decode cX6_run 158 = .ok (.iload 4, 2) := by decide +kernel
theorem dX6_run_160 : decode cX6_run 160 = .ok (.invokevirtual 180, 3) := by decide +kernel
theorem dX6_run_163 : decode cX6_run 163 = .ok (.iadd, 1) := by decide +kernel
theorem dX6_run_164 : decode cX6_run 164 = .ok (.istore_n 1, 1) := by decide +kernel
theorem dX6_run_165 : decode cX6_run 165 = .ok (.iinc 4 2, 3) := by decide +kernel
theorem dX6_run_168 : decode cX6_run 168 = .ok (.goto 19, 3) := by decide +kernel
theorem dX6_run_171 : decode cX6_run 171 = .ok (.iload_n 2, 1) := by decide +kernel
theorem dX6_run_172 : decode cX6_run 172 = .ok (.ifCond .eq 15, 3) := by decide +kernel
theorem dX6_run_175 : decode cX6_run 175 = .ok (.iload_n 1, 1) := by decide +kernel
theorem dX6_run_176 : decode cX6_run 176 = .ok (.aload_n 0, 1) := by decide +kernel
theorem dX6_run_177 : decode cX6_run 177 = .ok (.iload 4, 2) := by decide +kernel
theorem dX6_run_179 : decode cX6_run 179 = .ok (.invokevirtual 149, 3) := by decide +kernel
theorem dX6_run_182 : decode cX6_run 182 = .ok (.iadd, 1) := by decide +kernel
theorem dX6_run_183 : decode cX6_run 183 = .ok (.istore_n 1, 1) := by decide +kernel
theorem dX6_run_184 : decode cX6_run 184 = .ok (.iinc 4 1, 3) := by decide +kernel
theorem dX6_run_187 : decode cX6_run 187 = .ok (.goto (-115), 3) := by decide +kernel
theorem dX6_run_190 : decode cX6_run 190 = .ok (.iinc 3 1, 3) := by decide +kernel
theorem dX6_run_193 : decode cX6_run 193 = .ok (.goto (-151), 3) := by decide +kernel
theorem dX6_run_196 : decode cX6_run 196 = .ok (.aload_n 0, 1) := by decide +kernel
theorem dX6_run_197 : decode cX6_run 197 = .ok (.iconst 0, 1) := by decide +kernel
theorem dX6_run_198 : decode cX6_run 198 = .ok (.putfield 152, 3) := by decide +kernel
theorem dX6_run_201 : decode cX6_run 201 = .ok (.iload_n 1, 1) := by decide +kernel
theorem dX6_run_202 : decode cX6_run 202 = .ok (.ireturn, 1) := by decide +kernel
theorem dX6_slotNow_0 : decode cX6_slotNow 0 = .ok (.aload_n 0, 1) := by decide +kernel
theorem dX6_slotNow_1 : decode cX6_slotNow 1 = .ok (.iload_n 1, 1) := by decide +kernel
theorem dX6_slotNow_2 : decode cX6_slotNow 2 = .ok (.invokevirtual 102, 3) := by decide +kernel
theorem dX6_slotNow_5 : decode cX6_slotNow 5 = .ok (.ifCond .ne 5, 3) := by decide +kernel
theorem dX6_slotNow_8 : decode cX6_slotNow 8 = .ok (.iconst (-1), 1) := by decide +kernel
theorem dX6_slotNow_9 : decode cX6_slotNow 9 = .ok (.ireturn, 1) := by decide +kernel
theorem dX6_slotNow_10 : decode cX6_slotNow 10 = .ok (.iload_n 2, 1) := by decide +kernel
theorem dX6_slotNow_11 : decode cX6_slotNow 11 = .ok (.tableswitch 63 5 7 #[25, 33, 55], 25) := by decide +kernel
theorem dX6_slotNow_36 : decode cX6_slotNow 36 = .ok (.aload_n 0, 1) := by decide +kernel
theorem dX6_slotNow_37 : decode cX6_slotNow 37 = .ok (.iload_n 1, 1) := by decide +kernel
theorem dX6_slotNow_38 : decode cX6_slotNow 38 = .ok (.bipush 6, 2) := by decide +kernel
theorem dX6_slotNow_40 : decode cX6_slotNow 40 = .ok (.invokevirtual 33, 3) := by decide +kernel
theorem dX6_slotNow_43 : decode cX6_slotNow 43 = .ok (.ireturn, 1) := by decide +kernel
theorem dX6_slotNow_44 : decode cX6_slotNow 44 = .ok (.aload_n 0, 1) := by decide +kernel
theorem dX6_slotNow_45 : decode cX6_slotNow 45 = .ok (.iload_n 1, 1) := by decide +kernel
theorem dX6_slotNow_46 : decode cX6_slotNow 46 = .ok (.iconst 2, 1) := by decide +kernel
theorem dX6_slotNow_47 : decode cX6_slotNow 47 = .ok (.invokevirtual 33, 3) := by decide +kernel
theorem dX6_slotNow_50 : decode cX6_slotNow 50 = .ok (.iconst 2, 1) := by decide +kernel
theorem dX6_slotNow_51 : decode cX6_slotNow 51 = .ok (.if_icmp .ne 13, 3) := by decide +kernel
theorem dX6_slotNow_54 : decode cX6_slotNow 54 = .ok (.aload_n 0, 1) := by decide +kernel
theorem dX6_slotNow_55 : decode cX6_slotNow 55 = .ok (.iload_n 1, 1) := by decide +kernel
theorem dX6_slotNow_56 : decode cX6_slotNow 56 = .ok (.bipush 7, 2) := by decide +kernel
theorem dX6_slotNow_58 : decode cX6_slotNow 58 = .ok (.invokevirtual 33, 3) := by decide +kernel
theorem dX6_slotNow_61 : decode cX6_slotNow 61 = .ok (.goto 4, 3) := by decide +kernel
theorem dX6_slotNow_64 : decode cX6_slotNow 64 = .ok (.iconst (-1), 1) := by decide +kernel
theorem dX6_slotNow_65 : decode cX6_slotNow 65 = .ok (.ireturn, 1) := by decide +kernel
theorem dX6_slotNow_66 : decode cX6_slotNow 66 = .ok (.aload_n 0, 1) := by decide +kernel
theorem dX6_slotNow_67 : decode cX6_slotNow 67 = .ok (.iload_n 1, 1) := by decide +kernel
theorem dX6_slotNow_68 : decode cX6_slotNow 68 = .ok (.bipush 8, 2) := by decide +kernel
theorem dX6_slotNow_70 : decode cX6_slotNow 70 = .ok (.invokevirtual 33, 3) := by decide +kernel
theorem dX6_slotNow_73 : decode cX6_slotNow 73 = .ok (.ireturn, 1) := by decide +kernel
theorem dX6_slotNow_74 : decode cX6_slotNow 74 = .ok (.aload_n 0, 1) := by decide +kernel
theorem dX6_slotNow_75 : decode cX6_slotNow 75 = .ok (.iload_n 1, 1) := by decide +kernel
theorem dX6_slotNow_76 : decode cX6_slotNow 76 = .ok (.iconst 1, 1) := by decide +kernel
theorem dX6_slotNow_77 : decode cX6_slotNow 77 = .ok (.iload_n 2, 1) := by decide +kernel
theorem dX6_slotNow_78 : decode cX6_slotNow 78 = .ok (.iadd, 1) := by decide +kernel
theorem dX6_slotNow_79 : decode cX6_slotNow 79 = .ok (.invokevirtual 33, 3) := by decide +kernel
theorem dX6_slotNow_82 : decode cX6_slotNow 82 = .ok (.ireturn, 1) := by decide +kernel
theorem dX6_slot_0 : decode cX6_slot 0 = .ok (.aload_n 0, 1) := by decide +kernel
theorem dX6_slot_1 : decode cX6_slot 1 = .ok (.iload_n 1, 1) := by decide +kernel
theorem dX6_slot_2 : decode cX6_slot 2 = .ok (.invokestatic 111, 3) := by decide +kernel
theorem dX6_slot_5 : decode cX6_slot 5 = .ok (.ifCond .ne 7, 3) := by decide +kernel
theorem dX6_slot_8 : decode cX6_slot 8 = .ok (.iconst 1, 1) := by decide +kernel
theorem dX6_slot_9 : decode cX6_slot 9 = .ok (.goto 18, 3) := by decide +kernel
theorem dX6_slot_12 : decode cX6_slot 12 = .ok (.iload_n 2, 1) := by decide +kernel
theorem dX6_slot_13 : decode cX6_slot 13 = .ok (.iconst 0, 1) := by decide +kernel
theorem dX6_slot_14 : decode cX6_slot 14 = .ok (.bipush 7, 2) := by decide +kernel
theorem dX6_slot_16 : decode cX6_slot 16 = .ok (.invokestatic 29, 3) := by decide +kernel
theorem dX6_slot_19 : decode cX6_slot 19 = .ok (.ifCond .eq 7, 3) := by decide +kernel
theorem dX6_slot_22 : decode cX6_slot 22 = .ok (.iconst 0, 1) := by decide +kernel
theorem dX6_slot_23 : decode cX6_slot 23 = .ok (.goto 4, 3) := by decide +kernel
theorem dX6_slot_26 : decode cX6_slot 26 = .ok (.iconst 2, 1) := by decide +kernel
theorem dX6_slot_27 : decode cX6_slot 27 = .ok (.putfield 25, 3) := by decide +kernel
theorem dX6_slot_30 : decode cX6_slot 30 = .ok (.aload_n 0, 1) := by decide +kernel
theorem dX6_slot_31 : decode cX6_slot 31 = .ok (.getfield 25, 3) := by decide +kernel
theorem dX6_slot_34 : decode cX6_slot 34 = .ok (.ifCond .le 7, 3) := by decide +kernel
theorem dX6_slot_37 : decode cX6_slot 37 = .ok (.iconst 0, 1) := by decide +kernel
theorem dX6_slot_38 : decode cX6_slot 38 = .ok (.goto 9, 3) := by decide +kernel
theorem dX6_slot_41 : decode cX6_slot 41 = .ok (.aload_n 0, 1) := by decide +kernel
theorem dX6_slot_42 : decode cX6_slot 42 = .ok (.iload_n 1, 1) := by decide +kernel
theorem dX6_slot_43 : decode cX6_slot 43 = .ok (.iload_n 2, 1) := by decide +kernel
theorem dX6_slot_44 : decode cX6_slot 44 = .ok (.invokevirtual 183, 3) := by decide +kernel
theorem dX6_slot_47 : decode cX6_slot 47 = .ok (.ireturn, 1) := by decide +kernel
theorem dX6_whereNow_0 : decode cX6_whereNow 0 = .ok (.aload_n 0, 1) := by decide +kernel
theorem dX6_whereNow_1 : decode cX6_whereNow 1 = .ok (.iload_n 1, 1) := by decide +kernel
theorem dX6_whereNow_2 : decode cX6_whereNow 2 = .ok (.invokevirtual 73, 3) := by decide +kernel
theorem dX6_whereNow_5 : decode cX6_whereNow 5 = .ok (.istore_n 3, 1) := by decide +kernel
theorem dX6_whereNow_6 : decode cX6_whereNow 6 = .ok (.iload_n 2, 1) := by decide +kernel
theorem dX6_whereNow_7 : decode cX6_whereNow 7 = .ok (.tableswitch 111 0 5 #[37, 39, 45, 70, 99, 105], 37) := by decide +kernel
theorem dX6_whereNow_44 : decode cX6_whereNow 44 = .ok (.iload_n 3, 1) := by decide +kernel
theorem dX6_whereNow_45 : decode cX6_whereNow 45 = .ok (.ireturn, 1) := by decide +kernel
theorem dX6_whereNow_46 : decode cX6_whereNow 46 = .ok (.aload_n 0, 1) := by decide +kernel
theorem dX6_whereNow_47 : decode cX6_whereNow 47 = .ok (.iload_n 1, 1) := by decide +kernel
theorem dX6_whereNow_48 : decode cX6_whereNow 48 = .ok (.invokevirtual 83, 3) := by decide +kernel
theorem dX6_whereNow_51 : decode cX6_whereNow 51 = .ok (.ireturn, 1) := by decide +kernel
theorem dX6_whereNow_52 : decode cX6_whereNow 52 = .ok (.aload_n 0, 1) := by decide +kernel
theorem dX6_whereNow_53 : decode cX6_whereNow 53 = .ok (.iload_n 3, 1) := by decide +kernel
theorem dX6_whereNow_54 : decode cX6_whereNow 54 = .ok (.iconst 5, 1) := by decide +kernel
theorem dX6_whereNow_55 : decode cX6_whereNow 55 = .ok (.invokevirtual 33, 3) := by decide +kernel
theorem dX6_whereNow_58 : decode cX6_whereNow 58 = .ok (.iconst 1, 1) := by decide +kernel
theorem dX6_whereNow_59 : decode cX6_whereNow 59 = .ok (.if_icmp .ne 16, 3) := by decide +kernel
theorem dX6_whereNow_62 : decode cX6_whereNow 62 = .ok (.aload_n 0, 1) := by decide +kernel
theorem dX6_whereNow_63 : decode cX6_whereNow 63 = .ok (.iload_n 3, 1) := by decide +kernel
theorem dX6_whereNow_64 : decode cX6_whereNow 64 = .ok (.aload_n 0, 1) := by decide +kernel
theorem dX6_whereNow_65 : decode cX6_whereNow 65 = .ok (.iload_n 1, 1) := by decide +kernel
theorem dX6_whereNow_66 : decode cX6_whereNow 66 = .ok (.invokevirtual 83, 3) := by decide +kernel
theorem dX6_whereNow_69 : decode cX6_whereNow 69 = .ok (.invokevirtual 137, 3) := by decide +kernel
theorem dX6_whereNow_72 : decode cX6_whereNow 72 = .ok (.goto 4, 3) := by decide +kernel
theorem dX6_whereNow_75 : decode cX6_whereNow 75 = .ok (.iconst (-1), 1) := by decide +kernel
theorem dX6_whereNow_76 : decode cX6_whereNow 76 = .ok (.ireturn, 1) := by decide +kernel
theorem dX6_whereNow_77 : decode cX6_whereNow 77 = .ok (.aload_n 0, 1) := by decide +kernel
theorem dX6_whereNow_78 : decode cX6_whereNow 78 = .ok (.getfield 7, 3) := by decide +kernel
theorem dX6_whereNow_81 : decode cX6_whereNow 81 = .ok (.bipush 40, 2) := by decide +kernel
theorem dX6_whereNow_83 : decode cX6_whereNow 83 = .ok (.iaload, 1) := by decide +kernel
theorem dX6_whereNow_84 : decode cX6_whereNow 84 = .ok (.iconst 2, 1) := by decide +kernel
theorem dX6_whereNow_85 : decode cX6_whereNow 85 = .ok (.if_icmp .ne 7, 3) := by decide +kernel
theorem dX6_whereNow_88 : decode cX6_whereNow 88 = .ok (.iconst 2, 1) := by decide +kernel
theorem dX6_whereNow_89 : decode cX6_whereNow 89 = .ok (.goto 16, 3) := by decide +kernel
theorem dX6_whereNow_92 : decode cX6_whereNow 92 = .ok (.iload_n 1, 1) := by decide +kernel
theorem dX6_whereNow_93 : decode cX6_whereNow 93 = .ok (.aload_n 0, 1) := by decide +kernel
theorem dX6_whereNow_94 : decode cX6_whereNow 94 = .ok (.invokevirtual 58, 3) := by decide +kernel
theorem dX6_whereNow_97 : decode cX6_whereNow 97 = .ok (.if_icmp .ge 7, 3) := by decide +kernel
theorem dX6_whereNow_100 : decode cX6_whereNow 100 = .ok (.iconst 1, 1) := by decide +kernel
theorem dX6_whereNow_101 : decode cX6_whereNow 101 = .ok (.goto 4, 3) := by decide +kernel
theorem dX6_whereNow_104 : decode cX6_whereNow 104 = .ok (.iconst 0, 1) := by decide +kernel
theorem dX6_whereNow_105 : decode cX6_whereNow 105 = .ok (.ireturn, 1) := by decide +kernel
theorem dX6_whereNow_106 : decode cX6_whereNow 106 = .ok (.aload_n 0, 1) := by decide +kernel
theorem dX6_whereNow_107 : decode cX6_whereNow 107 = .ok (.iload_n 1, 1) := by decide +kernel
theorem dX6_whereNow_108 : decode cX6_whereNow 108 = .ok (.invokevirtual 80, 3) := by decide +kernel
theorem dX6_whereNow_111 : decode cX6_whereNow 111 = .ok (.ireturn, 1) := by decide +kernel
theorem dX6_whereNow_112 : decode cX6_whereNow 112 = .ok (.aload_n 0, 1) := by decide +kernel
theorem dX6_whereNow_113 : decode cX6_whereNow 113 = .ok (.iload_n 1, 1) := by decide +kernel
theorem dX6_whereNow_114 : decode cX6_whereNow 114 = .ok (.invokevirtual 86, 3) := by decide +kernel
theorem dX6_whereNow_117 : decode cX6_whereNow 117 = .ok (.ireturn, 1) := by decide +kernel
theorem dX6_whereNow_118 : decode cX6_whereNow 118 = .ok (.aload_n 0, 1) := by decide +kernel
theorem dX6_whereNow_119 : decode cX6_whereNow 119 = .ok (.iload_n 1, 1) := by decide +kernel
theorem dX6_whereNow_120 : decode cX6_whereNow 120 = .ok (.invokevirtual 131, 3) := by decide +kernel
theorem dX6_whereNow_123 : decode cX6_whereNow 123 = .ok (.ifCond .eq 7, 3) := by decide +kernel
theorem dX6_whereNow_126 : decode cX6_whereNow 126 = .ok (.iconst 1, 1) := by decide +kernel
theorem dX6_whereNow_127 : decode cX6_whereNow 127 = .ok (.goto 4, 3) := by decide +kernel
theorem dX6_whereNow_130 : decode cX6_whereNow 130 = .ok (.iconst 0, 1) := by decide +kernel
theorem dX6_whereNow_131 : decode cX6_whereNow 131 = .ok (.ireturn, 1) := by decide +kernel
theorem dX6_where_0 : decode cX6_where 0 = .ok (.aload_n 0, 1) := by decide +kernel
theorem dX6_where_1 : decode cX6_where 1 = .ok (.aload_n 0, 1) := by decide +kernel
theorem dX6_where_2 : decode cX6_where 2 = .ok (.iload_n 1, 1) := by decide +kernel
theorem dX6_where_3 : decode cX6_where 3 = .ok (.invokevirtual 128, 3) := by decide +kernel
theorem dX6_where_6 : decode cX6_where 6 = .ok (.ifCond .ne 7, 3) := by decide +kernel
theorem dX6_where_9 : decode cX6_where 9 = .ok (.iconst 1, 1) := by decide +kernel
theorem dX6_where_10 : decode cX6_where 10 = .ok (.goto 18, 3) := by decide +kernel
theorem dX6_where_13 : decode cX6_where 13 = .ok (.iload_n 2, 1) := by decide +kernel
theorem dX6_where_14 : decode cX6_where 14 = .ok (.iconst 0, 1) := by decide +kernel
theorem dX6_where_15 : decode cX6_where 15 = .ok (.bipush 6, 2) := by decide +kernel
theorem dX6_where_17 : decode cX6_where 17 = .ok (.invokestatic 29, 3) := by decide +kernel
theorem dX6_where_20 : decode cX6_where 20 = .ok (.ifCond .eq 7, 3) := by decide +kernel
theorem dX6_where_23 : decode cX6_where 23 = .ok (.iconst 0, 1) := by decide +kernel
theorem dX6_where_24 : decode cX6_where 24 = .ok (.goto 4, 3) := by decide +kernel
theorem dX6_where_27 : decode cX6_where 27 = .ok (.iconst 2, 1) := by decide +kernel
theorem dX6_where_28 : decode cX6_where 28 = .ok (.putfield 25, 3) := by decide +kernel
theorem dX6_where_31 : decode cX6_where 31 = .ok (.aload_n 0, 1) := by decide +kernel
theorem dX6_where_32 : decode cX6_where 32 = .ok (.getfield 25, 3) := by decide +kernel
theorem dX6_where_35 : decode cX6_where 35 = .ok (.ifCond .le 7, 3) := by decide +kernel
theorem dX6_where_38 : decode cX6_where 38 = .ok (.iconst 0, 1) := by decide +kernel
theorem dX6_where_39 : decode cX6_where 39 = .ok (.goto 9, 3) := by decide +kernel
theorem dX6_where_42 : decode cX6_where 42 = .ok (.aload_n 0, 1) := by decide +kernel
theorem dX6_where_43 : decode cX6_where 43 = .ok (.iload_n 1, 1) := by decide +kernel
theorem dX6_where_44 : decode cX6_where 44 = .ok (.iload_n 2, 1) := by decide +kernel
theorem dX6_where_45 : decode cX6_where 45 = .ok (.invokevirtual 186, 3) := by decide +kernel
theorem dX6_where_48 : decode cX6_where 48 = .ok (.ireturn, 1) := by decide +kernel
theorem dX6_lies_0 : decode cX6_lies 0 = .ok (.aload_n 0, 1) := by decide +kernel
theorem dX6_lies_1 : decode cX6_lies 1 = .ok (.iload_n 1, 1) := by decide +kernel
theorem dX6_lies_2 : decode cX6_lies 2 = .ok (.invokestatic 111, 3) := by decide +kernel
theorem dX6_lies_5 : decode cX6_lies 5 = .ok (.ifCond .eq 17, 3) := by decide +kernel
theorem dX6_lies_8 : decode cX6_lies 8 = .ok (.iload_n 2, 1) := by decide +kernel
theorem dX6_lies_9 : decode cX6_lies 9 = .ok (.iconst 0, 1) := by decide +kernel
theorem dX6_lies_10 : decode cX6_lies 10 = .ok (.bipush 11, 2) := by decide +kernel
theorem dX6_lies_12 : decode cX6_lies 12 = .ok (.invokestatic 29, 3) := by decide +kernel
theorem dX6_lies_15 : decode cX6_lies 15 = .ok (.ifCond .eq 7, 3) := by decide +kernel
theorem dX6_lies_18 : decode cX6_lies 18 = .ok (.iconst 0, 1) := by decide +kernel
theorem dX6_lies_19 : decode cX6_lies 19 = .ok (.goto 4, 3) := by decide +kernel
theorem dX6_lies_22 : decode cX6_lies 22 = .ok (.iconst 1, 1) := by decide +kernel
theorem dX6_lies_23 : decode cX6_lies 23 = .ok (.putfield 25, 3) := by decide +kernel
theorem dX6_lies_26 : decode cX6_lies 26 = .ok (.aload_n 0, 1) := by decide +kernel
theorem dX6_lies_27 : decode cX6_lies 27 = .ok (.getfield 25, 3) := by decide +kernel
theorem dX6_lies_30 : decode cX6_lies 30 = .ok (.ifCond .le 7, 3) := by decide +kernel
theorem dX6_lies_33 : decode cX6_lies 33 = .ok (.iconst 0, 1) := by decide +kernel
theorem dX6_lies_34 : decode cX6_lies 34 = .ok (.goto 9, 3) := by decide +kernel
theorem dX6_lies_37 : decode cX6_lies 37 = .ok (.aload_n 0, 1) := by decide +kernel
theorem dX6_lies_38 : decode cX6_lies 38 = .ok (.iload_n 1, 1) := by decide +kernel
theorem dX6_lies_39 : decode cX6_lies 39 = .ok (.iload_n 2, 1) := by decide +kernel
theorem dX6_lies_40 : decode cX6_lies 40 = .ok (.invokevirtual 95, 3) := by decide +kernel
theorem dX6_lies_43 : decode cX6_lies 43 = .ok (.ireturn, 1) := by decide +kernel
theorem dX6_lost_0 : decode cX6_lost 0 = .ok (.iconst 0, 1) := by decide +kernel
theorem dX6_lost_1 : decode cX6_lost 1 = .ok (.istore_n 1, 1) := by decide +kernel
theorem dX6_lost_2 : decode cX6_lost 2 = .ok (.iconst 0, 1) := by decide +kernel
theorem dX6_lost_3 : decode cX6_lost 3 = .ok (.istore_n 2, 1) := by decide +kernel
theorem dX6_lost_4 : decode cX6_lost 4 = .ok (.iload_n 2, 1) := by decide +kernel
theorem dX6_lost_5 : decode cX6_lost 5 = .ok (.aload_n 0, 1) := by decide +kernel
theorem dX6_lost_6 : decode cX6_lost 6 = .ok (.invokevirtual 55, 3) := by decide +kernel
theorem dX6_lost_9 : decode cX6_lost 9 = .ok (.if_icmp .ge 25, 3) := by decide +kernel
theorem dX6_lost_12 : decode cX6_lost 12 = .ok (.iload_n 1, 1) := by decide +kernel
theorem dX6_lost_13 : decode cX6_lost 13 = .ok (.aload_n 0, 1) := by decide +kernel
theorem dX6_lost_14 : decode cX6_lost 14 = .ok (.iload_n 2, 1) := by decide +kernel
theorem dX6_lost_15 : decode cX6_lost 15 = .ok (.invokevirtual 131, 3) := by decide +kernel
theorem dX6_lost_18 : decode cX6_lost 18 = .ok (.ifCond .eq 7, 3) := by decide +kernel
theorem dX6_lost_21 : decode cX6_lost 21 = .ok (.iconst 0, 1) := by decide +kernel
theorem dX6_lost_22 : decode cX6_lost 22 = .ok (.goto 4, 3) := by decide +kernel
theorem dX6_lost_25 : decode cX6_lost 25 = .ok (.iconst 1, 1) := by decide +kernel
theorem dX6_lost_26 : decode cX6_lost 26 = .ok (.iadd, 1) := by decide +kernel
theorem dX6_lost_27 : decode cX6_lost 27 = .ok (.istore_n 1, 1) := by decide +kernel
theorem dX6_lost_28 : decode cX6_lost 28 = .ok (.iinc 2 1, 3) := by decide +kernel
theorem dX6_lost_31 : decode cX6_lost 31 = .ok (.goto (-27), 3) := by decide +kernel
theorem dX6_lost_34 : decode cX6_lost 34 = .ok (.iload_n 1, 1) := by decide +kernel
theorem dX6_lost_35 : decode cX6_lost 35 = .ok (.ireturn, 1) := by decide +kernel
theorem dX6_values_0 : decode cX6_values 0 = .ok (.iconst 0, 1) := by decide +kernel
theorem dX6_values_1 : decode cX6_values 1 = .ok (.istore_n 1, 1) := by decide +kernel
theorem dX6_values_2 : decode cX6_values 2 = .ok (.iconst 0, 1) := by decide +kernel
theorem dX6_values_3 : decode cX6_values 3 = .ok (.istore_n 2, 1) := by decide +kernel
theorem dX6_values_4 : decode cX6_values 4 = .ok (.iload_n 2, 1) := by decide +kernel
theorem dX6_values_5 : decode cX6_values 5 = .ok (.aload_n 0, 1) := by decide +kernel
theorem dX6_values_6 : decode cX6_values 6 = .ok (.invokevirtual 55, 3) := by decide +kernel
theorem dX6_values_9 : decode cX6_values 9 = .ok (.if_icmp .ge 29, 3) := by decide +kernel
theorem dX6_values_12 : decode cX6_values 12 = .ok (.iload_n 1, 1) := by decide +kernel
theorem dX6_values_13 : decode cX6_values 13 = .ok (.aload_n 0, 1) := by decide +kernel
theorem dX6_values_14 : decode cX6_values 14 = .ok (.iload_n 2, 1) := by decide +kernel
theorem dX6_values_15 : decode cX6_values 15 = .ok (.invokevirtual 131, 3) := by decide +kernel
theorem dX6_values_18 : decode cX6_values 18 = .ok (.ifCond .eq 11, 3) := by decide +kernel
theorem dX6_values_21 : decode cX6_values 21 = .ok (.aload_n 0, 1) := by decide +kernel
theorem dX6_values_22 : decode cX6_values 22 = .ok (.iload_n 2, 1) := by decide +kernel
theorem dX6_values_23 : decode cX6_values 23 = .ok (.invokevirtual 134, 3) := by decide +kernel
theorem dX6_values_26 : decode cX6_values 26 = .ok (.goto 4, 3) := by decide +kernel
theorem dX6_values_29 : decode cX6_values 29 = .ok (.iconst 0, 1) := by decide +kernel
theorem dX6_values_30 : decode cX6_values 30 = .ok (.iadd, 1) := by decide +kernel
theorem dX6_values_31 : decode cX6_values 31 = .ok (.istore_n 1, 1) := by decide +kernel
theorem dX6_values_32 : decode cX6_values 32 = .ok (.iinc 2 1, 3) := by decide +kernel
theorem dX6_values_35 : decode cX6_values 35 = .ok (.goto (-31), 3) := by decide +kernel
theorem dX6_values_38 : decode cX6_values 38 = .ok (.iload_n 1, 1) := by decide +kernel
theorem dX6_values_39 : decode cX6_values 39 = .ok (.ireturn, 1) := by decide +kernel
theorem dX6_countNow_0 : decode cX6_countNow 0 = .ok (.iload_n 1, 1) := by decide +kernel
theorem dX6_countNow_1 : decode cX6_countNow 1 = .ok (.tableswitch 131 0 10 #[59, 65, 71, 76, 81, 89, 97, 105, 113, 118, 126], 59) := by decide +kernel
theorem dX6_countNow_60 : decode cX6_countNow 60 = .ok (.aload_n 0, 1) := by decide +kernel
theorem dX6_countNow_61 : decode cX6_countNow 61 = .ok (.iconst 0, 1) := by decide +kernel
theorem dX6_countNow_62 : decode cX6_countNow 62 = .ok (.invokevirtual 114, 3) := by decide +kernel
theorem dX6_countNow_65 : decode cX6_countNow 65 = .ok (.ireturn, 1) := by decide +kernel
theorem dX6_countNow_66 : decode cX6_countNow 66 = .ok (.aload_n 0, 1) := by decide +kernel
theorem dX6_countNow_67 : decode cX6_countNow 67 = .ok (.iconst 1, 1) := by decide +kernel
theorem dX6_countNow_68 : decode cX6_countNow 68 = .ok (.invokevirtual 114, 3) := by decide +kernel
theorem dX6_countNow_71 : decode cX6_countNow 71 = .ok (.ireturn, 1) := by decide +kernel
theorem dX6_countNow_72 : decode cX6_countNow 72 = .ok (.aload_n 0, 1) := by decide +kernel
theorem dX6_countNow_73 : decode cX6_countNow 73 = .ok (.invokevirtual 55, 3) := by decide +kernel
theorem dX6_countNow_76 : decode cX6_countNow 76 = .ok (.ireturn, 1) := by decide +kernel
theorem dX6_countNow_77 : decode cX6_countNow 77 = .ok (.aload_n 0, 1) := by decide +kernel
theorem dX6_countNow_78 : decode cX6_countNow 78 = .ok (.invokevirtual 58, 3) := by decide +kernel
theorem dX6_countNow_81 : decode cX6_countNow 81 = .ok (.ireturn, 1) := by decide +kernel
theorem dX6_countNow_82 : decode cX6_countNow 82 = .ok (.aload_n 0, 1) := by decide +kernel
theorem dX6_countNow_83 : decode cX6_countNow 83 = .ok (.getfield 7, 3) := by decide +kernel
theorem dX6_countNow_86 : decode cX6_countNow 86 = .ok (.bipush 41, 2) := by decide +kernel
theorem dX6_countNow_88 : decode cX6_countNow 88 = .ok (.iaload, 1) := by decide +kernel
theorem dX6_countNow_89 : decode cX6_countNow 89 = .ok (.ireturn, 1) := by decide +kernel
theorem dX6_countNow_90 : decode cX6_countNow 90 = .ok (.aload_n 0, 1) := by decide +kernel
theorem dX6_countNow_91 : decode cX6_countNow 91 = .ok (.getfield 7, 3) := by decide +kernel
theorem dX6_countNow_94 : decode cX6_countNow 94 = .ok (.bipush 42, 2) := by decide +kernel
theorem dX6_countNow_96 : decode cX6_countNow 96 = .ok (.iaload, 1) := by decide +kernel
theorem dX6_countNow_97 : decode cX6_countNow 97 = .ok (.ireturn, 1) := by decide +kernel
theorem dX6_countNow_98 : decode cX6_countNow 98 = .ok (.aload_n 0, 1) := by decide +kernel
theorem dX6_countNow_99 : decode cX6_countNow 99 = .ok (.getfield 7, 3) := by decide +kernel
theorem dX6_countNow_102 : decode cX6_countNow 102 = .ok (.bipush 43, 2) := by decide +kernel
theorem dX6_countNow_104 : decode cX6_countNow 104 = .ok (.iaload, 1) := by decide +kernel
theorem dX6_countNow_105 : decode cX6_countNow 105 = .ok (.ireturn, 1) := by decide +kernel
theorem dX6_countNow_106 : decode cX6_countNow 106 = .ok (.aload_n 0, 1) := by decide +kernel
theorem dX6_countNow_107 : decode cX6_countNow 107 = .ok (.getfield 7, 3) := by decide +kernel
theorem dX6_countNow_110 : decode cX6_countNow 110 = .ok (.bipush 44, 2) := by decide +kernel
theorem dX6_countNow_112 : decode cX6_countNow 112 = .ok (.iaload, 1) := by decide +kernel
theorem dX6_countNow_113 : decode cX6_countNow 113 = .ok (.ireturn, 1) := by decide +kernel
theorem dX6_countNow_114 : decode cX6_countNow 114 = .ok (.aload_n 0, 1) := by decide +kernel
theorem dX6_countNow_115 : decode cX6_countNow 115 = .ok (.invokevirtual 189, 3) := by decide +kernel
theorem dX6_countNow_118 : decode cX6_countNow 118 = .ok (.ireturn, 1) := by decide +kernel
theorem dX6_countNow_119 : decode cX6_countNow 119 = .ok (.aload_n 0, 1) := by decide +kernel
theorem dX6_countNow_120 : decode cX6_countNow 120 = .ok (.getfield 7, 3) := by decide +kernel
theorem dX6_countNow_123 : decode cX6_countNow 123 = .ok (.bipush 45, 2) := by decide +kernel
theorem dX6_countNow_125 : decode cX6_countNow 125 = .ok (.iaload, 1) := by decide +kernel
theorem dX6_countNow_126 : decode cX6_countNow 126 = .ok (.ireturn, 1) := by decide +kernel
theorem dX6_countNow_127 : decode cX6_countNow 127 = .ok (.aload_n 0, 1) := by decide +kernel
theorem dX6_countNow_128 : decode cX6_countNow 128 = .ok (.invokevirtual 192, 3) := by decide +kernel
theorem dX6_countNow_131 : decode cX6_countNow 131 = .ok (.ireturn, 1) := by decide +kernel
theorem dX6_countNow_132 : decode cX6_countNow 132 = .ok (.aload_n 0, 1) := by decide +kernel
theorem dX6_countNow_133 : decode cX6_countNow 133 = .ok (.getfield 37, 3) := by decide +kernel
theorem dX6_countNow_136 : decode cX6_countNow 136 = .ok (.ireturn, 1) := by decide +kernel
theorem dX6_count_0 : decode cX6_count 0 = .ok (.aload_n 0, 1) := by decide +kernel
theorem dX6_count_1 : decode cX6_count 1 = .ok (.iload_n 1, 1) := by decide +kernel
theorem dX6_count_2 : decode cX6_count 2 = .ok (.iconst 0, 1) := by decide +kernel
theorem dX6_count_3 : decode cX6_count 3 = .ok (.bipush 11, 2) := by decide +kernel
theorem dX6_count_5 : decode cX6_count 5 = .ok (.invokestatic 29, 3) := by decide +kernel
theorem dX6_count_8 : decode cX6_count 8 = .ok (.ifCond .eq 7, 3) := by decide +kernel
theorem dX6_count_11 : decode cX6_count 11 = .ok (.iconst 0, 1) := by decide +kernel
theorem dX6_count_12 : decode cX6_count 12 = .ok (.goto 4, 3) := by decide +kernel
theorem dX6_count_15 : decode cX6_count 15 = .ok (.iconst 1, 1) := by decide +kernel
theorem dX6_count_16 : decode cX6_count 16 = .ok (.putfield 25, 3) := by decide +kernel
theorem dX6_count_19 : decode cX6_count 19 = .ok (.aload_n 0, 1) := by decide +kernel
theorem dX6_count_20 : decode cX6_count 20 = .ok (.getfield 25, 3) := by decide +kernel
theorem dX6_count_23 : decode cX6_count 23 = .ok (.ifCond .le 7, 3) := by decide +kernel
theorem dX6_count_26 : decode cX6_count 26 = .ok (.iconst 0, 1) := by decide +kernel
theorem dX6_count_27 : decode cX6_count 27 = .ok (.goto 8, 3) := by decide +kernel
theorem dX6_count_30 : decode cX6_count 30 = .ok (.aload_n 0, 1) := by decide +kernel
theorem dX6_count_31 : decode cX6_count 31 = .ok (.iload_n 1, 1) := by decide +kernel
theorem dX6_count_32 : decode cX6_count 32 = .ok (.invokevirtual 195, 3) := by decide +kernel
theorem dX6_count_35 : decode cX6_count 35 = .ok (.ireturn, 1) := by decide +kernel
theorem dX6_setting_0 : decode cX6_setting 0 = .ok (.aload_n 0, 1) := by decide +kernel
theorem dX6_setting_1 : decode cX6_setting 1 = .ok (.iload_n 1, 1) := by decide +kernel
theorem dX6_setting_2 : decode cX6_setting 2 = .ok (.iconst 0, 1) := by decide +kernel
theorem dX6_setting_3 : decode cX6_setting 3 = .ok (.iconst 1, 1) := by decide +kernel
theorem dX6_setting_4 : decode cX6_setting 4 = .ok (.invokestatic 29, 3) := by decide +kernel
theorem dX6_setting_7 : decode cX6_setting 7 = .ok (.ifCond .eq 7, 3) := by decide +kernel
theorem dX6_setting_10 : decode cX6_setting 10 = .ok (.iconst 0, 1) := by decide +kernel
theorem dX6_setting_11 : decode cX6_setting 11 = .ok (.goto 4, 3) := by decide +kernel
theorem dX6_setting_14 : decode cX6_setting 14 = .ok (.iconst 1, 1) := by decide +kernel
theorem dX6_setting_15 : decode cX6_setting 15 = .ok (.putfield 25, 3) := by decide +kernel
theorem dX6_setting_18 : decode cX6_setting 18 = .ok (.aload_n 0, 1) := by decide +kernel
theorem dX6_setting_19 : decode cX6_setting 19 = .ok (.getfield 25, 3) := by decide +kernel
theorem dX6_setting_22 : decode cX6_setting 22 = .ok (.ifCond .le 7, 3) := by decide +kernel
theorem dX6_setting_25 : decode cX6_setting 25 = .ok (.iconst 0, 1) := by decide +kernel
theorem dX6_setting_26 : decode cX6_setting 26 = .ok (.goto 12, 3) := by decide +kernel
theorem dX6_setting_29 : decode cX6_setting 29 = .ok (.aload_n 0, 1) := by decide +kernel
theorem dX6_setting_30 : decode cX6_setting 30 = .ok (.getfield 7, 3) := by decide +kernel
theorem dX6_setting_33 : decode cX6_setting 33 = .ok (.bipush 46, 2) := by decide +kernel
theorem dX6_setting_35 : decode cX6_setting 35 = .ok (.iload_n 1, 1) := by decide +kernel
theorem dX6_setting_36 : decode cX6_setting 36 = .ok (.iadd, 1) := by decide +kernel
theorem dX6_setting_37 : decode cX6_setting 37 = .ok (.iaload, 1) := by decide +kernel
theorem dX6_setting_38 : decode cX6_setting 38 = .ok (.ireturn, 1) := by decide +kernel
theorem dX6_why_0 : decode cX6_why 0 = .ok (.aload_n 0, 1) := by decide +kernel
theorem dX6_why_1 : decode cX6_why 1 = .ok (.iconst 0, 1) := by decide +kernel
theorem dX6_why_2 : decode cX6_why 2 = .ok (.putfield 25, 3) := by decide +kernel
theorem dX6_why_5 : decode cX6_why 5 = .ok (.aload_n 0, 1) := by decide +kernel
theorem dX6_why_6 : decode cX6_why 6 = .ok (.aload_n 0, 1) := by decide +kernel
theorem dX6_why_7 : decode cX6_why 7 = .ok (.getfield 7, 3) := by decide +kernel
theorem dX6_why_10 : decode cX6_why 10 = .ok (.bipush 46, 2) := by decide +kernel
theorem dX6_why_12 : decode cX6_why 12 = .ok (.iaload, 1) := by decide +kernel
theorem dX6_why_13 : decode cX6_why 13 = .ok (.invokevirtual 121, 3) := by decide +kernel
theorem dX6_why_16 : decode cX6_why 16 = .ok (.ireturn, 1) := by decide +kernel
theorem dX6_swept_0 : decode cX6_swept 0 = .ok (.aload_n 0, 1) := by decide +kernel
theorem dX6_swept_1 : decode cX6_swept 1 = .ok (.iload_n 1, 1) := by decide +kernel
theorem dX6_swept_2 : decode cX6_swept 2 = .ok (.invokevirtual 121, 3) := by decide +kernel
theorem dX6_swept_5 : decode cX6_swept 5 = .ok (.ifCond .le 5, 3) := by decide +kernel
theorem dX6_swept_8 : decode cX6_swept 8 = .ok (.iconst (-1), 1) := by decide +kernel
theorem dX6_swept_9 : decode cX6_swept 9 = .ok (.ireturn, 1) := by decide +kernel
theorem dX6_swept_10 : decode cX6_swept 10 = .ok (.aload_n 0, 1) := by decide +kernel
theorem dX6_swept_11 : decode cX6_swept 11 = .ok (.invokevirtual 198, 3) := by decide +kernel
theorem dX6_swept_14 : decode cX6_swept 14 = .ok (.aload_n 0, 1) := by decide +kernel
theorem dX6_swept_15 : decode cX6_swept 15 = .ok (.iload_n 1, 1) := by decide +kernel
theorem dX6_swept_16 : decode cX6_swept 16 = .ok (.invokevirtual 124, 3) := by decide +kernel
theorem dX6_swept_19 : decode cX6_swept 19 = .ok (.aload_n 0, 1) := by decide +kernel
theorem dX6_swept_20 : decode cX6_swept 20 = .ok (.getfield 7, 3) := by decide +kernel
theorem dX6_swept_23 : decode cX6_swept 23 = .ok (.bipush 41, 2) := by decide +kernel
theorem dX6_swept_25 : decode cX6_swept 25 = .ok (.iaload, 1) := by decide +kernel
theorem dX6_swept_26 : decode cX6_swept 26 = .ok (.istore_n 2, 1) := by decide +kernel
theorem dX6_swept_27 : decode cX6_swept 27 = .ok (.iconst 0, 1) := by decide +kernel
theorem dX6_swept_28 : decode cX6_swept 28 = .ok (.istore_n 3, 1) := by decide +kernel
theorem dX6_swept_29 : decode cX6_swept 29 = .ok (.iload_n 3, 1) := by decide +kernel
theorem dX6_swept_30 : decode cX6_swept 30 = .ok (.aload_n 0, 1) := by decide +kernel
theorem dX6_swept_31 : decode cX6_swept 31 = .ok (.invokevirtual 55, 3) := by decide +kernel
theorem dX6_swept_34 : decode cX6_swept 34 = .ok (.if_icmp .ge 35, 3) := by decide +kernel
theorem dX6_swept_37 : decode cX6_swept 37 = .ok (.iload_n 3, 1) := by decide +kernel
theorem dX6_swept_38 : decode cX6_swept 38 = .ok (.aload_n 0, 1) := by decide +kernel
theorem dX6_swept_39 : decode cX6_swept 39 = .ok (.invokevirtual 58, 3) := by decide +kernel
theorem dX6_swept_42 : decode cX6_swept 42 = .ok (.if_icmp .ge 15, 3) := by decide +kernel
theorem dX6_swept_45 : decode cX6_swept 45 = .ok (.aload_n 0, 1) := by decide +kernel
theorem dX6_swept_46 : decode cX6_swept 46 = .ok (.iload_n 3, 1) := by decide +kernel
theorem dX6_swept_47 : decode cX6_swept 47 = .ok (.invokevirtual 180, 3) := by decide +kernel
theorem dX6_swept_50 : decode cX6_swept 50 = .ok (.pop, 1) := by decide +kernel
theorem dX6_swept_51 : decode cX6_swept 51 = .ok (.iinc 3 2, 3) := by decide +kernel
theorem dX6_swept_54 : decode cX6_swept 54 = .ok (.goto (-25), 3) := by decide +kernel
theorem dX6_swept_57 : decode cX6_swept 57 = .ok (.aload_n 0, 1) := by decide +kernel
theorem dX6_swept_58 : decode cX6_swept 58 = .ok (.iload_n 3, 1) := by decide +kernel
theorem dX6_swept_59 : decode cX6_swept 59 = .ok (.invokevirtual 149, 3) := by decide +kernel
theorem dX6_swept_62 : decode cX6_swept 62 = .ok (.pop, 1) := by decide +kernel
theorem dX6_swept_63 : decode cX6_swept 63 = .ok (.iinc 3 1, 3) := by decide +kernel
theorem dX6_swept_66 : decode cX6_swept 66 = .ok (.goto (-37), 3) := by decide +kernel
theorem dX6_swept_69 : decode cX6_swept 69 = .ok (.aload_n 0, 1) := by decide +kernel
theorem dX6_swept_70 : decode cX6_swept 70 = .ok (.getfield 7, 3) := by decide +kernel
theorem dX6_swept_73 : decode cX6_swept 73 = .ok (.bipush 41, 2) := by decide +kernel
theorem dX6_swept_75 : decode cX6_swept 75 = .ok (.iaload, 1) := by decide +kernel
theorem dX6_swept_76 : decode cX6_swept 76 = .ok (.iload_n 2, 1) := by decide +kernel
theorem dX6_swept_77 : decode cX6_swept 77 = .ok (.isub, 1) := by decide +kernel
theorem dX6_swept_78 : decode cX6_swept 78 = .ok (.istore 4, 2) := by decide +kernel
theorem dX6_swept_80 : decode cX6_swept 80 = .ok (.aload_n 0, 1) := by decide +kernel
theorem dX6_swept_81 : decode cX6_swept 81 = .ok (.invokevirtual 201, 3) := by decide +kernel
theorem dX6_swept_84 : decode cX6_swept 84 = .ok (.iload 4, 2) := by decide +kernel
theorem dX6_swept_86 : decode cX6_swept 86 = .ok (.ireturn, 1) := by decide +kernel
theorem dX6_sweep_0 : decode cX6_sweep 0 = .ok (.aload_n 0, 1) := by decide +kernel
theorem dX6_sweep_1 : decode cX6_sweep 1 = .ok (.iload_n 1, 1) := by decide +kernel
theorem dX6_sweep_2 : decode cX6_sweep 2 = .ok (.iconst 0, 1) := by decide +kernel
theorem dX6_sweep_3 : decode cX6_sweep 3 = .ok (.iconst 2, 1) := by decide +kernel
theorem dX6_sweep_4 : decode cX6_sweep 4 = .ok (.invokestatic 29, 3) := by decide +kernel
theorem dX6_sweep_7 : decode cX6_sweep 7 = .ok (.ifCond .eq 7, 3) := by decide +kernel
theorem dX6_sweep_10 : decode cX6_sweep 10 = .ok (.iconst 0, 1) := by decide +kernel
theorem dX6_sweep_11 : decode cX6_sweep 11 = .ok (.goto 4, 3) := by decide +kernel
theorem dX6_sweep_14 : decode cX6_sweep 14 = .ok (.iconst 1, 1) := by decide +kernel
theorem dX6_sweep_15 : decode cX6_sweep 15 = .ok (.putfield 25, 3) := by decide +kernel
theorem dX6_sweep_18 : decode cX6_sweep 18 = .ok (.aload_n 0, 1) := by decide +kernel
theorem dX6_sweep_19 : decode cX6_sweep 19 = .ok (.getfield 25, 3) := by decide +kernel
theorem dX6_sweep_22 : decode cX6_sweep 22 = .ok (.ifCond .le 7, 3) := by decide +kernel
theorem dX6_sweep_25 : decode cX6_sweep 25 = .ok (.iconst 0, 1) := by decide +kernel
theorem dX6_sweep_26 : decode cX6_sweep 26 = .ok (.goto 8, 3) := by decide +kernel
theorem dX6_sweep_29 : decode cX6_sweep 29 = .ok (.aload_n 0, 1) := by decide +kernel
theorem dX6_sweep_30 : decode cX6_sweep 30 = .ok (.iload_n 1, 1) := by decide +kernel
theorem dX6_sweep_31 : decode cX6_sweep 31 = .ok (.invokevirtual 204, 3) := by decide +kernel
theorem dX6_sweep_34 : decode cX6_sweep 34 = .ok (.ireturn, 1) := by decide +kernel
theorem dX6_started_0 : decode cX6_started 0 = .ok (.aload_n 0, 1) := by decide +kernel
theorem dX6_started_1 : decode cX6_started 1 = .ok (.iload_n 1, 1) := by decide +kernel
theorem dX6_started_2 : decode cX6_started 2 = .ok (.invokevirtual 121, 3) := by decide +kernel
theorem dX6_started_5 : decode cX6_started 5 = .ok (.ifCond .le 5, 3) := by decide +kernel
theorem dX6_started_8 : decode cX6_started 8 = .ok (.iconst 0, 1) := by decide +kernel
theorem dX6_started_9 : decode cX6_started 9 = .ok (.ireturn, 1) := by decide +kernel
theorem dX6_started_10 : decode cX6_started 10 = .ok (.aload_n 0, 1) := by decide +kernel
theorem dX6_started_11 : decode cX6_started 11 = .ok (.invokevirtual 198, 3) := by decide +kernel
theorem dX6_started_14 : decode cX6_started 14 = .ok (.aload_n 0, 1) := by decide +kernel
theorem dX6_started_15 : decode cX6_started 15 = .ok (.iload_n 1, 1) := by decide +kernel
theorem dX6_started_16 : decode cX6_started 16 = .ok (.invokevirtual 124, 3) := by decide +kernel
theorem dX6_started_19 : decode cX6_started 19 = .ok (.iload_n 2, 1) := by decide +kernel
theorem dX6_started_20 : decode cX6_started 20 = .ok (.ifCond .ne 10, 3) := by decide +kernel
theorem dX6_started_23 : decode cX6_started 23 = .ok (.aload_n 0, 1) := by decide +kernel
theorem dX6_started_24 : decode cX6_started 24 = .ok (.invokevirtual 55, 3) := by decide +kernel
theorem dX6_started_27 : decode cX6_started 27 = .ok (.goto 7, 3) := by decide +kernel
theorem dX6_started_30 : decode cX6_started 30 = .ok (.aload_n 0, 1) := by decide +kernel
theorem dX6_started_31 : decode cX6_started 31 = .ok (.invokevirtual 58, 3) := by decide +kernel
theorem dX6_started_34 : decode cX6_started 34 = .ok (.istore_n 3, 1) := by decide +kernel
theorem dX6_started_35 : decode cX6_started 35 = .ok (.aload_n 0, 1) := by decide +kernel
theorem dX6_started_36 : decode cX6_started 36 = .ok (.invokevirtual 201, 3) := by decide +kernel
theorem dX6_started_39 : decode cX6_started 39 = .ok (.iload_n 3, 1) := by decide +kernel
theorem dX6_started_40 : decode cX6_started 40 = .ok (.ireturn, 1) := by decide +kernel
theorem dX6_ifStarted_0 : decode cX6_ifStarted 0 = .ok (.aload_n 0, 1) := by decide +kernel
theorem dX6_ifStarted_1 : decode cX6_ifStarted 1 = .ok (.iload_n 1, 1) := by decide +kernel
theorem dX6_ifStarted_2 : decode cX6_ifStarted 2 = .ok (.iconst 0, 1) := by decide +kernel
theorem dX6_ifStarted_3 : decode cX6_ifStarted 3 = .ok (.iconst 2, 1) := by decide +kernel
theorem dX6_ifStarted_4 : decode cX6_ifStarted 4 = .ok (.invokestatic 29, 3) := by decide +kernel
theorem dX6_ifStarted_7 : decode cX6_ifStarted 7 = .ok (.ifCond .eq 16, 3) := by decide +kernel
theorem dX6_ifStarted_10 : decode cX6_ifStarted 10 = .ok (.iload_n 2, 1) := by decide +kernel
theorem dX6_ifStarted_11 : decode cX6_ifStarted 11 = .ok (.iconst 0, 1) := by decide +kernel
theorem dX6_ifStarted_12 : decode cX6_ifStarted 12 = .ok (.iconst 1, 1) := by decide +kernel
theorem dX6_ifStarted_13 : decode cX6_ifStarted 13 = .ok (.invokestatic 29, 3) := by decide +kernel
theorem dX6_ifStarted_16 : decode cX6_ifStarted 16 = .ok (.ifCond .eq 7, 3) := by decide +kernel
theorem dX6_ifStarted_19 : decode cX6_ifStarted 19 = .ok (.iconst 0, 1) := by decide +kernel
theorem dX6_ifStarted_20 : decode cX6_ifStarted 20 = .ok (.goto 4, 3) := by decide +kernel
theorem dX6_ifStarted_23 : decode cX6_ifStarted 23 = .ok (.iconst 1, 1) := by decide +kernel
theorem dX6_ifStarted_24 : decode cX6_ifStarted 24 = .ok (.putfield 25, 3) := by decide +kernel
theorem dX6_ifStarted_27 : decode cX6_ifStarted 27 = .ok (.aload_n 0, 1) := by decide +kernel
theorem dX6_ifStarted_28 : decode cX6_ifStarted 28 = .ok (.getfield 25, 3) := by decide +kernel
theorem dX6_ifStarted_31 : decode cX6_ifStarted 31 = .ok (.ifCond .le 7, 3) := by decide +kernel
theorem dX6_ifStarted_34 : decode cX6_ifStarted 34 = .ok (.iconst 0, 1) := by decide +kernel
theorem dX6_ifStarted_35 : decode cX6_ifStarted 35 = .ok (.goto 9, 3) := by decide +kernel
theorem dX6_ifStarted_38 : decode cX6_ifStarted 38 = .ok (.aload_n 0, 1) := by decide +kernel
theorem dX6_ifStarted_39 : decode cX6_ifStarted 39 = .ok (.iload_n 1, 1) := by decide +kernel
theorem dX6_ifStarted_40 : decode cX6_ifStarted 40 = .ok (.iload_n 2, 1) := by decide +kernel
theorem dX6_ifStarted_41 : decode cX6_ifStarted 41 = .ok (.invokevirtual 207, 3) := by decide +kernel
theorem dX6_ifStarted_44 : decode cX6_ifStarted 44 = .ok (.ireturn, 1) := by decide +kernel
theorem dX6_exchange_0 : decode cX6_exchange 0 = .ok (.iconst 0, 1) := by decide +kernel
theorem dX6_exchange_1 : decode cX6_exchange 1 = .ok (.istore_n 3, 1) := by decide +kernel
theorem dX6_exchange_2 : decode cX6_exchange 2 = .ok (.iload_n 3, 1) := by decide +kernel
theorem dX6_exchange_3 : decode cX6_exchange 3 = .ok (.bipush 9, 2) := by decide +kernel
theorem dX6_exchange_5 : decode cX6_exchange 5 = .ok (.if_icmp .ge 37, 3) := by decide +kernel
theorem dX6_exchange_8 : decode cX6_exchange 8 = .ok (.aload_n 0, 1) := by decide +kernel
theorem dX6_exchange_9 : decode cX6_exchange 9 = .ok (.iload_n 1, 1) := by decide +kernel
theorem dX6_exchange_10 : decode cX6_exchange 10 = .ok (.iload_n 3, 1) := by decide +kernel
theorem dX6_exchange_11 : decode cX6_exchange 11 = .ok (.invokevirtual 33, 3) := by decide +kernel
theorem dX6_exchange_14 : decode cX6_exchange 14 = .ok (.istore 4, 2) := by decide +kernel
theorem dX6_exchange_16 : decode cX6_exchange 16 = .ok (.aload_n 0, 1) := by decide +kernel
theorem dX6_exchange_17 : decode cX6_exchange 17 = .ok (.iload_n 1, 1) := by decide +kernel
theorem dX6_exchange_18 : decode cX6_exchange 18 = .ok (.iload_n 3, 1) := by decide +kernel
theorem dX6_exchange_19 : decode cX6_exchange 19 = .ok (.aload_n 0, 1) := by decide +kernel
theorem dX6_exchange_20 : decode cX6_exchange 20 = .ok (.iload_n 2, 1) := by decide +kernel
theorem dX6_exchange_21 : decode cX6_exchange 21 = .ok (.iload_n 3, 1) := by decide +kernel
theorem dX6_exchange_22 : decode cX6_exchange 22 = .ok (.invokevirtual 33, 3) := by decide +kernel
theorem dX6_exchange_25 : decode cX6_exchange 25 = .ok (.invokevirtual 98, 3) := by decide +kernel
theorem dX6_exchange_28 : decode cX6_exchange 28 = .ok (.aload_n 0, 1) := by decide +kernel
theorem dX6_exchange_29 : decode cX6_exchange 29 = .ok (.iload_n 2, 1) := by decide +kernel
theorem dX6_exchange_30 : decode cX6_exchange 30 = .ok (.iload_n 3, 1) := by decide +kernel
theorem dX6_exchange_31 : decode cX6_exchange 31 = .ok (.iload 4, 2) := by decide +kernel
theorem dX6_exchange_33 : decode cX6_exchange 33 = .ok (.invokevirtual 98, 3) := by decide +kernel
theorem dX6_exchange_36 : decode cX6_exchange 36 = .ok (.iinc 3 1, 3) := by decide +kernel
theorem dX6_exchange_39 : decode cX6_exchange 39 = .ok (.goto (-37), 3) := by decide +kernel
theorem dX6_exchange_42 : decode cX6_exchange 42 = .ok (.return_, 1) := by decide +kernel
theorem dX6_goodWide_0 : decode cX6_goodWide 0 = .ok (.iconst 2, 1) := by decide +kernel
theorem dX6_goodWide_1 : decode cX6_goodWide 1 = .ok (.aload_n 0, 1) := by decide +kernel
theorem dX6_goodWide_2 : decode cX6_goodWide 2 = .ok (.iconst 0, 1) := by decide +kernel
theorem dX6_goodWide_3 : decode cX6_goodWide 3 = .ok (.invokevirtual 105, 3) := by decide +kernel
theorem dX6_goodWide_6 : decode cX6_goodWide 6 = .ok (.aload_n 0, 1) := by decide +kernel
theorem dX6_goodWide_7 : decode cX6_goodWide 7 = .ok (.iconst 1, 1) := by decide +kernel
theorem dX6_goodWide_8 : decode cX6_goodWide 8 = .ok (.invokevirtual 105, 3) := by decide +kernel
theorem dX6_goodWide_11 : decode cX6_goodWide 11 = .ok (.if_icmp .ge 11, 3) := by decide +kernel
theorem dX6_goodWide_14 : decode cX6_goodWide 14 = .ok (.aload_n 0, 1) := by decide +kernel
theorem dX6_goodWide_15 : decode cX6_goodWide 15 = .ok (.iconst 0, 1) := by decide +kernel
theorem dX6_goodWide_16 : decode cX6_goodWide 16 = .ok (.invokevirtual 105, 3) := by decide +kernel
theorem dX6_goodWide_19 : decode cX6_goodWide 19 = .ok (.goto 8, 3) := by decide +kernel
theorem dX6_goodWide_22 : decode cX6_goodWide 22 = .ok (.aload_n 0, 1) := by decide +kernel
theorem dX6_goodWide_23 : decode cX6_goodWide 23 = .ok (.iconst 1, 1) := by decide +kernel
theorem dX6_goodWide_24 : decode cX6_goodWide 24 = .ok (.invokevirtual 105, 3) := by decide +kernel
theorem dX6_goodWide_27 : decode cX6_goodWide 27 = .ok (.imul, 1) := by decide +kernel
theorem dX6_goodWide_28 : decode cX6_goodWide 28 = .ok (.ireturn, 1) := by decide +kernel
theorem dX6_findChange_0 : decode cX6_findChange 0 = .ok (.iconst (-1), 1) := by decide +kernel
theorem dX6_findChange_1 : decode cX6_findChange 1 = .ok (.istore_n 1, 1) := by decide +kernel
theorem dX6_findChange_2 : decode cX6_findChange 2 = .ok (.aload_n 0, 1) := by decide +kernel
theorem dX6_findChange_3 : decode cX6_findChange 3 = .ok (.invokevirtual 210, 3) := by decide +kernel
theorem dX6_findChange_6 : decode cX6_findChange 6 = .ok (.istore_n 2, 1) := by decide +kernel
theorem dX6_findChange_7 : decode cX6_findChange 7 = .ok (.iconst 0, 1) := by decide +kernel
theorem dX6_findChange_8 : decode cX6_findChange 8 = .ok (.istore_n 3, 1) := by decide +kernel
theorem dX6_findChange_9 : decode cX6_findChange 9 = .ok (.iload_n 3, 1) := by decide +kernel
theorem dX6_findChange_10 : decode cX6_findChange 10 = .ok (.iconst 4, 1) := by decide +kernel
theorem dX6_findChange_11 : decode cX6_findChange 11 = .ok (.if_icmp .ge 62, 3) := by decide +kernel
theorem dX6_findChange_14 : decode cX6_findChange 14 = .ok (.iload_n 3, 1) := by decide +kernel
theorem dX6_findChange_15 : decode cX6_findChange 15 = .ok (.iconst 1, 1) := by decide +kernel
theorem dX6_findChange_16 : decode cX6_findChange 16 = .ok (.iadd, 1) := by decide +kernel
theorem dX6_findChange_17 : decode cX6_findChange 17 = .ok (.istore 4, 2) := by decide +kernel
theorem dX6_findChange_19 : decode cX6_findChange 19 = .ok (.iload 4, 2) := by decide +kernel
theorem dX6_findChange_21 : decode cX6_findChange 21 = .ok (.iconst 4, 1) := by decide +kernel
theorem dX6_findChange_22 : decode cX6_findChange 22 = .ok (.if_icmp .ge 45, 3) := by decide +kernel
theorem dX6_findChange_25 : decode cX6_findChange 25 = .ok (.aload_n 0, 1) := by decide +kernel
theorem dX6_findChange_26 : decode cX6_findChange 26 = .ok (.iload_n 3, 1) := by decide +kernel
theorem dX6_findChange_27 : decode cX6_findChange 27 = .ok (.iload 4, 2) := by decide +kernel
theorem dX6_findChange_29 : decode cX6_findChange 29 = .ok (.invokevirtual 213, 3) := by decide +kernel
theorem dX6_findChange_32 : decode cX6_findChange 32 = .ok (.aload_n 0, 1) := by decide +kernel
theorem dX6_findChange_33 : decode cX6_findChange 33 = .ok (.invokevirtual 210, 3) := by decide +kernel
theorem dX6_findChange_36 : decode cX6_findChange 36 = .ok (.istore 5, 2) := by decide +kernel
theorem dX6_findChange_38 : decode cX6_findChange 38 = .ok (.aload_n 0, 1) := by decide +kernel
theorem dX6_findChange_39 : decode cX6_findChange 39 = .ok (.iload_n 3, 1) := by decide +kernel
theorem dX6_findChange_40 : decode cX6_findChange 40 = .ok (.iload 4, 2) := by decide +kernel
theorem dX6_findChange_42 : decode cX6_findChange 42 = .ok (.invokevirtual 213, 3) := by decide +kernel
theorem dX6_findChange_45 : decode cX6_findChange 45 = .ok (.iload 5, 2) := by decide +kernel
theorem dX6_findChange_47 : decode cX6_findChange 47 = .ok (.iload_n 2, 1) := by decide +kernel
theorem dX6_findChange_48 : decode cX6_findChange 48 = .ok (.if_icmp .le 13, 3) := by decide +kernel
theorem dX6_findChange_51 : decode cX6_findChange 51 = .ok (.iconst 4, 1) := by decide +kernel
theorem dX6_findChange_52 : decode cX6_findChange 52 = .ok (.iload_n 3, 1) := by decide +kernel
theorem dX6_findChange_53 : decode cX6_findChange 53 = .ok (.imul, 1) := by decide +kernel
theorem dX6_findChange_54 : decode cX6_findChange 54 = .ok (.iload 4, 2) := by decide +kernel
theorem dX6_findChange_56 : decode cX6_findChange 56 = .ok (.iadd, 1) := by decide +kernel
theorem dX6_findChange_57 : decode cX6_findChange 57 = .ok (.istore_n 1, 1) := by decide +kernel
theorem dX6_findChange_58 : decode cX6_findChange 58 = .ok (.iload 5, 2) := by decide +kernel
theorem dX6_findChange_60 : decode cX6_findChange 60 = .ok (.istore_n 2, 1) := by decide +kernel
theorem dX6_findChange_61 : decode cX6_findChange 61 = .ok (.iinc 4 1, 3) := by decide +kernel
theorem dX6_findChange_64 : decode cX6_findChange 64 = .ok (.goto (-45), 3) := by decide +kernel
theorem dX6_findChange_67 : decode cX6_findChange 67 = .ok (.iinc 3 1, 3) := by decide +kernel
theorem dX6_findChange_70 : decode cX6_findChange 70 = .ok (.goto (-61), 3) := by decide +kernel
theorem dX6_findChange_73 : decode cX6_findChange 73 = .ok (.iload_n 1, 1) := by decide +kernel
theorem dX6_findChange_74 : decode cX6_findChange 74 = .ok (.ireturn, 1) := by decide +kernel
theorem dX6_bestChange_0 : decode cX6_bestChange 0 = .ok (.aload_n 0, 1) := by decide +kernel
theorem dX6_bestChange_1 : decode cX6_bestChange 1 = .ok (.iconst 0, 1) := by decide +kernel
theorem dX6_bestChange_2 : decode cX6_bestChange 2 = .ok (.putfield 25, 3) := by decide +kernel
theorem dX6_bestChange_5 : decode cX6_bestChange 5 = .ok (.aload_n 0, 1) := by decide +kernel
theorem dX6_bestChange_6 : decode cX6_bestChange 6 = .ok (.invokevirtual 217, 3) := by decide +kernel
theorem dX6_bestChange_9 : decode cX6_bestChange 9 = .ok (.ireturn, 1) := by decide +kernel
theorem dX6_share_0 : decode cX6_share 0 = .ok (.aload_n 0, 1) := by decide +kernel
theorem dX6_share_1 : decode cX6_share 1 = .ok (.invokevirtual 55, 3) := by decide +kernel
theorem dX6_share_4 : decode cX6_share 4 = .ok (.ifCond .ne 7, 3) := by decide +kernel
theorem dX6_share_7 : decode cX6_share 7 = .ok (.dconst 0, 1) := by decide +kernel
theorem dX6_share_8 : decode cX6_share 8 = .ok (.goto 14, 3) := by decide +kernel
theorem dX6_share_11 : decode cX6_share 11 = .ok (.aload_n 0, 1) := by decide +kernel
theorem dX6_share_12 : decode cX6_share 12 = .ok (.invokevirtual 58, 3) := by decide +kernel
theorem dX6_share_15 : decode cX6_share 15 = .ok (.i2d, 1) := by decide +kernel
theorem dX6_share_16 : decode cX6_share 16 = .ok (.aload_n 0, 1) := by decide +kernel
theorem dX6_share_17 : decode cX6_share 17 = .ok (.invokevirtual 55, 3) := by decide +kernel
theorem dX6_share_20 : decode cX6_share 20 = .ok (.i2d, 1) := by decide +kernel
theorem dX6_share_21 : decode cX6_share 21 = .ok (.ddiv, 1) := by decide +kernel
theorem dX6_share_22 : decode cX6_share 22 = .ok (.dreturn, 1) := by decide +kernel
theorem dX6_wideShare_0 : decode cX6_wideShare 0 = .ok (.aload_n 0, 1) := by decide +kernel
theorem dX6_wideShare_1 : decode cX6_wideShare 1 = .ok (.iconst 0, 1) := by decide +kernel
theorem dX6_wideShare_2 : decode cX6_wideShare 2 = .ok (.putfield 25, 3) := by decide +kernel
theorem dX6_wideShare_5 : decode cX6_wideShare 5 = .ok (.aload_n 0, 1) := by decide +kernel
theorem dX6_wideShare_6 : decode cX6_wideShare 6 = .ok (.invokevirtual 220, 3) := by decide +kernel
theorem dX6_wideShare_9 : decode cX6_wideShare 9 = .ok (.dreturn, 1) := by decide +kernel
theorem dX6_mean_0 : decode cX6_mean 0 = .ok (.aload_n 0, 1) := by decide +kernel
theorem dX6_mean_1 : decode cX6_mean 1 = .ok (.getfield 7, 3) := by decide +kernel
theorem dX6_mean_4 : decode cX6_mean 4 = .ok (.bipush 42, 2) := by decide +kernel
theorem dX6_mean_6 : decode cX6_mean 6 = .ok (.iaload, 1) := by decide +kernel
theorem dX6_mean_7 : decode cX6_mean 7 = .ok (.ifCond .ne 7, 3) := by decide +kernel
theorem dX6_mean_10 : decode cX6_mean 10 = .ok (.fconst 0, 1) := by decide +kernel
theorem dX6_mean_11 : decode cX6_mean 11 = .ok (.goto 20, 3) := by decide +kernel
theorem dX6_mean_14 : decode cX6_mean 14 = .ok (.aload_n 0, 1) := by decide +kernel
theorem dX6_mean_15 : decode cX6_mean 15 = .ok (.getfield 7, 3) := by decide +kernel
theorem dX6_mean_18 : decode cX6_mean 18 = .ok (.bipush 41, 2) := by decide +kernel
theorem dX6_mean_20 : decode cX6_mean 20 = .ok (.iaload, 1) := by decide +kernel
theorem dX6_mean_21 : decode cX6_mean 21 = .ok (.i2f, 1) := by decide +kernel
theorem dX6_mean_22 : decode cX6_mean 22 = .ok (.aload_n 0, 1) := by decide +kernel
theorem dX6_mean_23 : decode cX6_mean 23 = .ok (.getfield 7, 3) := by decide +kernel
theorem dX6_mean_26 : decode cX6_mean 26 = .ok (.bipush 42, 2) := by decide +kernel
theorem dX6_mean_28 : decode cX6_mean 28 = .ok (.iaload, 1) := by decide +kernel
theorem dX6_mean_29 : decode cX6_mean 29 = .ok (.i2f, 1) := by decide +kernel
theorem dX6_mean_30 : decode cX6_mean 30 = .ok (.fdiv, 1) := by decide +kernel
theorem dX6_mean_31 : decode cX6_mean 31 = .ok (.freturn, 1) := by decide +kernel
theorem dX6_meanTicks_0 : decode cX6_meanTicks 0 = .ok (.aload_n 0, 1) := by decide +kernel
theorem dX6_meanTicks_1 : decode cX6_meanTicks 1 = .ok (.iconst 0, 1) := by decide +kernel
theorem dX6_meanTicks_2 : decode cX6_meanTicks 2 = .ok (.putfield 25, 3) := by decide +kernel
theorem dX6_meanTicks_5 : decode cX6_meanTicks 5 = .ok (.aload_n 0, 1) := by decide +kernel
theorem dX6_meanTicks_6 : decode cX6_meanTicks 6 = .ok (.invokevirtual 224, 3) := by decide +kernel
theorem dX6_meanTicks_9 : decode cX6_meanTicks 9 = .ok (.freturn, 1) := by decide +kernel
theorem dX6_digest_0 : decode cX6_digest 0 = .ok (.aload_n 0, 1) := by decide +kernel
theorem dX6_digest_1 : decode cX6_digest 1 = .ok (.iconst 0, 1) := by decide +kernel
theorem dX6_digest_2 : decode cX6_digest 2 = .ok (.putfield 25, 3) := by decide +kernel
theorem dX6_digest_5 : decode cX6_digest 5 = .ok (.ldc2_w 228, 3) := by decide +kernel
theorem dX6_digest_8 : decode cX6_digest 8 = .ok (.lstore_n 1, 1) := by decide +kernel
theorem dX6_digest_9 : decode cX6_digest 9 = .ok (.iconst 0, 1) := by decide +kernel
theorem dX6_digest_10 : decode cX6_digest 10 = .ok (.istore_n 3, 1) := by decide +kernel
theorem dX6_digest_11 : decode cX6_digest 11 = .ok (.iload_n 3, 1) := by decide +kernel
theorem dX6_digest_12 : decode cX6_digest 12 = .ok (.bipush 12, 2) := by decide +kernel
theorem dX6_digest_14 : decode cX6_digest 14 = .ok (.if_icmp .ge 22, 3) := by decide +kernel
theorem dX6_digest_17 : decode cX6_digest 17 = .ok (.ldc2_w 230, 3) := by decide +kernel
theorem dX6_digest_20 : decode cX6_digest 20 = .ok (.lload_n 1, 1) := by decide +kernel
theorem dX6_digest_21 : decode cX6_digest 21 = .ok (.lmul, 1) := by decide +kernel
theorem dX6_digest_22 : decode cX6_digest 22 = .ok (.aload_n 0, 1) := by decide +kernel
theorem dX6_digest_23 : decode cX6_digest 23 = .ok (.iload_n 3, 1) := by decide +kernel
theorem dX6_digest_24 : decode cX6_digest 24 = .ok (.invokevirtual 195, 3) := by decide +kernel
theorem dX6_digest_27 : decode cX6_digest 27 = .ok (.i2l, 1) := by decide +kernel
theorem dX6_digest_28 : decode cX6_digest 28 = .ok (.ladd, 1) := by decide +kernel
theorem dX6_digest_29 : decode cX6_digest 29 = .ok (.lstore_n 1, 1) := by decide +kernel
theorem dX6_digest_30 : decode cX6_digest 30 = .ok (.iinc 3 1, 3) := by decide +kernel
theorem dX6_digest_33 : decode cX6_digest 33 = .ok (.goto (-22), 3) := by decide +kernel
theorem dX6_digest_36 : decode cX6_digest 36 = .ok (.ldc2_w 230, 3) := by decide +kernel
theorem dX6_digest_39 : decode cX6_digest 39 = .ok (.ldc2_w 230, 3) := by decide +kernel
theorem dX6_digest_42 : decode cX6_digest 42 = .ok (.lload_n 1, 1) := by decide +kernel
theorem dX6_digest_43 : decode cX6_digest 43 = .ok (.lmul, 1) := by decide +kernel
theorem dX6_digest_44 : decode cX6_digest 44 = .ok (.aload_n 0, 1) := by decide +kernel
theorem dX6_digest_45 : decode cX6_digest 45 = .ok (.getfield 7, 3) := by decide +kernel
theorem dX6_digest_48 : decode cX6_digest 48 = .ok (.bipush 46, 2) := by decide +kernel
theorem dX6_digest_50 : decode cX6_digest 50 = .ok (.iaload, 1) := by decide +kernel
theorem dX6_digest_51 : decode cX6_digest 51 = .ok (.i2l, 1) := by decide +kernel
theorem dX6_digest_52 : decode cX6_digest 52 = .ok (.ladd, 1) := by decide +kernel
theorem dX6_digest_53 : decode cX6_digest 53 = .ok (.lmul, 1) := by decide +kernel
theorem dX6_digest_54 : decode cX6_digest 54 = .ok (.aload_n 0, 1) := by decide +kernel
theorem dX6_digest_55 : decode cX6_digest 55 = .ok (.getfield 7, 3) := by decide +kernel
theorem dX6_digest_58 : decode cX6_digest 58 = .ok (.bipush 47, 2) := by decide +kernel
theorem dX6_digest_60 : decode cX6_digest 60 = .ok (.iaload, 1) := by decide +kernel
theorem dX6_digest_61 : decode cX6_digest 61 = .ok (.i2l, 1) := by decide +kernel
theorem dX6_digest_62 : decode cX6_digest 62 = .ok (.ladd, 1) := by decide +kernel
theorem dX6_digest_63 : decode cX6_digest 63 = .ok (.lstore_n 1, 1) := by decide +kernel
theorem dX6_digest_64 : decode cX6_digest 64 = .ok (.iconst 0, 1) := by decide +kernel
theorem dX6_digest_65 : decode cX6_digest 65 = .ok (.istore_n 3, 1) := by decide +kernel
theorem dX6_digest_66 : decode cX6_digest 66 = .ok (.iload_n 3, 1) := by decide +kernel
theorem dX6_digest_67 : decode cX6_digest 67 = .ok (.iconst 4, 1) := by decide +kernel
theorem dX6_digest_68 : decode cX6_digest 68 = .ok (.if_icmp .ge 71, 3) := by decide +kernel
theorem dX6_digest_71 : decode cX6_digest 71 = .ok (.iconst 0, 1) := by decide +kernel
theorem dX6_digest_72 : decode cX6_digest 72 = .ok (.istore 4, 2) := by decide +kernel
theorem dX6_digest_74 : decode cX6_digest 74 = .ok (.iload 4, 2) := by decide +kernel
theorem dX6_digest_76 : decode cX6_digest 76 = .ok (.bipush 8, 2) := by decide +kernel
theorem dX6_digest_78 : decode cX6_digest 78 = .ok (.if_icmp .ge 24, 3) := by decide +kernel
theorem dX6_digest_81 : decode cX6_digest 81 = .ok (.ldc2_w 230, 3) := by decide +kernel
theorem dX6_digest_84 : decode cX6_digest 84 = .ok (.lload_n 1, 1) := by decide +kernel
theorem dX6_digest_85 : decode cX6_digest 85 = .ok (.lmul, 1) := by decide +kernel
theorem dX6_digest_86 : decode cX6_digest 86 = .ok (.aload_n 0, 1) := by decide +kernel
theorem dX6_digest_87 : decode cX6_digest 87 = .ok (.iload_n 3, 1) := by decide +kernel
theorem dX6_digest_88 : decode cX6_digest 88 = .ok (.iload 4, 2) := by decide +kernel
theorem dX6_digest_90 : decode cX6_digest 90 = .ok (.invokevirtual 183, 3) := by decide +kernel
theorem dX6_digest_93 : decode cX6_digest 93 = .ok (.i2l, 1) := by decide +kernel
theorem dX6_digest_94 : decode cX6_digest 94 = .ok (.ladd, 1) := by decide +kernel
theorem dX6_digest_95 : decode cX6_digest 95 = .ok (.lstore_n 1, 1) := by decide +kernel
theorem dX6_digest_96 : decode cX6_digest 96 = .ok (.iinc 4 1, 3) := by decide +kernel
theorem dX6_digest_99 : decode cX6_digest 99 = .ok (.goto (-25), 3) := by decide +kernel
theorem dX6_digest_102 : decode cX6_digest 102 = .ok (.iconst 0, 1) := by decide +kernel
theorem dX6_digest_103 : decode cX6_digest 103 = .ok (.istore 4, 2) := by decide +kernel
theorem dX6_digest_105 : decode cX6_digest 105 = .ok (.iload 4, 2) := by decide +kernel
theorem dX6_digest_107 : decode cX6_digest 107 = .ok (.bipush 12, 2) := by decide +kernel
theorem dX6_digest_109 : decode cX6_digest 109 = .ok (.if_icmp .ge 24, 3) := by decide +kernel
theorem dX6_digest_112 : decode cX6_digest 112 = .ok (.ldc2_w 230, 3) := by decide +kernel
theorem dX6_digest_115 : decode cX6_digest 115 = .ok (.lload_n 1, 1) := by decide +kernel
theorem dX6_digest_116 : decode cX6_digest 116 = .ok (.lmul, 1) := by decide +kernel
theorem dX6_digest_117 : decode cX6_digest 117 = .ok (.aload_n 0, 1) := by decide +kernel
theorem dX6_digest_118 : decode cX6_digest 118 = .ok (.iload_n 3, 1) := by decide +kernel
theorem dX6_digest_119 : decode cX6_digest 119 = .ok (.iload 4, 2) := by decide +kernel
theorem dX6_digest_121 : decode cX6_digest 121 = .ok (.invokevirtual 95, 3) := by decide +kernel
theorem dX6_digest_124 : decode cX6_digest 124 = .ok (.i2l, 1) := by decide +kernel
theorem dX6_digest_125 : decode cX6_digest 125 = .ok (.ladd, 1) := by decide +kernel
theorem dX6_digest_126 : decode cX6_digest 126 = .ok (.lstore_n 1, 1) := by decide +kernel
theorem dX6_digest_127 : decode cX6_digest 127 = .ok (.iinc 4 1, 3) := by decide +kernel
theorem dX6_digest_130 : decode cX6_digest 130 = .ok (.goto (-25), 3) := by decide +kernel
theorem dX6_digest_133 : decode cX6_digest 133 = .ok (.iinc 3 1, 3) := by decide +kernel
theorem dX6_digest_136 : decode cX6_digest 136 = .ok (.goto (-70), 3) := by decide +kernel
theorem dX6_digest_139 : decode cX6_digest 139 = .ok (.iconst 0, 1) := by decide +kernel
theorem dX6_digest_140 : decode cX6_digest 140 = .ok (.istore_n 3, 1) := by decide +kernel
theorem dX6_digest_141 : decode cX6_digest 141 = .ok (.iload_n 3, 1) := by decide +kernel
theorem dX6_digest_142 : decode cX6_digest 142 = .ok (.aload_n 0, 1) := by decide +kernel
theorem dX6_digest_143 : decode cX6_digest 143 = .ok (.invokevirtual 55, 3) := by decide +kernel
theorem dX6_digest_146 : decode cX6_digest 146 = .ok (.if_icmp .ge 65, 3) := by decide +kernel
theorem dX6_digest_149 : decode cX6_digest 149 = .ok (.iconst 0, 1) := by decide +kernel
theorem dX6_digest_150 : decode cX6_digest 150 = .ok (.istore 4, 2) := by decide +kernel
theorem dX6_digest_152 : decode cX6_digest 152 = .ok (.iload 4, 2) := by decide +kernel
theorem dX6_digest_154 : decode cX6_digest 154 = .ok (.bipush 7, 2) := by decide +kernel
theorem dX6_digest_156 : decode cX6_digest 156 = .ok (.if_icmp .ge 24, 3) := by decide +kernel
theorem dX6_digest_159 : decode cX6_digest 159 = .ok (.ldc2_w 230, 3) := by decide +kernel
theorem dX6_digest_162 : decode cX6_digest 162 = .ok (.lload_n 1, 1) := by decide +kernel
theorem dX6_digest_163 : decode cX6_digest 163 = .ok (.lmul, 1) := by decide +kernel
theorem dX6_digest_164 : decode cX6_digest 164 = .ok (.aload_n 0, 1) := by decide +kernel
theorem dX6_digest_165 : decode cX6_digest 165 = .ok (.iload_n 3, 1) := by decide +kernel
theorem dX6_digest_166 : decode cX6_digest 166 = .ok (.iload 4, 2) := by decide +kernel
theorem dX6_digest_168 : decode cX6_digest 168 = .ok (.invokevirtual 186, 3) := by decide +kernel
theorem dX6_digest_171 : decode cX6_digest 171 = .ok (.i2l, 1) := by decide +kernel
theorem dX6_digest_172 : decode cX6_digest 172 = .ok (.ladd, 1) := by decide +kernel
theorem dX6_digest_173 : decode cX6_digest 173 = .ok (.lstore_n 1, 1) := by decide +kernel
theorem dX6_digest_174 : decode cX6_digest 174 = .ok (.iinc 4 1, 3) := by decide +kernel
theorem dX6_digest_177 : decode cX6_digest 177 = .ok (.goto (-25), 3) := by decide +kernel
theorem dX6_digest_180 : decode cX6_digest 180 = .ok (.ldc2_w 230, 3) := by decide +kernel
theorem dX6_digest_183 : decode cX6_digest 183 = .ok (.lload_n 1, 1) := by decide +kernel
theorem dX6_digest_184 : decode cX6_digest 184 = .ok (.lmul, 1) := by decide +kernel
theorem dX6_digest_185 : decode cX6_digest 185 = .ok (.aload_n 0, 1) := by decide +kernel
theorem dX6_digest_186 : decode cX6_digest 186 = .ok (.iload_n 3, 1) := by decide +kernel
theorem dX6_digest_187 : decode cX6_digest 187 = .ok (.invokevirtual 131, 3) := by decide +kernel
theorem dX6_digest_190 : decode cX6_digest 190 = .ok (.ifCond .eq 11, 3) := by decide +kernel
theorem dX6_digest_193 : decode cX6_digest 193 = .ok (.aload_n 0, 1) := by decide +kernel
theorem dX6_digest_194 : decode cX6_digest 194 = .ok (.iload_n 3, 1) := by decide +kernel
theorem dX6_digest_195 : decode cX6_digest 195 = .ok (.invokevirtual 134, 3) := by decide +kernel
theorem dX6_digest_198 : decode cX6_digest 198 = .ok (.goto 4, 3) := by decide +kernel
theorem dX6_digest_201 : decode cX6_digest 201 = .ok (.iconst (-1), 1) := by decide +kernel
theorem dX6_digest_202 : decode cX6_digest 202 = .ok (.i2l, 1) := by decide +kernel
theorem dX6_digest_203 : decode cX6_digest 203 = .ok (.ladd, 1) := by decide +kernel
theorem dX6_digest_204 : decode cX6_digest 204 = .ok (.lstore_n 1, 1) := by decide +kernel
theorem dX6_digest_205 : decode cX6_digest 205 = .ok (.iinc 3 1, 3) := by decide +kernel
theorem dX6_digest_208 : decode cX6_digest 208 = .ok (.goto (-67), 3) := by decide +kernel
theorem dX6_digest_211 : decode cX6_digest 211 = .ok (.ldc2_w 230, 3) := by decide +kernel
theorem dX6_digest_214 : decode cX6_digest 214 = .ok (.lload_n 1, 1) := by decide +kernel
theorem dX6_digest_215 : decode cX6_digest 215 = .ok (.lmul, 1) := by decide +kernel
theorem dX6_digest_216 : decode cX6_digest 216 = .ok (.aload_n 0, 1) := by decide +kernel
theorem dX6_digest_217 : decode cX6_digest 217 = .ok (.aload_n 0, 1) := by decide +kernel
theorem dX6_digest_218 : decode cX6_digest 218 = .ok (.getfield 7, 3) := by decide +kernel
theorem dX6_digest_221 : decode cX6_digest 221 = .ok (.bipush 46, 2) := by decide +kernel
theorem dX6_digest_223 : decode cX6_digest 223 = .ok (.iaload, 1) := by decide +kernel
theorem dX6_digest_224 : decode cX6_digest 224 = .ok (.invokevirtual 121, 3) := by decide +kernel
theorem dX6_digest_227 : decode cX6_digest 227 = .ok (.i2l, 1) := by decide +kernel
theorem dX6_digest_228 : decode cX6_digest 228 = .ok (.ladd, 1) := by decide +kernel
theorem dX6_digest_229 : decode cX6_digest 229 = .ok (.lstore_n 1, 1) := by decide +kernel
theorem dX6_digest_230 : decode cX6_digest 230 = .ok (.iconst 0, 1) := by decide +kernel
theorem dX6_digest_231 : decode cX6_digest 231 = .ok (.istore_n 3, 1) := by decide +kernel
theorem dX6_digest_232 : decode cX6_digest 232 = .ok (.iload_n 3, 1) := by decide +kernel
theorem dX6_digest_233 : decode cX6_digest 233 = .ok (.iconst 3, 1) := by decide +kernel
theorem dX6_digest_234 : decode cX6_digest 234 = .ok (.if_icmp .ge 22, 3) := by decide +kernel
theorem dX6_digest_237 : decode cX6_digest 237 = .ok (.ldc2_w 230, 3) := by decide +kernel
theorem dX6_digest_240 : decode cX6_digest 240 = .ok (.lload_n 1, 1) := by decide +kernel
theorem dX6_digest_241 : decode cX6_digest 241 = .ok (.lmul, 1) := by decide +kernel
theorem dX6_digest_242 : decode cX6_digest 242 = .ok (.aload_n 0, 1) := by decide +kernel
theorem dX6_digest_243 : decode cX6_digest 243 = .ok (.iload_n 3, 1) := by decide +kernel
theorem dX6_digest_244 : decode cX6_digest 244 = .ok (.invokevirtual 204, 3) := by decide +kernel
theorem dX6_digest_247 : decode cX6_digest 247 = .ok (.i2l, 1) := by decide +kernel
theorem dX6_digest_248 : decode cX6_digest 248 = .ok (.ladd, 1) := by decide +kernel
theorem dX6_digest_249 : decode cX6_digest 249 = .ok (.lstore_n 1, 1) := by decide +kernel
theorem dX6_digest_250 : decode cX6_digest 250 = .ok (.iinc 3 1, 3) := by decide +kernel
theorem dX6_digest_253 : decode cX6_digest 253 = .ok (.goto (-21), 3) := by decide +kernel
theorem dX6_digest_256 : decode cX6_digest 256 = .ok (.iconst 0, 1) := by decide +kernel
theorem dX6_digest_257 : decode cX6_digest 257 = .ok (.istore_n 3, 1) := by decide +kernel
theorem dX6_digest_258 : decode cX6_digest 258 = .ok (.iload_n 3, 1) := by decide +kernel
theorem dX6_digest_259 : decode cX6_digest 259 = .ok (.iconst 3, 1) := by decide +kernel
theorem dX6_digest_260 : decode cX6_digest 260 = .ok (.if_icmp .ge 35, 3) := by decide +kernel
theorem dX6_digest_263 : decode cX6_digest 263 = .ok (.ldc2_w 230, 3) := by decide +kernel
theorem dX6_digest_266 : decode cX6_digest 266 = .ok (.ldc2_w 230, 3) := by decide +kernel
theorem dX6_digest_269 : decode cX6_digest 269 = .ok (.lload_n 1, 1) := by decide +kernel
theorem dX6_digest_270 : decode cX6_digest 270 = .ok (.lmul, 1) := by decide +kernel
theorem dX6_digest_271 : decode cX6_digest 271 = .ok (.aload_n 0, 1) := by decide +kernel
theorem dX6_digest_272 : decode cX6_digest 272 = .ok (.iload_n 3, 1) := by decide +kernel
theorem dX6_digest_273 : decode cX6_digest 273 = .ok (.iconst 0, 1) := by decide +kernel
theorem dX6_digest_274 : decode cX6_digest 274 = .ok (.invokevirtual 207, 3) := by decide +kernel
theorem dX6_digest_277 : decode cX6_digest 277 = .ok (.i2l, 1) := by decide +kernel
theorem dX6_digest_278 : decode cX6_digest 278 = .ok (.ladd, 1) := by decide +kernel
theorem dX6_digest_279 : decode cX6_digest 279 = .ok (.lmul, 1) := by decide +kernel
theorem dX6_digest_280 : decode cX6_digest 280 = .ok (.aload_n 0, 1) := by decide +kernel
theorem dX6_digest_281 : decode cX6_digest 281 = .ok (.iload_n 3, 1) := by decide +kernel
theorem dX6_digest_282 : decode cX6_digest 282 = .ok (.iconst 1, 1) := by decide +kernel
theorem dX6_digest_283 : decode cX6_digest 283 = .ok (.invokevirtual 207, 3) := by decide +kernel
theorem dX6_digest_286 : decode cX6_digest 286 = .ok (.i2l, 1) := by decide +kernel
theorem dX6_digest_287 : decode cX6_digest 287 = .ok (.ladd, 1) := by decide +kernel
theorem dX6_digest_288 : decode cX6_digest 288 = .ok (.lstore_n 1, 1) := by decide +kernel
theorem dX6_digest_289 : decode cX6_digest 289 = .ok (.iinc 3 1, 3) := by decide +kernel
theorem dX6_digest_292 : decode cX6_digest 292 = .ok (.goto (-34), 3) := by decide +kernel
theorem dX6_digest_295 : decode cX6_digest 295 = .ok (.ldc2_w 230, 3) := by decide +kernel
theorem dX6_digest_298 : decode cX6_digest 298 = .ok (.lload_n 1, 1) := by decide +kernel
theorem dX6_digest_299 : decode cX6_digest 299 = .ok (.lmul, 1) := by decide +kernel
theorem dX6_digest_300 : decode cX6_digest 300 = .ok (.aload_n 0, 1) := by decide +kernel
theorem dX6_digest_301 : decode cX6_digest 301 = .ok (.invokevirtual 217, 3) := by decide +kernel
theorem dX6_digest_304 : decode cX6_digest 304 = .ok (.i2l, 1) := by decide +kernel
theorem dX6_digest_305 : decode cX6_digest 305 = .ok (.ladd, 1) := by decide +kernel
theorem dX6_digest_306 : decode cX6_digest 306 = .ok (.lstore_n 1, 1) := by decide +kernel
theorem dX6_digest_307 : decode cX6_digest 307 = .ok (.ldc2_w 230, 3) := by decide +kernel
theorem dX6_digest_310 : decode cX6_digest 310 = .ok (.lload_n 1, 1) := by decide +kernel
theorem dX6_digest_311 : decode cX6_digest 311 = .ok (.lmul, 1) := by decide +kernel
theorem dX6_digest_312 : decode cX6_digest 312 = .ok (.aload_n 0, 1) := by decide +kernel
theorem dX6_digest_313 : decode cX6_digest 313 = .ok (.invokevirtual 220, 3) := by decide +kernel
theorem dX6_digest_316 : decode cX6_digest 316 = .ok (.invokestatic 232, 3) := by decide +kernel
theorem dX6_digest_319 : decode cX6_digest 319 = .ok (.ladd, 1) := by decide +kernel
theorem dX6_digest_320 : decode cX6_digest 320 = .ok (.lstore_n 1, 1) := by decide +kernel
theorem dX6_digest_321 : decode cX6_digest 321 = .ok (.ldc2_w 230, 3) := by decide +kernel
theorem dX6_digest_324 : decode cX6_digest 324 = .ok (.lload_n 1, 1) := by decide +kernel
theorem dX6_digest_325 : decode cX6_digest 325 = .ok (.lmul, 1) := by decide +kernel
theorem dX6_digest_326 : decode cX6_digest 326 = .ok (.aload_n 0, 1) := by decide +kernel
theorem dX6_digest_327 : decode cX6_digest 327 = .ok (.invokevirtual 224, 3) := by decide +kernel
theorem dX6_digest_330 : decode cX6_digest 330 = .ok (.invokestatic 238, 3) := by decide +kernel
theorem dX6_digest_333 : decode cX6_digest 333 = .ok (.i2l, 1) := by decide +kernel
theorem dX6_digest_334 : decode cX6_digest 334 = .ok (.ladd, 1) := by decide +kernel
theorem dX6_digest_335 : decode cX6_digest 335 = .ok (.lstore_n 1, 1) := by decide +kernel
theorem dX6_digest_336 : decode cX6_digest 336 = .ok (.ldc2_w 230, 3) := by decide +kernel
theorem dX6_digest_339 : decode cX6_digest 339 = .ok (.lload_n 1, 1) := by decide +kernel
theorem dX6_digest_340 : decode cX6_digest 340 = .ok (.lmul, 1) := by decide +kernel
theorem dX6_digest_341 : decode cX6_digest 341 = .ok (.aload_n 0, 1) := by decide +kernel
theorem dX6_digest_342 : decode cX6_digest 342 = .ok (.getfield 40, 3) := by decide +kernel
theorem dX6_digest_345 : decode cX6_digest 345 = .ok (.ifCond .eq 7, 3) := by decide +kernel
theorem dX6_digest_348 : decode cX6_digest 348 = .ok (.iconst 1, 1) := by decide +kernel
theorem dX6_digest_349 : decode cX6_digest 349 = .ok (.goto 4, 3) := by decide +kernel
theorem dX6_digest_352 : decode cX6_digest 352 = .ok (.iconst 0, 1) := by decide +kernel
theorem dX6_digest_353 : decode cX6_digest 353 = .ok (.i2l, 1) := by decide +kernel
theorem dX6_digest_354 : decode cX6_digest 354 = .ok (.ladd, 1) := by decide +kernel
theorem dX6_digest_355 : decode cX6_digest 355 = .ok (.lstore_n 1, 1) := by decide +kernel
theorem dX6_digest_356 : decode cX6_digest 356 = .ok (.ldc2_w 230, 3) := by decide +kernel
theorem dX6_digest_359 : decode cX6_digest 359 = .ok (.lload_n 1, 1) := by decide +kernel
theorem dX6_digest_360 : decode cX6_digest 360 = .ok (.lmul, 1) := by decide +kernel
theorem dX6_digest_361 : decode cX6_digest 361 = .ok (.aload_n 0, 1) := by decide +kernel
theorem dX6_digest_362 : decode cX6_digest 362 = .ok (.getfield 152, 3) := by decide +kernel
theorem dX6_digest_365 : decode cX6_digest 365 = .ok (.i2l, 1) := by decide +kernel
theorem dX6_digest_366 : decode cX6_digest 366 = .ok (.ladd, 1) := by decide +kernel
theorem dX6_digest_367 : decode cX6_digest 367 = .ok (.lstore_n 1, 1) := by decide +kernel
theorem dX6_digest_368 : decode cX6_digest 368 = .ok (.iconst 0, 1) := by decide +kernel
theorem dX6_digest_369 : decode cX6_digest 369 = .ok (.istore_n 3, 1) := by decide +kernel
theorem dX6_digest_370 : decode cX6_digest 370 = .ok (.iload_n 3, 1) := by decide +kernel
theorem dX6_digest_371 : decode cX6_digest 371 = .ok (.aload_n 0, 1) := by decide +kernel
theorem dX6_digest_372 : decode cX6_digest 372 = .ok (.getfield 152, 3) := by decide +kernel
theorem dX6_digest_375 : decode cX6_digest 375 = .ok (.if_icmp .ge 23, 3) := by decide +kernel
theorem dX6_digest_378 : decode cX6_digest 378 = .ok (.ldc2_w 230, 3) := by decide +kernel
theorem dX6_digest_381 : decode cX6_digest 381 = .ok (.lload_n 1, 1) := by decide +kernel
theorem dX6_digest_382 : decode cX6_digest 382 = .ok (.lmul, 1) := by decide +kernel
theorem dX6_digest_383 : decode cX6_digest 383 = .ok (.aload_n 0, 1) := by decide +kernel
theorem dX6_digest_384 : decode cX6_digest 384 = .ok (.getfield 22, 3) := by decide +kernel
theorem dX6_digest_387 : decode cX6_digest 387 = .ok (.iload_n 3, 1) := by decide +kernel
theorem dX6_digest_388 : decode cX6_digest 388 = .ok (.iaload, 1) := by decide +kernel
theorem dX6_digest_389 : decode cX6_digest 389 = .ok (.i2l, 1) := by decide +kernel
theorem dX6_digest_390 : decode cX6_digest 390 = .ok (.ladd, 1) := by decide +kernel
theorem dX6_digest_391 : decode cX6_digest 391 = .ok (.lstore_n 1, 1) := by decide +kernel
theorem dX6_digest_392 : decode cX6_digest 392 = .ok (.iinc 3 1, 3) := by decide +kernel
theorem dX6_digest_395 : decode cX6_digest 395 = .ok (.goto (-25), 3) := by decide +kernel
theorem dX6_digest_398 : decode cX6_digest 398 = .ok (.lload_n 1, 1) := by decide +kernel
theorem dX6_digest_399 : decode cX6_digest 399 = .ok (.lreturn, 1) := by decide +kernel
theorem dJxe99ae_isNaN_b9ae7_0 : decode cJxe99ae_isNaN_b9ae7 0 = .ok (.dload_n 0, 1) := by decide +kernel
theorem dJxe99ae_isNaN_b9ae7_1 : decode cJxe99ae_isNaN_b9ae7 1 = .ok (.dload_n 0, 1) := by decide +kernel
theorem dJxe99ae_isNaN_b9ae7_2 : decode cJxe99ae_isNaN_b9ae7 2 = .ok (.dcmp .l, 1) := by decide +kernel
theorem dJxe99ae_isNaN_b9ae7_3 : decode cJxe99ae_isNaN_b9ae7 3 = .ok (.ifCond .eq 7, 3) := by decide +kernel
theorem dJxe99ae_isNaN_b9ae7_6 : decode cJxe99ae_isNaN_b9ae7 6 = .ok (.iconst 1, 1) := by decide +kernel
theorem dJxe99ae_isNaN_b9ae7_7 : decode cJxe99ae_isNaN_b9ae7 7 = .ok (.goto 4, 3) := by decide +kernel
theorem dJxe99ae_isNaN_b9ae7_10 : decode cJxe99ae_isNaN_b9ae7 10 = .ok (.iconst 0, 1) := by decide +kernel
theorem dJxe99ae_isNaN_b9ae7_11 : decode cJxe99ae_isNaN_b9ae7 11 = .ok (.ireturn, 1) := by decide +kernel
theorem dJxe99ae_doubleToLongBits_ccdee_0 : decode cJxe99ae_doubleToLongBits_ccdee 0 = .ok (.dload_n 0, 1) := by decide +kernel
theorem dJxe99ae_doubleToLongBits_ccdee_1 : decode cJxe99ae_doubleToLongBits_ccdee 1 = .ok (.invokestatic 122, 3) := by decide +kernel
theorem dJxe99ae_doubleToLongBits_ccdee_4 : decode cJxe99ae_doubleToLongBits_ccdee 4 = .ok (.ifCond .ne 8, 3) := by decide +kernel
theorem dJxe99ae_doubleToLongBits_ccdee_7 : decode cJxe99ae_doubleToLongBits_ccdee 7 = .ok (.dload_n 0, 1) := by decide +kernel
theorem dJxe99ae_doubleToLongBits_ccdee_8 : decode cJxe99ae_doubleToLongBits_ccdee 8 = .ok (.invokestatic 134, 3) := by decide +kernel
theorem dJxe99ae_doubleToLongBits_ccdee_11 : decode cJxe99ae_doubleToLongBits_ccdee 11 = .ok (.lreturn, 1) := by decide +kernel
theorem dJxe99ae_doubleToLongBits_ccdee_12 : decode cJxe99ae_doubleToLongBits_ccdee 12 = .ok (.ldc2_w 137, 3) := by decide +kernel
theorem dJxe99ae_doubleToLongBits_ccdee_15 : decode cJxe99ae_doubleToLongBits_ccdee 15 = .ok (.lreturn, 1) := by decide +kernel
theorem dJxf58ca_isNaN_12338_0 : decode cJxf58ca_isNaN_12338 0 = .ok (.fload_n 0, 1) := by decide +kernel
theorem dJxf58ca_isNaN_12338_1 : decode cJxf58ca_isNaN_12338 1 = .ok (.fload_n 0, 1) := by decide +kernel
theorem dJxf58ca_isNaN_12338_2 : decode cJxf58ca_isNaN_12338 2 = .ok (.fcmp .l, 1) := by decide +kernel
theorem dJxf58ca_isNaN_12338_3 : decode cJxf58ca_isNaN_12338 3 = .ok (.ifCond .eq 7, 3) := by decide +kernel
theorem dJxf58ca_isNaN_12338_6 : decode cJxf58ca_isNaN_12338 6 = .ok (.iconst 1, 1) := by decide +kernel
theorem dJxf58ca_isNaN_12338_7 : decode cJxf58ca_isNaN_12338 7 = .ok (.goto 4, 3) := by decide +kernel
theorem dJxf58ca_isNaN_12338_10 : decode cJxf58ca_isNaN_12338 10 = .ok (.iconst 0, 1) := by decide +kernel
theorem dJxf58ca_isNaN_12338_11 : decode cJxf58ca_isNaN_12338 11 = .ok (.ireturn, 1) := by decide +kernel
theorem dJxf58ca_floatToIntBits_5c35a_0 : decode cJxf58ca_floatToIntBits_5c35a 0 = .ok (.fload_n 0, 1) := by decide +kernel
theorem dJxf58ca_floatToIntBits_5c35a_1 : decode cJxf58ca_floatToIntBits_5c35a 1 = .ok (.invokestatic 59, 3) := by decide +kernel
theorem dJxf58ca_floatToIntBits_5c35a_4 : decode cJxf58ca_floatToIntBits_5c35a 4 = .ok (.ifCond .ne 8, 3) := by decide +kernel
theorem dJxf58ca_floatToIntBits_5c35a_7 : decode cJxf58ca_floatToIntBits_5c35a 7 = .ok (.fload_n 0, 1) := by decide +kernel
theorem dJxf58ca_floatToIntBits_5c35a_8 : decode cJxf58ca_floatToIntBits_5c35a 8 = .ok (.invokestatic 74, 3) := by decide +kernel
theorem dJxf58ca_floatToIntBits_5c35a_11 : decode cJxf58ca_floatToIntBits_5c35a 11 = .ok (.ireturn, 1) := by decide +kernel
theorem dJxf58ca_floatToIntBits_5c35a_12 : decode cJxf58ca_floatToIntBits_5c35a 12 = .ok (.ldc 77, 2) := by decide +kernel
theorem dJxf58ca_floatToIntBits_5c35a_14 : decode cJxf58ca_floatToIntBits_5c35a 14 = .ok (.ireturn, 1) := by decide +kernel
theorem dJ9_min_7cf53_0 : decode cJ9_min_7cf53 0 = .ok (.iload_n 0, 1) := by decide +kernel
theorem dJ9_min_7cf53_1 : decode cJ9_min_7cf53 1 = .ok (.iload_n 1, 1) := by decide +kernel
theorem dJ9_min_7cf53_2 : decode cJ9_min_7cf53 2 = .ok (.if_icmp .gt 7, 3) := by decide +kernel
theorem dJ9_min_7cf53_5 : decode cJ9_min_7cf53 5 = .ok (.iload_n 0, 1) := by decide +kernel
theorem dJ9_min_7cf53_6 : decode cJ9_min_7cf53 6 = .ok (.goto 4, 3) := by decide +kernel
theorem dJ9_min_7cf53_9 : decode cJ9_min_7cf53 9 = .ok (.iload_n 1, 1) := by decide +kernel
theorem dJ9_min_7cf53_10 : decode cJ9_min_7cf53 10 = .ok (.ireturn, 1) := by decide +kernel
theorem dJ7_fill_53178_0 : decode cJ7_fill_53178 0 = .ok (.iconst 0, 1) := by decide +kernel
theorem dJ7_fill_53178_1 : decode cJ7_fill_53178 1 = .ok (.istore_n 2, 1) := by decide +kernel
theorem dJ7_fill_53178_2 : decode cJ7_fill_53178 2 = .ok (.aload_n 0, 1) := by decide +kernel
theorem dJ7_fill_53178_3 : decode cJ7_fill_53178 3 = .ok (.arraylength, 1) := by decide +kernel
theorem dJ7_fill_53178_4 : decode cJ7_fill_53178 4 = .ok (.istore_n 3, 1) := by decide +kernel
theorem dJ7_fill_53178_5 : decode cJ7_fill_53178 5 = .ok (.iload_n 2, 1) := by decide +kernel
theorem dJ7_fill_53178_6 : decode cJ7_fill_53178 6 = .ok (.iload_n 3, 1) := by decide +kernel
theorem dJ7_fill_53178_7 : decode cJ7_fill_53178 7 = .ok (.if_icmp .ge 13, 3) := by decide +kernel
theorem dJ7_fill_53178_10 : decode cJ7_fill_53178 10 = .ok (.aload_n 0, 1) := by decide +kernel
theorem dJ7_fill_53178_11 : decode cJ7_fill_53178 11 = .ok (.iload_n 2, 1) := by decide +kernel
theorem dJ7_fill_53178_12 : decode cJ7_fill_53178 12 = .ok (.iload_n 1, 1) := by decide +kernel
theorem dJ7_fill_53178_13 : decode cJ7_fill_53178 13 = .ok (.iastore, 1) := by decide +kernel
theorem dJ7_fill_53178_14 : decode cJ7_fill_53178 14 = .ok (.iinc 2 1, 3) := by decide +kernel
theorem dJ7_fill_53178_17 : decode cJ7_fill_53178 17 = .ok (.goto (-12), 3) := by decide +kernel
theorem dJ7_fill_53178_20 : decode cJ7_fill_53178 20 = .ok (.return_, 1) := by decide +kernel
theorem dL_plug_0 : decode cL_plug 0 = .ok (.aload 5, 2) := by decide +kernel
theorem dL_plug_2 : decode cL_plug 2 = .ok (.iconst 0, 1) := by decide +kernel
theorem dL_plug_3 : decode cL_plug 3 = .ok (.aload_n 0, 1) := by decide +kernel
theorem dL_plug_4 : decode cL_plug 4 = .ok (.iload_n 1, 1) := by decide +kernel
theorem dL_plug_5 : decode cL_plug 5 = .ok (.iload_n 2, 1) := by decide +kernel
theorem dL_plug_6 : decode cL_plug 6 = .ok (.iload_n 3, 1) := by decide +kernel
theorem dL_plug_7 : decode cL_plug 7 = .ok (.iload 4, 2) := by decide +kernel
theorem dL_plug_9 : decode cL_plug 9 = .ok (.invokevirtual 7, 3) := by decide +kernel
theorem dL_plug_12 : decode cL_plug 12 = .ok (.i2l, 1) := by decide +kernel
theorem dL_plug_13 : decode cL_plug 13 = .ok (.lastore, 1) := by decide +kernel
theorem dL_plug_14 : decode cL_plug 14 = .ok (.goto 15, 3) := by decide +kernel
theorem dL_plug_17 : decode cL_plug 17 = .ok (.astore 6, 2) := by decide +kernel
theorem dL_plug_19 : decode cL_plug 19 = .ok (.iconst 1, 1) := by decide +kernel
theorem dL_plug_20 : decode cL_plug 20 = .ok (.ireturn, 1) := by decide +kernel
theorem dL_plug_21 : decode cL_plug 21 = .ok (.astore 6, 2) := by decide +kernel
theorem dL_plug_23 : decode cL_plug 23 = .ok (.iconst 2, 1) := by decide +kernel
theorem dL_plug_24 : decode cL_plug 24 = .ok (.ireturn, 1) := by decide +kernel
theorem dL_plug_25 : decode cL_plug 25 = .ok (.astore 6, 2) := by decide +kernel
theorem dL_plug_27 : decode cL_plug 27 = .ok (.iconst 3, 1) := by decide +kernel
theorem dL_plug_28 : decode cL_plug 28 = .ok (.ireturn, 1) := by decide +kernel
theorem dL_plug_29 : decode cL_plug 29 = .ok (.iconst 0, 1) := by decide +kernel
theorem dL_plug_30 : decode cL_plug 30 = .ok (.ireturn, 1) := by decide +kernel
theorem dL_pull_0 : decode cL_pull 0 = .ok (.aload_n 2, 1) := by decide +kernel
theorem dL_pull_1 : decode cL_pull 1 = .ok (.iconst 0, 1) := by decide +kernel
theorem dL_pull_2 : decode cL_pull 2 = .ok (.aload_n 0, 1) := by decide +kernel
theorem dL_pull_3 : decode cL_pull 3 = .ok (.iload_n 1, 1) := by decide +kernel
theorem dL_pull_4 : decode cL_pull 4 = .ok (.invokevirtual 19, 3) := by decide +kernel
theorem dL_pull_7 : decode cL_pull 7 = .ok (.i2l, 1) := by decide +kernel
theorem dL_pull_8 : decode cL_pull 8 = .ok (.lastore, 1) := by decide +kernel
theorem dL_pull_9 : decode cL_pull 9 = .ok (.goto 9, 3) := by decide +kernel
theorem dL_pull_12 : decode cL_pull 12 = .ok (.astore_n 3, 1) := by decide +kernel
theorem dL_pull_13 : decode cL_pull 13 = .ok (.iconst 1, 1) := by decide +kernel
theorem dL_pull_14 : decode cL_pull 14 = .ok (.ireturn, 1) := by decide +kernel
theorem dL_pull_15 : decode cL_pull 15 = .ok (.astore_n 3, 1) := by decide +kernel
theorem dL_pull_16 : decode cL_pull 16 = .ok (.iconst 2, 1) := by decide +kernel
theorem dL_pull_17 : decode cL_pull 17 = .ok (.ireturn, 1) := by decide +kernel
theorem dL_pull_18 : decode cL_pull 18 = .ok (.iconst 0, 1) := by decide +kernel
theorem dL_pull_19 : decode cL_pull 19 = .ok (.ireturn, 1) := by decide +kernel
theorem dL_fail_0 : decode cL_fail 0 = .ok (.aload_n 2, 1) := by decide +kernel
theorem dL_fail_1 : decode cL_fail 1 = .ok (.iconst 0, 1) := by decide +kernel
theorem dL_fail_2 : decode cL_fail 2 = .ok (.aload_n 0, 1) := by decide +kernel
theorem dL_fail_3 : decode cL_fail 3 = .ok (.iload_n 1, 1) := by decide +kernel
theorem dL_fail_4 : decode cL_fail 4 = .ok (.invokevirtual 23, 3) := by decide +kernel
theorem dL_fail_7 : decode cL_fail 7 = .ok (.i2l, 1) := by decide +kernel
theorem dL_fail_8 : decode cL_fail 8 = .ok (.lastore, 1) := by decide +kernel
theorem dL_fail_9 : decode cL_fail 9 = .ok (.goto 9, 3) := by decide +kernel
theorem dL_fail_12 : decode cL_fail 12 = .ok (.astore_n 3, 1) := by decide +kernel
theorem dL_fail_13 : decode cL_fail 13 = .ok (.iconst 1, 1) := by decide +kernel
theorem dL_fail_14 : decode cL_fail 14 = .ok (.ireturn, 1) := by decide +kernel
theorem dL_fail_15 : decode cL_fail 15 = .ok (.astore_n 3, 1) := by decide +kernel
theorem dL_fail_16 : decode cL_fail 16 = .ok (.iconst 2, 1) := by decide +kernel
theorem dL_fail_17 : decode cL_fail 17 = .ok (.ireturn, 1) := by decide +kernel
theorem dL_fail_18 : decode cL_fail 18 = .ok (.iconst 0, 1) := by decide +kernel
theorem dL_fail_19 : decode cL_fail 19 = .ok (.ireturn, 1) := by decide +kernel
theorem dL_start_0 : decode cL_start 0 = .ok (.aload_n 1, 1) := by decide +kernel
theorem dL_start_1 : decode cL_start 1 = .ok (.iconst 0, 1) := by decide +kernel
theorem dL_start_2 : decode cL_start 2 = .ok (.aload_n 0, 1) := by decide +kernel
theorem dL_start_3 : decode cL_start 3 = .ok (.invokevirtual 26, 3) := by decide +kernel
theorem dL_start_6 : decode cL_start 6 = .ok (.i2l, 1) := by decide +kernel
theorem dL_start_7 : decode cL_start 7 = .ok (.lastore, 1) := by decide +kernel
theorem dL_start_8 : decode cL_start 8 = .ok (.goto 6, 3) := by decide +kernel
theorem dL_start_11 : decode cL_start 11 = .ok (.astore_n 2, 1) := by decide +kernel
theorem dL_start_12 : decode cL_start 12 = .ok (.iconst 1, 1) := by decide +kernel
theorem dL_start_13 : decode cL_start 13 = .ok (.ireturn, 1) := by decide +kernel
theorem dL_start_14 : decode cL_start 14 = .ok (.iconst 0, 1) := by decide +kernel
theorem dL_start_15 : decode cL_start 15 = .ok (.ireturn, 1) := by decide +kernel
theorem dL_stop_0 : decode cL_stop 0 = .ok (.aload_n 1, 1) := by decide +kernel
theorem dL_stop_1 : decode cL_stop 1 = .ok (.iconst 0, 1) := by decide +kernel
theorem dL_stop_2 : decode cL_stop 2 = .ok (.aload_n 0, 1) := by decide +kernel
theorem dL_stop_3 : decode cL_stop 3 = .ok (.invokevirtual 30, 3) := by decide +kernel
theorem dL_stop_6 : decode cL_stop 6 = .ok (.i2l, 1) := by decide +kernel
theorem dL_stop_7 : decode cL_stop 7 = .ok (.lastore, 1) := by decide +kernel
theorem dL_stop_8 : decode cL_stop 8 = .ok (.goto 6, 3) := by decide +kernel
theorem dL_stop_11 : decode cL_stop 11 = .ok (.astore_n 2, 1) := by decide +kernel
theorem dL_stop_12 : decode cL_stop 12 = .ok (.iconst 1, 1) := by decide +kernel
theorem dL_stop_13 : decode cL_stop 13 = .ok (.ireturn, 1) := by decide +kernel
theorem dL_stop_14 : decode cL_stop 14 = .ok (.iconst 0, 1) := by decide +kernel
theorem dL_stop_15 : decode cL_stop 15 = .ok (.ireturn, 1) := by decide +kernel
theorem dL_write_0 : decode cL_write 0 = .ok (.aload_n 3, 1) := by decide +kernel
theorem dL_write_1 : decode cL_write 1 = .ok (.iconst 0, 1) := by decide +kernel
theorem dL_write_2 : decode cL_write 2 = .ok (.aload_n 0, 1) := by decide +kernel
theorem dL_write_3 : decode cL_write 3 = .ok (.iload_n 1, 1) := by decide +kernel
theorem dL_write_4 : decode cL_write 4 = .ok (.iload_n 2, 1) := by decide +kernel
theorem dL_write_5 : decode cL_write 5 = .ok (.invokevirtual 33, 3) := by decide +kernel
theorem dL_write_8 : decode cL_write 8 = .ok (.i2l, 1) := by decide +kernel
theorem dL_write_9 : decode cL_write 9 = .ok (.lastore, 1) := by decide +kernel
theorem dL_write_10 : decode cL_write 10 = .ok (.goto 15, 3) := by decide +kernel
theorem dL_write_13 : decode cL_write 13 = .ok (.astore 4, 2) := by decide +kernel
theorem dL_write_15 : decode cL_write 15 = .ok (.iconst 1, 1) := by decide +kernel
theorem dL_write_16 : decode cL_write 16 = .ok (.ireturn, 1) := by decide +kernel
theorem dL_write_17 : decode cL_write 17 = .ok (.astore 4, 2) := by decide +kernel
theorem dL_write_19 : decode cL_write 19 = .ok (.iconst 2, 1) := by decide +kernel
theorem dL_write_20 : decode cL_write 20 = .ok (.ireturn, 1) := by decide +kernel
theorem dL_write_21 : decode cL_write 21 = .ok (.astore 4, 2) := by decide +kernel
theorem dL_write_23 : decode cL_write 23 = .ok (.iconst 3, 1) := by decide +kernel
theorem dL_write_24 : decode cL_write 24 = .ok (.ireturn, 1) := by decide +kernel
theorem dL_write_25 : decode cL_write 25 = .ok (.iconst 0, 1) := by decide +kernel
theorem dL_write_26 : decode cL_write 26 = .ok (.ireturn, 1) := by decide +kernel
theorem dL_read_0 : decode cL_read 0 = .ok (.aload_n 2, 1) := by decide +kernel
theorem dL_read_1 : decode cL_read 1 = .ok (.iconst 0, 1) := by decide +kernel
theorem dL_read_2 : decode cL_read 2 = .ok (.aload_n 0, 1) := by decide +kernel
theorem dL_read_3 : decode cL_read 3 = .ok (.iload_n 1, 1) := by decide +kernel
theorem dL_read_4 : decode cL_read 4 = .ok (.invokevirtual 37, 3) := by decide +kernel
theorem dL_read_7 : decode cL_read 7 = .ok (.i2l, 1) := by decide +kernel
theorem dL_read_8 : decode cL_read 8 = .ok (.lastore, 1) := by decide +kernel
theorem dL_read_9 : decode cL_read 9 = .ok (.goto 9, 3) := by decide +kernel
theorem dL_read_12 : decode cL_read 12 = .ok (.astore_n 3, 1) := by decide +kernel
theorem dL_read_13 : decode cL_read 13 = .ok (.iconst 1, 1) := by decide +kernel
theorem dL_read_14 : decode cL_read 14 = .ok (.ireturn, 1) := by decide +kernel
theorem dL_read_15 : decode cL_read 15 = .ok (.astore_n 3, 1) := by decide +kernel
theorem dL_read_16 : decode cL_read 16 = .ok (.iconst 2, 1) := by decide +kernel
theorem dL_read_17 : decode cL_read 17 = .ok (.ireturn, 1) := by decide +kernel
theorem dL_read_18 : decode cL_read 18 = .ok (.iconst 0, 1) := by decide +kernel
theorem dL_read_19 : decode cL_read 19 = .ok (.ireturn, 1) := by decide +kernel
theorem dL_rest_0 : decode cL_rest 0 = .ok (.aload_n 2, 1) := by decide +kernel
theorem dL_rest_1 : decode cL_rest 1 = .ok (.iconst 0, 1) := by decide +kernel
theorem dL_rest_2 : decode cL_rest 2 = .ok (.aload_n 0, 1) := by decide +kernel
theorem dL_rest_3 : decode cL_rest 3 = .ok (.iload_n 1, 1) := by decide +kernel
theorem dL_rest_4 : decode cL_rest 4 = .ok (.invokevirtual 40, 3) := by decide +kernel
theorem dL_rest_7 : decode cL_rest 7 = .ok (.i2l, 1) := by decide +kernel
theorem dL_rest_8 : decode cL_rest 8 = .ok (.lastore, 1) := by decide +kernel
theorem dL_rest_9 : decode cL_rest 9 = .ok (.goto 6, 3) := by decide +kernel
theorem dL_rest_12 : decode cL_rest 12 = .ok (.astore_n 3, 1) := by decide +kernel
theorem dL_rest_13 : decode cL_rest 13 = .ok (.iconst 1, 1) := by decide +kernel
theorem dL_rest_14 : decode cL_rest 14 = .ok (.ireturn, 1) := by decide +kernel
theorem dL_rest_15 : decode cL_rest 15 = .ok (.iconst 0, 1) := by decide +kernel
theorem dL_rest_16 : decode cL_rest 16 = .ok (.ireturn, 1) := by decide +kernel
theorem dL_set_0 : decode cL_set 0 = .ok (.aload_n 3, 1) := by decide +kernel
theorem dL_set_1 : decode cL_set 1 = .ok (.iconst 0, 1) := by decide +kernel
theorem dL_set_2 : decode cL_set 2 = .ok (.aload_n 0, 1) := by decide +kernel
theorem dL_set_3 : decode cL_set 3 = .ok (.iload_n 1, 1) := by decide +kernel
theorem dL_set_4 : decode cL_set 4 = .ok (.iload_n 2, 1) := by decide +kernel
theorem dL_set_5 : decode cL_set 5 = .ok (.invokevirtual 43, 3) := by decide +kernel
theorem dL_set_8 : decode cL_set 8 = .ok (.i2l, 1) := by decide +kernel
theorem dL_set_9 : decode cL_set 9 = .ok (.lastore, 1) := by decide +kernel
theorem dL_set_10 : decode cL_set 10 = .ok (.goto 11, 3) := by decide +kernel
theorem dL_set_13 : decode cL_set 13 = .ok (.astore 4, 2) := by decide +kernel
theorem dL_set_15 : decode cL_set 15 = .ok (.iconst 1, 1) := by decide +kernel
theorem dL_set_16 : decode cL_set 16 = .ok (.ireturn, 1) := by decide +kernel
theorem dL_set_17 : decode cL_set 17 = .ok (.astore 4, 2) := by decide +kernel
theorem dL_set_19 : decode cL_set 19 = .ok (.iconst 2, 1) := by decide +kernel
theorem dL_set_20 : decode cL_set 20 = .ok (.ireturn, 1) := by decide +kernel
theorem dL_set_21 : decode cL_set 21 = .ok (.iconst 0, 1) := by decide +kernel
theorem dL_set_22 : decode cL_set 22 = .ok (.ireturn, 1) := by decide +kernel
theorem dL_append_0 : decode cL_append 0 = .ok (.aload_n 2, 1) := by decide +kernel
theorem dL_append_1 : decode cL_append 1 = .ok (.iconst 0, 1) := by decide +kernel
theorem dL_append_2 : decode cL_append 2 = .ok (.aload_n 0, 1) := by decide +kernel
theorem dL_append_3 : decode cL_append 3 = .ok (.iload_n 1, 1) := by decide +kernel
theorem dL_append_4 : decode cL_append 4 = .ok (.invokevirtual 46, 3) := by decide +kernel
theorem dL_append_7 : decode cL_append 7 = .ok (.i2l, 1) := by decide +kernel
theorem dL_append_8 : decode cL_append 8 = .ok (.lastore, 1) := by decide +kernel
theorem dL_append_9 : decode cL_append 9 = .ok (.goto 9, 3) := by decide +kernel
theorem dL_append_12 : decode cL_append 12 = .ok (.astore_n 3, 1) := by decide +kernel
theorem dL_append_13 : decode cL_append 13 = .ok (.iconst 1, 1) := by decide +kernel
theorem dL_append_14 : decode cL_append 14 = .ok (.ireturn, 1) := by decide +kernel
theorem dL_append_15 : decode cL_append 15 = .ok (.astore_n 3, 1) := by decide +kernel
theorem dL_append_16 : decode cL_append 16 = .ok (.iconst 2, 1) := by decide +kernel
theorem dL_append_17 : decode cL_append 17 = .ok (.ireturn, 1) := by decide +kernel
theorem dL_append_18 : decode cL_append 18 = .ok (.iconst 0, 1) := by decide +kernel
theorem dL_append_19 : decode cL_append 19 = .ok (.ireturn, 1) := by decide +kernel
theorem dL_run_0 : decode cL_run 0 = .ok (.aload_n 1, 1) := by decide +kernel
theorem dL_run_1 : decode cL_run 1 = .ok (.iconst 0, 1) := by decide +kernel
theorem dL_run_2 : decode cL_run 2 = .ok (.aload_n 0, 1) := by decide +kernel
theorem dL_run_3 : decode cL_run 3 = .ok (.invokevirtual 49, 3) := by decide +kernel
theorem dL_run_6 : decode cL_run 6 = .ok (.i2l, 1) := by decide +kernel
theorem dL_run_7 : decode cL_run 7 = .ok (.lastore, 1) := by decide +kernel
theorem dL_run_8 : decode cL_run 8 = .ok (.goto 6, 3) := by decide +kernel
theorem dL_run_11 : decode cL_run 11 = .ok (.astore_n 2, 1) := by decide +kernel
theorem dL_run_12 : decode cL_run 12 = .ok (.iconst 1, 1) := by decide +kernel
theorem dL_run_13 : decode cL_run 13 = .ok (.ireturn, 1) := by decide +kernel
theorem dL_run_14 : decode cL_run 14 = .ok (.iconst 0, 1) := by decide +kernel
theorem dL_run_15 : decode cL_run 15 = .ok (.ireturn, 1) := by decide +kernel
theorem dL_goBack_0 : decode cL_goBack 0 = .ok (.aload_n 1, 1) := by decide +kernel
theorem dL_goBack_1 : decode cL_goBack 1 = .ok (.iconst 0, 1) := by decide +kernel
theorem dL_goBack_2 : decode cL_goBack 2 = .ok (.aload_n 0, 1) := by decide +kernel
theorem dL_goBack_3 : decode cL_goBack 3 = .ok (.invokevirtual 52, 3) := by decide +kernel
theorem dL_goBack_6 : decode cL_goBack 6 = .ok (.i2l, 1) := by decide +kernel
theorem dL_goBack_7 : decode cL_goBack 7 = .ok (.lastore, 1) := by decide +kernel
theorem dL_goBack_8 : decode cL_goBack 8 = .ok (.goto 6, 3) := by decide +kernel
theorem dL_goBack_11 : decode cL_goBack 11 = .ok (.astore_n 2, 1) := by decide +kernel
theorem dL_goBack_12 : decode cL_goBack 12 = .ok (.iconst 1, 1) := by decide +kernel
theorem dL_goBack_13 : decode cL_goBack 13 = .ok (.ireturn, 1) := by decide +kernel
theorem dL_goBack_14 : decode cL_goBack 14 = .ok (.iconst 0, 1) := by decide +kernel
theorem dL_goBack_15 : decode cL_goBack 15 = .ok (.ireturn, 1) := by decide +kernel
theorem dL_undo_0 : decode cL_undo 0 = .ok (.aload_n 1, 1) := by decide +kernel
theorem dL_undo_1 : decode cL_undo 1 = .ok (.iconst 0, 1) := by decide +kernel
theorem dL_undo_2 : decode cL_undo 2 = .ok (.aload_n 0, 1) := by decide +kernel
theorem dL_undo_3 : decode cL_undo 3 = .ok (.invokevirtual 55, 3) := by decide +kernel
theorem dL_undo_6 : decode cL_undo 6 = .ok (.i2l, 1) := by decide +kernel
theorem dL_undo_7 : decode cL_undo 7 = .ok (.lastore, 1) := by decide +kernel
theorem dL_undo_8 : decode cL_undo 8 = .ok (.goto 6, 3) := by decide +kernel
theorem dL_undo_11 : decode cL_undo 11 = .ok (.astore_n 2, 1) := by decide +kernel
theorem dL_undo_12 : decode cL_undo 12 = .ok (.iconst 1, 1) := by decide +kernel
theorem dL_undo_13 : decode cL_undo 13 = .ok (.ireturn, 1) := by decide +kernel
theorem dL_undo_14 : decode cL_undo 14 = .ok (.iconst 0, 1) := by decide +kernel
theorem dL_undo_15 : decode cL_undo 15 = .ok (.ireturn, 1) := by decide +kernel
theorem dL_slot_0 : decode cL_slot 0 = .ok (.aload_n 3, 1) := by decide +kernel
theorem dL_slot_1 : decode cL_slot 1 = .ok (.iconst 0, 1) := by decide +kernel
theorem dL_slot_2 : decode cL_slot 2 = .ok (.aload_n 0, 1) := by decide +kernel
theorem dL_slot_3 : decode cL_slot 3 = .ok (.iload_n 1, 1) := by decide +kernel
theorem dL_slot_4 : decode cL_slot 4 = .ok (.iload_n 2, 1) := by decide +kernel
theorem dL_slot_5 : decode cL_slot 5 = .ok (.invokevirtual 58, 3) := by decide +kernel
theorem dL_slot_8 : decode cL_slot 8 = .ok (.i2l, 1) := by decide +kernel
theorem dL_slot_9 : decode cL_slot 9 = .ok (.lastore, 1) := by decide +kernel
theorem dL_slot_10 : decode cL_slot 10 = .ok (.goto 11, 3) := by decide +kernel
theorem dL_slot_13 : decode cL_slot 13 = .ok (.astore 4, 2) := by decide +kernel
theorem dL_slot_15 : decode cL_slot 15 = .ok (.iconst 1, 1) := by decide +kernel
theorem dL_slot_16 : decode cL_slot 16 = .ok (.ireturn, 1) := by decide +kernel
theorem dL_slot_17 : decode cL_slot 17 = .ok (.astore 4, 2) := by decide +kernel
theorem dL_slot_19 : decode cL_slot 19 = .ok (.iconst 2, 1) := by decide +kernel
theorem dL_slot_20 : decode cL_slot 20 = .ok (.ireturn, 1) := by decide +kernel
theorem dL_slot_21 : decode cL_slot 21 = .ok (.iconst 0, 1) := by decide +kernel
theorem dL_slot_22 : decode cL_slot 22 = .ok (.ireturn, 1) := by decide +kernel
theorem dL_where_0 : decode cL_where 0 = .ok (.aload_n 3, 1) := by decide +kernel
theorem dL_where_1 : decode cL_where 1 = .ok (.iconst 0, 1) := by decide +kernel
theorem dL_where_2 : decode cL_where 2 = .ok (.aload_n 0, 1) := by decide +kernel
theorem dL_where_3 : decode cL_where 3 = .ok (.iload_n 1, 1) := by decide +kernel
theorem dL_where_4 : decode cL_where 4 = .ok (.iload_n 2, 1) := by decide +kernel
theorem dL_where_5 : decode cL_where 5 = .ok (.invokevirtual 61, 3) := by decide +kernel
theorem dL_where_8 : decode cL_where 8 = .ok (.i2l, 1) := by decide +kernel
theorem dL_where_9 : decode cL_where 9 = .ok (.lastore, 1) := by decide +kernel
theorem dL_where_10 : decode cL_where 10 = .ok (.goto 11, 3) := by decide +kernel
theorem dL_where_13 : decode cL_where 13 = .ok (.astore 4, 2) := by decide +kernel
theorem dL_where_15 : decode cL_where 15 = .ok (.iconst 1, 1) := by decide +kernel
theorem dL_where_16 : decode cL_where 16 = .ok (.ireturn, 1) := by decide +kernel
theorem dL_where_17 : decode cL_where 17 = .ok (.astore 4, 2) := by decide +kernel
theorem dL_where_19 : decode cL_where 19 = .ok (.iconst 2, 1) := by decide +kernel
theorem dL_where_20 : decode cL_where 20 = .ok (.ireturn, 1) := by decide +kernel
theorem dL_where_21 : decode cL_where 21 = .ok (.iconst 0, 1) := by decide +kernel
theorem dL_where_22 : decode cL_where 22 = .ok (.ireturn, 1) := by decide +kernel
theorem dL_lies_0 : decode cL_lies 0 = .ok (.aload_n 3, 1) := by decide +kernel
theorem dL_lies_1 : decode cL_lies 1 = .ok (.iconst 0, 1) := by decide +kernel
theorem dL_lies_2 : decode cL_lies 2 = .ok (.aload_n 0, 1) := by decide +kernel
theorem dL_lies_3 : decode cL_lies 3 = .ok (.iload_n 1, 1) := by decide +kernel
theorem dL_lies_4 : decode cL_lies 4 = .ok (.iload_n 2, 1) := by decide +kernel
theorem dL_lies_5 : decode cL_lies 5 = .ok (.invokevirtual 64, 3) := by decide +kernel
theorem dL_lies_8 : decode cL_lies 8 = .ok (.i2l, 1) := by decide +kernel
theorem dL_lies_9 : decode cL_lies 9 = .ok (.lastore, 1) := by decide +kernel
theorem dL_lies_10 : decode cL_lies 10 = .ok (.goto 7, 3) := by decide +kernel
theorem dL_lies_13 : decode cL_lies 13 = .ok (.astore 4, 2) := by decide +kernel
theorem dL_lies_15 : decode cL_lies 15 = .ok (.iconst 1, 1) := by decide +kernel
theorem dL_lies_16 : decode cL_lies 16 = .ok (.ireturn, 1) := by decide +kernel
theorem dL_lies_17 : decode cL_lies 17 = .ok (.iconst 0, 1) := by decide +kernel
theorem dL_lies_18 : decode cL_lies 18 = .ok (.ireturn, 1) := by decide +kernel
theorem dL_count_0 : decode cL_count 0 = .ok (.aload_n 2, 1) := by decide +kernel
theorem dL_count_1 : decode cL_count 1 = .ok (.iconst 0, 1) := by decide +kernel
theorem dL_count_2 : decode cL_count 2 = .ok (.aload_n 0, 1) := by decide +kernel
theorem dL_count_3 : decode cL_count 3 = .ok (.iload_n 1, 1) := by decide +kernel
theorem dL_count_4 : decode cL_count 4 = .ok (.invokevirtual 67, 3) := by decide +kernel
theorem dL_count_7 : decode cL_count 7 = .ok (.i2l, 1) := by decide +kernel
theorem dL_count_8 : decode cL_count 8 = .ok (.lastore, 1) := by decide +kernel
theorem dL_count_9 : decode cL_count 9 = .ok (.goto 6, 3) := by decide +kernel
theorem dL_count_12 : decode cL_count 12 = .ok (.astore_n 3, 1) := by decide +kernel
theorem dL_count_13 : decode cL_count 13 = .ok (.iconst 1, 1) := by decide +kernel
theorem dL_count_14 : decode cL_count 14 = .ok (.ireturn, 1) := by decide +kernel
theorem dL_count_15 : decode cL_count 15 = .ok (.iconst 0, 1) := by decide +kernel
theorem dL_count_16 : decode cL_count 16 = .ok (.ireturn, 1) := by decide +kernel
theorem dL_setting_0 : decode cL_setting 0 = .ok (.aload_n 2, 1) := by decide +kernel
theorem dL_setting_1 : decode cL_setting 1 = .ok (.iconst 0, 1) := by decide +kernel
theorem dL_setting_2 : decode cL_setting 2 = .ok (.aload_n 0, 1) := by decide +kernel
theorem dL_setting_3 : decode cL_setting 3 = .ok (.iload_n 1, 1) := by decide +kernel
theorem dL_setting_4 : decode cL_setting 4 = .ok (.invokevirtual 70, 3) := by decide +kernel
theorem dL_setting_7 : decode cL_setting 7 = .ok (.i2l, 1) := by decide +kernel
theorem dL_setting_8 : decode cL_setting 8 = .ok (.lastore, 1) := by decide +kernel
theorem dL_setting_9 : decode cL_setting 9 = .ok (.goto 6, 3) := by decide +kernel
theorem dL_setting_12 : decode cL_setting 12 = .ok (.astore_n 3, 1) := by decide +kernel
theorem dL_setting_13 : decode cL_setting 13 = .ok (.iconst 1, 1) := by decide +kernel
theorem dL_setting_14 : decode cL_setting 14 = .ok (.ireturn, 1) := by decide +kernel
theorem dL_setting_15 : decode cL_setting 15 = .ok (.iconst 0, 1) := by decide +kernel
theorem dL_setting_16 : decode cL_setting 16 = .ok (.ireturn, 1) := by decide +kernel
theorem dL_sweep_0 : decode cL_sweep 0 = .ok (.aload_n 2, 1) := by decide +kernel
theorem dL_sweep_1 : decode cL_sweep 1 = .ok (.iconst 0, 1) := by decide +kernel
theorem dL_sweep_2 : decode cL_sweep 2 = .ok (.aload_n 0, 1) := by decide +kernel
theorem dL_sweep_3 : decode cL_sweep 3 = .ok (.iload_n 1, 1) := by decide +kernel
theorem dL_sweep_4 : decode cL_sweep 4 = .ok (.invokevirtual 73, 3) := by decide +kernel
theorem dL_sweep_7 : decode cL_sweep 7 = .ok (.i2l, 1) := by decide +kernel
theorem dL_sweep_8 : decode cL_sweep 8 = .ok (.lastore, 1) := by decide +kernel
theorem dL_sweep_9 : decode cL_sweep 9 = .ok (.goto 6, 3) := by decide +kernel
theorem dL_sweep_12 : decode cL_sweep 12 = .ok (.astore_n 3, 1) := by decide +kernel
theorem dL_sweep_13 : decode cL_sweep 13 = .ok (.iconst 1, 1) := by decide +kernel
theorem dL_sweep_14 : decode cL_sweep 14 = .ok (.ireturn, 1) := by decide +kernel
theorem dL_sweep_15 : decode cL_sweep 15 = .ok (.iconst 0, 1) := by decide +kernel
theorem dL_sweep_16 : decode cL_sweep 16 = .ok (.ireturn, 1) := by decide +kernel
theorem dL_ifStarted_0 : decode cL_ifStarted 0 = .ok (.aload_n 3, 1) := by decide +kernel
theorem dL_ifStarted_1 : decode cL_ifStarted 1 = .ok (.iconst 0, 1) := by decide +kernel
theorem dL_ifStarted_2 : decode cL_ifStarted 2 = .ok (.aload_n 0, 1) := by decide +kernel
theorem dL_ifStarted_3 : decode cL_ifStarted 3 = .ok (.iload_n 1, 1) := by decide +kernel
theorem dL_ifStarted_4 : decode cL_ifStarted 4 = .ok (.iload_n 2, 1) := by decide +kernel
theorem dL_ifStarted_5 : decode cL_ifStarted 5 = .ok (.invokevirtual 76, 3) := by decide +kernel
theorem dL_ifStarted_8 : decode cL_ifStarted 8 = .ok (.i2l, 1) := by decide +kernel
theorem dL_ifStarted_9 : decode cL_ifStarted 9 = .ok (.lastore, 1) := by decide +kernel
theorem dL_ifStarted_10 : decode cL_ifStarted 10 = .ok (.goto 7, 3) := by decide +kernel
theorem dL_ifStarted_13 : decode cL_ifStarted 13 = .ok (.astore 4, 2) := by decide +kernel
theorem dL_ifStarted_15 : decode cL_ifStarted 15 = .ok (.iconst 1, 1) := by decide +kernel
theorem dL_ifStarted_16 : decode cL_ifStarted 16 = .ok (.ireturn, 1) := by decide +kernel
theorem dL_ifStarted_17 : decode cL_ifStarted 17 = .ok (.iconst 0, 1) := by decide +kernel
theorem dL_ifStarted_18 : decode cL_ifStarted 18 = .ok (.ireturn, 1) := by decide +kernel
theorem dL_law_0 : decode cL_law 0 = .ok (.new 8, 3) := by decide +kernel
theorem dL_law_3 : decode cL_law 3 = .ok (.dup, 1) := by decide +kernel
theorem dL_law_4 : decode cL_law 4 = .ok (.invokespecial 79, 3) := by decide +kernel
theorem dL_law_7 : decode cL_law 7 = .ok (.astore_n 1, 1) := by decide +kernel
theorem dL_law_8 : decode cL_law 8 = .ok (.new 80, 3) := by decide +kernel
theorem dL_law_11 : decode cL_law 11 = .ok (.dup, 1) := by decide +kernel
theorem dL_law_12 : decode cL_law 12 = .ok (.invokespecial 82, 3) := by decide +kernel
theorem dL_law_15 : decode cL_law 15 = .ok (.astore_n 2, 1) := by decide +kernel
theorem dL_law_16 : decode cL_law 16 = .ok (.iconst 1, 1) := by decide +kernel
theorem dL_law_17 : decode cL_law 17 = .ok (.newarray .long, 2) := by decide +kernel
theorem dL_law_19 : decode cL_law 19 = .ok (.astore_n 3, 1) := by decide +kernel
theorem dL_law_20 : decode cL_law 20 = .ok (.iconst 0, 1) := by decide +kernel
theorem dL_law_21 : decode cL_law 21 = .ok (.istore 4, 2) := by decide +kernel
theorem dL_law_23 : decode cL_law 23 = .ok (.iload 4, 2) := by decide +kernel
theorem dL_law_25 : decode cL_law 25 = .ok (.aload_n 0, 1) := by decide +kernel
theorem dL_law_26 : decode cL_law 26 = .ok (.arraylength, 1) := by decide +kernel
theorem dL_law_27 : decode cL_law 27 = .ok (.iconst 5, 1) := by decide +kernel
theorem dL_law_28 : decode cL_law 28 = .ok (.isub, 1) := by decide +kernel
theorem dL_law_29 : decode cL_law 29 = .ok (.if_icmp .gt 1472, 3) := by decide +kernel
theorem dL_law_32 : decode cL_law 32 = .ok (.aload_n 0, 1) := by decide +kernel
theorem dL_law_33 : decode cL_law 33 = .ok (.iload 4, 2) := by decide +kernel
theorem dL_law_35 : decode cL_law 35 = .ok (.iaload, 1) := by decide +kernel
theorem dL_law_36 : decode cL_law 36 = .ok (.bipush 31, 2) := by decide +kernel
theorem dL_law_38 : decode cL_law 38 = .ok (.iand, 1) := by decide +kernel
theorem dL_law_39 : decode cL_law 39 = .ok (.tableswitch 1456 0 27 #[125, 217, 273, 329, 373, 417, 485, 541, 597, 665, 721, 734, 747, 791, 804, 848, 892, 960, 1028, 1096, 1152, 1208, 1221, 1277, 1345, 1358, 1399, 1442], 125) := by decide +kernel
theorem dL_law_164 : decode cL_law 164 = .ok (.aload_n 1, 1) := by decide +kernel
theorem dL_law_165 : decode cL_law 165 = .ok (.aload_n 0, 1) := by decide +kernel
theorem dL_law_166 : decode cL_law 166 = .ok (.iload 4, 2) := by decide +kernel
theorem dL_law_168 : decode cL_law 168 = .ok (.iconst 1, 1) := by decide +kernel
theorem dL_law_169 : decode cL_law 169 = .ok (.iadd, 1) := by decide +kernel
theorem dL_law_170 : decode cL_law 170 = .ok (.iaload, 1) := by decide +kernel
theorem dL_law_171 : decode cL_law 171 = .ok (.aload_n 0, 1) := by decide +kernel
theorem dL_law_172 : decode cL_law 172 = .ok (.iload 4, 2) := by decide +kernel
theorem dL_law_174 : decode cL_law 174 = .ok (.iconst 2, 1) := by decide +kernel
theorem dL_law_175 : decode cL_law 175 = .ok (.iadd, 1) := by decide +kernel
theorem dL_law_176 : decode cL_law 176 = .ok (.iaload, 1) := by decide +kernel
theorem dL_law_177 : decode cL_law 177 = .ok (.aload_n 0, 1) := by decide +kernel
theorem dL_law_178 : decode cL_law 178 = .ok (.iload 4, 2) := by decide +kernel
theorem dL_law_180 : decode cL_law 180 = .ok (.iconst 3, 1) := by decide +kernel
theorem dL_law_181 : decode cL_law 181 = .ok (.iadd, 1) := by decide +kernel
theorem dL_law_182 : decode cL_law 182 = .ok (.iaload, 1) := by decide +kernel
theorem dL_law_183 : decode cL_law 183 = .ok (.aload_n 0, 1) := by decide +kernel
theorem dL_law_184 : decode cL_law 184 = .ok (.iload 4, 2) := by decide +kernel
theorem dL_law_186 : decode cL_law 186 = .ok (.iconst 4, 1) := by decide +kernel
theorem dL_law_187 : decode cL_law 187 = .ok (.iadd, 1) := by decide +kernel
theorem dL_law_188 : decode cL_law 188 = .ok (.iaload, 1) := by decide +kernel
theorem dL_law_189 : decode cL_law 189 = .ok (.aload_n 3, 1) := by decide +kernel
theorem dL_law_190 : decode cL_law 190 = .ok (.invokestatic 83, 3) := by decide +kernel
theorem dL_law_193 : decode cL_law 193 = .ok (.istore 5, 2) := by decide +kernel
theorem dL_law_195 : decode cL_law 195 = .ok (.aload_n 2, 1) := by decide +kernel
theorem dL_law_196 : decode cL_law 196 = .ok (.aload_n 0, 1) := by decide +kernel
theorem dL_law_197 : decode cL_law 197 = .ok (.iload 4, 2) := by decide +kernel
theorem dL_law_199 : decode cL_law 199 = .ok (.iconst 1, 1) := by decide +kernel
theorem dL_law_200 : decode cL_law 200 = .ok (.iadd, 1) := by decide +kernel
theorem dL_law_201 : decode cL_law 201 = .ok (.iaload, 1) := by decide +kernel
theorem dL_law_202 : decode cL_law 202 = .ok (.aload_n 0, 1) := by decide +kernel
theorem dL_law_203 : decode cL_law 203 = .ok (.iload 4, 2) := by decide +kernel
theorem dL_law_205 : decode cL_law 205 = .ok (.iconst 2, 1) := by decide +kernel
theorem dL_law_206 : decode cL_law 206 = .ok (.iadd, 1) := by decide +kernel
theorem dL_law_207 : decode cL_law 207 = .ok (.iaload, 1) := by decide +kernel
theorem dL_law_208 : decode cL_law 208 = .ok (.aload_n 0, 1) := by decide +kernel
theorem dL_law_209 : decode cL_law 209 = .ok (.iload 4, 2) := by decide +kernel
theorem dL_law_211 : decode cL_law 211 = .ok (.iconst 3, 1) := by decide +kernel
theorem dL_law_212 : decode cL_law 212 = .ok (.iadd, 1) := by decide +kernel
theorem dL_law_213 : decode cL_law 213 = .ok (.iaload, 1) := by decide +kernel
theorem dL_law_214 : decode cL_law 214 = .ok (.aload_n 0, 1) := by decide +kernel
theorem dL_law_215 : decode cL_law 215 = .ok (.iload 4, 2) := by decide +kernel
theorem dL_law_217 : decode cL_law 217 = .ok (.iconst 4, 1) := by decide +kernel
theorem dL_law_218 : decode cL_law 218 = .ok (.iadd, 1) := by decide +kernel
theorem dL_law_219 : decode cL_law 219 = .ok (.iaload, 1) := by decide +kernel
theorem dL_law_220 : decode cL_law 220 = .ok (.invokevirtual 88, 3) := by decide +kernel
theorem dL_law_223 : decode cL_law 223 = .ok (.istore 6, 2) := by decide +kernel
theorem dL_law_225 : decode cL_law 225 = .ok (.aload_n 2, 1) := by decide +kernel
theorem dL_law_226 : decode cL_law 226 = .ok (.invokevirtual 89, 3) := by decide +kernel
theorem dL_law_229 : decode cL_law 229 = .ok (.iload 5, 2) := by decide +kernel
theorem dL_law_231 : decode cL_law 231 = .ok (.if_icmp .eq 5, 3) := by decide +kernel
theorem dL_law_234 : decode cL_law 234 = .ok (.iconst 0, 1) := by decide +kernel
theorem dL_law_235 : decode cL_law 235 = .ok (.ireturn, 1) := by decide +kernel
theorem dL_law_236 : decode cL_law 236 = .ok (.iload 5, 2) := by decide +kernel
theorem dL_law_238 : decode cL_law 238 = .ok (.ifCond .ne 15, 3) := by decide +kernel
theorem dL_law_241 : decode cL_law 241 = .ok (.aload_n 3, 1) := by decide +kernel
theorem dL_law_242 : decode cL_law 242 = .ok (.iconst 0, 1) := by decide +kernel
theorem dL_law_243 : decode cL_law 243 = .ok (.laload, 1) := by decide +kernel
theorem dL_law_244 : decode cL_law 244 = .ok (.iload 6, 2) := by decide +kernel
theorem dL_law_246 : decode cL_law 246 = .ok (.i2l, 1) := by decide +kernel
theorem dL_law_247 : decode cL_law 247 = .ok (.lcmp, 1) := by decide +kernel
theorem dL_law_248 : decode cL_law 248 = .ok (.ifCond .eq 5, 3) := by decide +kernel
theorem dL_law_251 : decode cL_law 251 = .ok (.iconst 0, 1) := by decide +kernel
theorem dL_law_252 : decode cL_law 252 = .ok (.ireturn, 1) := by decide +kernel
theorem dL_law_253 : decode cL_law 253 = .ok (.goto 1242, 3) := by decide +kernel
theorem dL_law_256 : decode cL_law 256 = .ok (.aload_n 1, 1) := by decide +kernel
theorem dL_law_257 : decode cL_law 257 = .ok (.aload_n 0, 1) := by decide +kernel
theorem dL_law_258 : decode cL_law 258 = .ok (.iload 4, 2) := by decide +kernel
theorem dL_law_260 : decode cL_law 260 = .ok (.iconst 1, 1) := by decide +kernel
theorem dL_law_261 : decode cL_law 261 = .ok (.iadd, 1) := by decide +kernel
theorem dL_law_262 : decode cL_law 262 = .ok (.iaload, 1) := by decide +kernel
theorem dL_law_263 : decode cL_law 263 = .ok (.aload_n 3, 1) := by decide +kernel
theorem dL_law_264 : decode cL_law 264 = .ok (.invokestatic 92, 3) := by decide +kernel
theorem dL_law_267 : decode cL_law 267 = .ok (.istore 5, 2) := by decide +kernel
theorem dL_law_269 : decode cL_law 269 = .ok (.aload_n 2, 1) := by decide +kernel
theorem dL_law_270 : decode cL_law 270 = .ok (.aload_n 0, 1) := by decide +kernel
theorem dL_law_271 : decode cL_law 271 = .ok (.iload 4, 2) := by decide +kernel
theorem dL_law_273 : decode cL_law 273 = .ok (.iconst 1, 1) := by decide +kernel
theorem dL_law_274 : decode cL_law 274 = .ok (.iadd, 1) := by decide +kernel
theorem dL_law_275 : decode cL_law 275 = .ok (.iaload, 1) := by decide +kernel
theorem dL_law_276 : decode cL_law 276 = .ok (.invokevirtual 95, 3) := by decide +kernel
theorem dL_law_279 : decode cL_law 279 = .ok (.istore 6, 2) := by decide +kernel
theorem dL_law_281 : decode cL_law 281 = .ok (.aload_n 2, 1) := by decide +kernel
theorem dL_law_282 : decode cL_law 282 = .ok (.invokevirtual 89, 3) := by decide +kernel
theorem dL_law_285 : decode cL_law 285 = .ok (.iload 5, 2) := by decide +kernel
theorem dL_law_287 : decode cL_law 287 = .ok (.if_icmp .eq 5, 3) := by decide +kernel
theorem dL_law_290 : decode cL_law 290 = .ok (.iconst 0, 1) := by decide +kernel
theorem dL_law_291 : decode cL_law 291 = .ok (.ireturn, 1) := by decide +kernel
theorem dL_law_292 : decode cL_law 292 = .ok (.iload 5, 2) := by decide +kernel
theorem dL_law_294 : decode cL_law 294 = .ok (.ifCond .ne 15, 3) := by decide +kernel
theorem dL_law_297 : decode cL_law 297 = .ok (.aload_n 3, 1) := by decide +kernel
theorem dL_law_298 : decode cL_law 298 = .ok (.iconst 0, 1) := by decide +kernel
theorem dL_law_299 : decode cL_law 299 = .ok (.laload, 1) := by decide +kernel
theorem dL_law_300 : decode cL_law 300 = .ok (.iload 6, 2) := by decide +kernel
theorem dL_law_302 : decode cL_law 302 = .ok (.i2l, 1) := by decide +kernel
theorem dL_law_303 : decode cL_law 303 = .ok (.lcmp, 1) := by decide +kernel
theorem dL_law_304 : decode cL_law 304 = .ok (.ifCond .eq 5, 3) := by decide +kernel
theorem dL_law_307 : decode cL_law 307 = .ok (.iconst 0, 1) := by decide +kernel
theorem dL_law_308 : decode cL_law 308 = .ok (.ireturn, 1) := by decide +kernel
theorem dL_law_309 : decode cL_law 309 = .ok (.goto 1186, 3) := by decide +kernel
theorem dL_law_312 : decode cL_law 312 = .ok (.aload_n 1, 1) := by decide +kernel
theorem dL_law_313 : decode cL_law 313 = .ok (.aload_n 0, 1) := by decide +kernel
theorem dL_law_314 : decode cL_law 314 = .ok (.iload 4, 2) := by decide +kernel
theorem dL_law_316 : decode cL_law 316 = .ok (.iconst 1, 1) := by decide +kernel
theorem dL_law_317 : decode cL_law 317 = .ok (.iadd, 1) := by decide +kernel
theorem dL_law_318 : decode cL_law 318 = .ok (.iaload, 1) := by decide +kernel
theorem dL_law_319 : decode cL_law 319 = .ok (.aload_n 3, 1) := by decide +kernel
theorem dL_law_320 : decode cL_law 320 = .ok (.invokestatic 96, 3) := by decide +kernel
theorem dL_law_323 : decode cL_law 323 = .ok (.istore 5, 2) := by decide +kernel
theorem dL_law_325 : decode cL_law 325 = .ok (.aload_n 2, 1) := by decide +kernel
theorem dL_law_326 : decode cL_law 326 = .ok (.aload_n 0, 1) := by decide +kernel
theorem dL_law_327 : decode cL_law 327 = .ok (.iload 4, 2) := by decide +kernel
theorem dL_law_329 : decode cL_law 329 = .ok (.iconst 1, 1) := by decide +kernel
theorem dL_law_330 : decode cL_law 330 = .ok (.iadd, 1) := by decide +kernel
theorem dL_law_331 : decode cL_law 331 = .ok (.iaload, 1) := by decide +kernel
theorem dL_law_332 : decode cL_law 332 = .ok (.invokevirtual 98, 3) := by decide +kernel
theorem dL_law_335 : decode cL_law 335 = .ok (.istore 6, 2) := by decide +kernel
theorem dL_law_337 : decode cL_law 337 = .ok (.aload_n 2, 1) := by decide +kernel
theorem dL_law_338 : decode cL_law 338 = .ok (.invokevirtual 89, 3) := by decide +kernel
theorem dL_law_341 : decode cL_law 341 = .ok (.iload 5, 2) := by decide +kernel
theorem dL_law_343 : decode cL_law 343 = .ok (.if_icmp .eq 5, 3) := by decide +kernel
theorem dL_law_346 : decode cL_law 346 = .ok (.iconst 0, 1) := by decide +kernel
theorem dL_law_347 : decode cL_law 347 = .ok (.ireturn, 1) := by decide +kernel
theorem dL_law_348 : decode cL_law 348 = .ok (.iload 5, 2) := by decide +kernel
theorem dL_law_350 : decode cL_law 350 = .ok (.ifCond .ne 15, 3) := by decide +kernel
theorem dL_law_353 : decode cL_law 353 = .ok (.aload_n 3, 1) := by decide +kernel
theorem dL_law_354 : decode cL_law 354 = .ok (.iconst 0, 1) := by decide +kernel
theorem dL_law_355 : decode cL_law 355 = .ok (.laload, 1) := by decide +kernel
theorem dL_law_356 : decode cL_law 356 = .ok (.iload 6, 2) := by decide +kernel
theorem dL_law_358 : decode cL_law 358 = .ok (.i2l, 1) := by decide +kernel
theorem dL_law_359 : decode cL_law 359 = .ok (.lcmp, 1) := by decide +kernel
theorem dL_law_360 : decode cL_law 360 = .ok (.ifCond .eq 5, 3) := by decide +kernel
theorem dL_law_363 : decode cL_law 363 = .ok (.iconst 0, 1) := by decide +kernel
theorem dL_law_364 : decode cL_law 364 = .ok (.ireturn, 1) := by decide +kernel
theorem dL_law_365 : decode cL_law 365 = .ok (.goto 1130, 3) := by decide +kernel
theorem dL_law_368 : decode cL_law 368 = .ok (.aload_n 1, 1) := by decide +kernel
theorem dL_law_369 : decode cL_law 369 = .ok (.aload_n 3, 1) := by decide +kernel
theorem dL_law_370 : decode cL_law 370 = .ok (.invokestatic 99, 3) := by decide +kernel
theorem dL_law_373 : decode cL_law 373 = .ok (.istore 5, 2) := by decide +kernel
theorem dL_law_375 : decode cL_law 375 = .ok (.aload_n 2, 1) := by decide +kernel
theorem dL_law_376 : decode cL_law 376 = .ok (.invokevirtual 102, 3) := by decide +kernel
theorem dL_law_379 : decode cL_law 379 = .ok (.istore 6, 2) := by decide +kernel
theorem dL_law_381 : decode cL_law 381 = .ok (.aload_n 2, 1) := by decide +kernel
theorem dL_law_382 : decode cL_law 382 = .ok (.invokevirtual 89, 3) := by decide +kernel
theorem dL_law_385 : decode cL_law 385 = .ok (.iload 5, 2) := by decide +kernel
theorem dL_law_387 : decode cL_law 387 = .ok (.if_icmp .eq 5, 3) := by decide +kernel
theorem dL_law_390 : decode cL_law 390 = .ok (.iconst 0, 1) := by decide +kernel
theorem dL_law_391 : decode cL_law 391 = .ok (.ireturn, 1) := by decide +kernel
theorem dL_law_392 : decode cL_law 392 = .ok (.iload 5, 2) := by decide +kernel
theorem dL_law_394 : decode cL_law 394 = .ok (.ifCond .ne 15, 3) := by decide +kernel
theorem dL_law_397 : decode cL_law 397 = .ok (.aload_n 3, 1) := by decide +kernel
theorem dL_law_398 : decode cL_law 398 = .ok (.iconst 0, 1) := by decide +kernel
theorem dL_law_399 : decode cL_law 399 = .ok (.laload, 1) := by decide +kernel
theorem dL_law_400 : decode cL_law 400 = .ok (.iload 6, 2) := by decide +kernel
theorem dL_law_402 : decode cL_law 402 = .ok (.i2l, 1) := by decide +kernel
theorem dL_law_403 : decode cL_law 403 = .ok (.lcmp, 1) := by decide +kernel
theorem dL_law_404 : decode cL_law 404 = .ok (.ifCond .eq 5, 3) := by decide +kernel
theorem dL_law_407 : decode cL_law 407 = .ok (.iconst 0, 1) := by decide +kernel
theorem dL_law_408 : decode cL_law 408 = .ok (.ireturn, 1) := by decide +kernel
theorem dL_law_409 : decode cL_law 409 = .ok (.goto 1086, 3) := by decide +kernel
theorem dL_law_412 : decode cL_law 412 = .ok (.aload_n 1, 1) := by decide +kernel
theorem dL_law_413 : decode cL_law 413 = .ok (.aload_n 3, 1) := by decide +kernel
theorem dL_law_414 : decode cL_law 414 = .ok (.invokestatic 103, 3) := by decide +kernel
theorem dL_law_417 : decode cL_law 417 = .ok (.istore 5, 2) := by decide +kernel
theorem dL_law_419 : decode cL_law 419 = .ok (.aload_n 2, 1) := by decide +kernel
theorem dL_law_420 : decode cL_law 420 = .ok (.invokevirtual 105, 3) := by decide +kernel
theorem dL_law_423 : decode cL_law 423 = .ok (.istore 6, 2) := by decide +kernel
theorem dL_law_425 : decode cL_law 425 = .ok (.aload_n 2, 1) := by decide +kernel
theorem dL_law_426 : decode cL_law 426 = .ok (.invokevirtual 89, 3) := by decide +kernel
theorem dL_law_429 : decode cL_law 429 = .ok (.iload 5, 2) := by decide +kernel
theorem dL_law_431 : decode cL_law 431 = .ok (.if_icmp .eq 5, 3) := by decide +kernel
theorem dL_law_434 : decode cL_law 434 = .ok (.iconst 0, 1) := by decide +kernel
theorem dL_law_435 : decode cL_law 435 = .ok (.ireturn, 1) := by decide +kernel
theorem dL_law_436 : decode cL_law 436 = .ok (.iload 5, 2) := by decide +kernel
theorem dL_law_438 : decode cL_law 438 = .ok (.ifCond .ne 15, 3) := by decide +kernel
theorem dL_law_441 : decode cL_law 441 = .ok (.aload_n 3, 1) := by decide +kernel
theorem dL_law_442 : decode cL_law 442 = .ok (.iconst 0, 1) := by decide +kernel
theorem dL_law_443 : decode cL_law 443 = .ok (.laload, 1) := by decide +kernel
theorem dL_law_444 : decode cL_law 444 = .ok (.iload 6, 2) := by decide +kernel
theorem dL_law_446 : decode cL_law 446 = .ok (.i2l, 1) := by decide +kernel
theorem dL_law_447 : decode cL_law 447 = .ok (.lcmp, 1) := by decide +kernel
theorem dL_law_448 : decode cL_law 448 = .ok (.ifCond .eq 5, 3) := by decide +kernel
theorem dL_law_451 : decode cL_law 451 = .ok (.iconst 0, 1) := by decide +kernel
theorem dL_law_452 : decode cL_law 452 = .ok (.ireturn, 1) := by decide +kernel
theorem dL_law_453 : decode cL_law 453 = .ok (.goto 1042, 3) := by decide +kernel
theorem dL_law_456 : decode cL_law 456 = .ok (.aload_n 1, 1) := by decide +kernel
theorem dL_law_457 : decode cL_law 457 = .ok (.aload_n 0, 1) := by decide +kernel
theorem dL_law_458 : decode cL_law 458 = .ok (.iload 4, 2) := by decide +kernel
theorem dL_law_460 : decode cL_law 460 = .ok (.iconst 1, 1) := by decide +kernel
theorem dL_law_461 : decode cL_law 461 = .ok (.iadd, 1) := by decide +kernel
theorem dL_law_462 : decode cL_law 462 = .ok (.iaload, 1) := by decide +kernel
theorem dL_law_463 : decode cL_law 463 = .ok (.aload_n 0, 1) := by decide +kernel
theorem dL_law_464 : decode cL_law 464 = .ok (.iload 4, 2) := by decide +kernel
theorem dL_law_466 : decode cL_law 466 = .ok (.iconst 2, 1) := by decide +kernel
theorem dL_law_467 : decode cL_law 467 = .ok (.iadd, 1) := by decide +kernel
theorem dL_law_468 : decode cL_law 468 = .ok (.iaload, 1) := by decide +kernel
theorem dL_law_469 : decode cL_law 469 = .ok (.aload_n 3, 1) := by decide +kernel
theorem dL_law_470 : decode cL_law 470 = .ok (.invokestatic 106, 3) := by decide +kernel
theorem dL_law_473 : decode cL_law 473 = .ok (.istore 5, 2) := by decide +kernel
theorem dL_law_475 : decode cL_law 475 = .ok (.aload_n 2, 1) := by decide +kernel
theorem dL_law_476 : decode cL_law 476 = .ok (.aload_n 0, 1) := by decide +kernel
theorem dL_law_477 : decode cL_law 477 = .ok (.iload 4, 2) := by decide +kernel
theorem dL_law_479 : decode cL_law 479 = .ok (.iconst 1, 1) := by decide +kernel
theorem dL_law_480 : decode cL_law 480 = .ok (.iadd, 1) := by decide +kernel
theorem dL_law_481 : decode cL_law 481 = .ok (.iaload, 1) := by decide +kernel
theorem dL_law_482 : decode cL_law 482 = .ok (.aload_n 0, 1) := by decide +kernel
theorem dL_law_483 : decode cL_law 483 = .ok (.iload 4, 2) := by decide +kernel
theorem dL_law_485 : decode cL_law 485 = .ok (.iconst 2, 1) := by decide +kernel
theorem dL_law_486 : decode cL_law 486 = .ok (.iadd, 1) := by decide +kernel
theorem dL_law_487 : decode cL_law 487 = .ok (.iaload, 1) := by decide +kernel
theorem dL_law_488 : decode cL_law 488 = .ok (.invokevirtual 109, 3) := by decide +kernel
theorem dL_law_491 : decode cL_law 491 = .ok (.istore 6, 2) := by decide +kernel
theorem dL_law_493 : decode cL_law 493 = .ok (.aload_n 2, 1) := by decide +kernel
theorem dL_law_494 : decode cL_law 494 = .ok (.invokevirtual 89, 3) := by decide +kernel
theorem dL_law_497 : decode cL_law 497 = .ok (.iload 5, 2) := by decide +kernel
theorem dL_law_499 : decode cL_law 499 = .ok (.if_icmp .eq 5, 3) := by decide +kernel
theorem dL_law_502 : decode cL_law 502 = .ok (.iconst 0, 1) := by decide +kernel
theorem dL_law_503 : decode cL_law 503 = .ok (.ireturn, 1) := by decide +kernel
theorem dL_law_504 : decode cL_law 504 = .ok (.iload 5, 2) := by decide +kernel
theorem dL_law_506 : decode cL_law 506 = .ok (.ifCond .ne 15, 3) := by decide +kernel
theorem dL_law_509 : decode cL_law 509 = .ok (.aload_n 3, 1) := by decide +kernel
theorem dL_law_510 : decode cL_law 510 = .ok (.iconst 0, 1) := by decide +kernel
theorem dL_law_511 : decode cL_law 511 = .ok (.laload, 1) := by decide +kernel
theorem dL_law_512 : decode cL_law 512 = .ok (.iload 6, 2) := by decide +kernel
theorem dL_law_514 : decode cL_law 514 = .ok (.i2l, 1) := by decide +kernel
theorem dL_law_515 : decode cL_law 515 = .ok (.lcmp, 1) := by decide +kernel
theorem dL_law_516 : decode cL_law 516 = .ok (.ifCond .eq 5, 3) := by decide +kernel
theorem dL_law_519 : decode cL_law 519 = .ok (.iconst 0, 1) := by decide +kernel
theorem dL_law_520 : decode cL_law 520 = .ok (.ireturn, 1) := by decide +kernel
theorem dL_law_521 : decode cL_law 521 = .ok (.goto 974, 3) := by decide +kernel
theorem dL_law_524 : decode cL_law 524 = .ok (.aload_n 1, 1) := by decide +kernel
theorem dL_law_525 : decode cL_law 525 = .ok (.aload_n 0, 1) := by decide +kernel
theorem dL_law_526 : decode cL_law 526 = .ok (.iload 4, 2) := by decide +kernel
theorem dL_law_528 : decode cL_law 528 = .ok (.iconst 1, 1) := by decide +kernel
theorem dL_law_529 : decode cL_law 529 = .ok (.iadd, 1) := by decide +kernel
theorem dL_law_530 : decode cL_law 530 = .ok (.iaload, 1) := by decide +kernel
theorem dL_law_531 : decode cL_law 531 = .ok (.aload_n 3, 1) := by decide +kernel
theorem dL_law_532 : decode cL_law 532 = .ok (.invokestatic 110, 3) := by decide +kernel
theorem dL_law_535 : decode cL_law 535 = .ok (.istore 5, 2) := by decide +kernel
theorem dL_law_537 : decode cL_law 537 = .ok (.aload_n 2, 1) := by decide +kernel
theorem dL_law_538 : decode cL_law 538 = .ok (.aload_n 0, 1) := by decide +kernel
theorem dL_law_539 : decode cL_law 539 = .ok (.iload 4, 2) := by decide +kernel
theorem dL_law_541 : decode cL_law 541 = .ok (.iconst 1, 1) := by decide +kernel
theorem dL_law_542 : decode cL_law 542 = .ok (.iadd, 1) := by decide +kernel
theorem dL_law_543 : decode cL_law 543 = .ok (.iaload, 1) := by decide +kernel
theorem dL_law_544 : decode cL_law 544 = .ok (.invokevirtual 112, 3) := by decide +kernel
theorem dL_law_547 : decode cL_law 547 = .ok (.istore 6, 2) := by decide +kernel
theorem dL_law_549 : decode cL_law 549 = .ok (.aload_n 2, 1) := by decide +kernel
theorem dL_law_550 : decode cL_law 550 = .ok (.invokevirtual 89, 3) := by decide +kernel
theorem dL_law_553 : decode cL_law 553 = .ok (.iload 5, 2) := by decide +kernel
theorem dL_law_555 : decode cL_law 555 = .ok (.if_icmp .eq 5, 3) := by decide +kernel
theorem dL_law_558 : decode cL_law 558 = .ok (.iconst 0, 1) := by decide +kernel
theorem dL_law_559 : decode cL_law 559 = .ok (.ireturn, 1) := by decide +kernel
theorem dL_law_560 : decode cL_law 560 = .ok (.iload 5, 2) := by decide +kernel
theorem dL_law_562 : decode cL_law 562 = .ok (.ifCond .ne 15, 3) := by decide +kernel
theorem dL_law_565 : decode cL_law 565 = .ok (.aload_n 3, 1) := by decide +kernel
theorem dL_law_566 : decode cL_law 566 = .ok (.iconst 0, 1) := by decide +kernel
theorem dL_law_567 : decode cL_law 567 = .ok (.laload, 1) := by decide +kernel
theorem dL_law_568 : decode cL_law 568 = .ok (.iload 6, 2) := by decide +kernel
theorem dL_law_570 : decode cL_law 570 = .ok (.i2l, 1) := by decide +kernel
theorem dL_law_571 : decode cL_law 571 = .ok (.lcmp, 1) := by decide +kernel
theorem dL_law_572 : decode cL_law 572 = .ok (.ifCond .eq 5, 3) := by decide +kernel
theorem dL_law_575 : decode cL_law 575 = .ok (.iconst 0, 1) := by decide +kernel
theorem dL_law_576 : decode cL_law 576 = .ok (.ireturn, 1) := by decide +kernel
theorem dL_law_577 : decode cL_law 577 = .ok (.goto 918, 3) := by decide +kernel
theorem dL_law_580 : decode cL_law 580 = .ok (.aload_n 1, 1) := by decide +kernel
theorem dL_law_581 : decode cL_law 581 = .ok (.aload_n 0, 1) := by decide +kernel
theorem dL_law_582 : decode cL_law 582 = .ok (.iload 4, 2) := by decide +kernel
theorem dL_law_584 : decode cL_law 584 = .ok (.iconst 1, 1) := by decide +kernel
theorem dL_law_585 : decode cL_law 585 = .ok (.iadd, 1) := by decide +kernel
theorem dL_law_586 : decode cL_law 586 = .ok (.iaload, 1) := by decide +kernel
theorem dL_law_587 : decode cL_law 587 = .ok (.aload_n 3, 1) := by decide +kernel
theorem dL_law_588 : decode cL_law 588 = .ok (.invokestatic 113, 3) := by decide +kernel
theorem dL_law_591 : decode cL_law 591 = .ok (.istore 5, 2) := by decide +kernel
theorem dL_law_593 : decode cL_law 593 = .ok (.aload_n 2, 1) := by decide +kernel
theorem dL_law_594 : decode cL_law 594 = .ok (.aload_n 0, 1) := by decide +kernel
theorem dL_law_595 : decode cL_law 595 = .ok (.iload 4, 2) := by decide +kernel
theorem dL_law_597 : decode cL_law 597 = .ok (.iconst 1, 1) := by decide +kernel
theorem dL_law_598 : decode cL_law 598 = .ok (.iadd, 1) := by decide +kernel
theorem dL_law_599 : decode cL_law 599 = .ok (.iaload, 1) := by decide +kernel
theorem dL_law_600 : decode cL_law 600 = .ok (.invokevirtual 115, 3) := by decide +kernel
theorem dL_law_603 : decode cL_law 603 = .ok (.istore 6, 2) := by decide +kernel
theorem dL_law_605 : decode cL_law 605 = .ok (.aload_n 2, 1) := by decide +kernel
theorem dL_law_606 : decode cL_law 606 = .ok (.invokevirtual 89, 3) := by decide +kernel
theorem dL_law_609 : decode cL_law 609 = .ok (.iload 5, 2) := by decide +kernel
theorem dL_law_611 : decode cL_law 611 = .ok (.if_icmp .eq 5, 3) := by decide +kernel
theorem dL_law_614 : decode cL_law 614 = .ok (.iconst 0, 1) := by decide +kernel
theorem dL_law_615 : decode cL_law 615 = .ok (.ireturn, 1) := by decide +kernel
theorem dL_law_616 : decode cL_law 616 = .ok (.iload 5, 2) := by decide +kernel
theorem dL_law_618 : decode cL_law 618 = .ok (.ifCond .ne 15, 3) := by decide +kernel
theorem dL_law_621 : decode cL_law 621 = .ok (.aload_n 3, 1) := by decide +kernel
theorem dL_law_622 : decode cL_law 622 = .ok (.iconst 0, 1) := by decide +kernel
theorem dL_law_623 : decode cL_law 623 = .ok (.laload, 1) := by decide +kernel
theorem dL_law_624 : decode cL_law 624 = .ok (.iload 6, 2) := by decide +kernel
theorem dL_law_626 : decode cL_law 626 = .ok (.i2l, 1) := by decide +kernel
theorem dL_law_627 : decode cL_law 627 = .ok (.lcmp, 1) := by decide +kernel
theorem dL_law_628 : decode cL_law 628 = .ok (.ifCond .eq 5, 3) := by decide +kernel
theorem dL_law_631 : decode cL_law 631 = .ok (.iconst 0, 1) := by decide +kernel
theorem dL_law_632 : decode cL_law 632 = .ok (.ireturn, 1) := by decide +kernel
theorem dL_law_633 : decode cL_law 633 = .ok (.goto 862, 3) := by decide +kernel
theorem dL_law_636 : decode cL_law 636 = .ok (.aload_n 1, 1) := by decide +kernel
theorem dL_law_637 : decode cL_law 637 = .ok (.aload_n 0, 1) := by decide +kernel
theorem dL_law_638 : decode cL_law 638 = .ok (.iload 4, 2) := by decide +kernel
theorem dL_law_640 : decode cL_law 640 = .ok (.iconst 1, 1) := by decide +kernel
theorem dL_law_641 : decode cL_law 641 = .ok (.iadd, 1) := by decide +kernel
theorem dL_law_642 : decode cL_law 642 = .ok (.iaload, 1) := by decide +kernel
theorem dL_law_643 : decode cL_law 643 = .ok (.aload_n 0, 1) := by decide +kernel
theorem dL_law_644 : decode cL_law 644 = .ok (.iload 4, 2) := by decide +kernel
theorem dL_law_646 : decode cL_law 646 = .ok (.iconst 2, 1) := by decide +kernel
theorem dL_law_647 : decode cL_law 647 = .ok (.iadd, 1) := by decide +kernel
theorem dL_law_648 : decode cL_law 648 = .ok (.iaload, 1) := by decide +kernel
theorem dL_law_649 : decode cL_law 649 = .ok (.aload_n 3, 1) := by decide +kernel
theorem dL_law_650 : decode cL_law 650 = .ok (.invokestatic 116, 3) := by decide +kernel
theorem dL_law_653 : decode cL_law 653 = .ok (.istore 5, 2) := by decide +kernel
theorem dL_law_655 : decode cL_law 655 = .ok (.aload_n 2, 1) := by decide +kernel
theorem dL_law_656 : decode cL_law 656 = .ok (.aload_n 0, 1) := by decide +kernel
theorem dL_law_657 : decode cL_law 657 = .ok (.iload 4, 2) := by decide +kernel
theorem dL_law_659 : decode cL_law 659 = .ok (.iconst 1, 1) := by decide +kernel
theorem dL_law_660 : decode cL_law 660 = .ok (.iadd, 1) := by decide +kernel
theorem dL_law_661 : decode cL_law 661 = .ok (.iaload, 1) := by decide +kernel
theorem dL_law_662 : decode cL_law 662 = .ok (.aload_n 0, 1) := by decide +kernel
theorem dL_law_663 : decode cL_law 663 = .ok (.iload 4, 2) := by decide +kernel
theorem dL_law_665 : decode cL_law 665 = .ok (.iconst 2, 1) := by decide +kernel
theorem dL_law_666 : decode cL_law 666 = .ok (.iadd, 1) := by decide +kernel
theorem dL_law_667 : decode cL_law 667 = .ok (.iaload, 1) := by decide +kernel
theorem dL_law_668 : decode cL_law 668 = .ok (.invokevirtual 118, 3) := by decide +kernel
theorem dL_law_671 : decode cL_law 671 = .ok (.istore 6, 2) := by decide +kernel
theorem dL_law_673 : decode cL_law 673 = .ok (.aload_n 2, 1) := by decide +kernel
theorem dL_law_674 : decode cL_law 674 = .ok (.invokevirtual 89, 3) := by decide +kernel
theorem dL_law_677 : decode cL_law 677 = .ok (.iload 5, 2) := by decide +kernel
theorem dL_law_679 : decode cL_law 679 = .ok (.if_icmp .eq 5, 3) := by decide +kernel
theorem dL_law_682 : decode cL_law 682 = .ok (.iconst 0, 1) := by decide +kernel
theorem dL_law_683 : decode cL_law 683 = .ok (.ireturn, 1) := by decide +kernel
theorem dL_law_684 : decode cL_law 684 = .ok (.iload 5, 2) := by decide +kernel
theorem dL_law_686 : decode cL_law 686 = .ok (.ifCond .ne 15, 3) := by decide +kernel
theorem dL_law_689 : decode cL_law 689 = .ok (.aload_n 3, 1) := by decide +kernel
theorem dL_law_690 : decode cL_law 690 = .ok (.iconst 0, 1) := by decide +kernel
theorem dL_law_691 : decode cL_law 691 = .ok (.laload, 1) := by decide +kernel
theorem dL_law_692 : decode cL_law 692 = .ok (.iload 6, 2) := by decide +kernel
theorem dL_law_694 : decode cL_law 694 = .ok (.i2l, 1) := by decide +kernel
theorem dL_law_695 : decode cL_law 695 = .ok (.lcmp, 1) := by decide +kernel
theorem dL_law_696 : decode cL_law 696 = .ok (.ifCond .eq 5, 3) := by decide +kernel
theorem dL_law_699 : decode cL_law 699 = .ok (.iconst 0, 1) := by decide +kernel
theorem dL_law_700 : decode cL_law 700 = .ok (.ireturn, 1) := by decide +kernel
theorem dL_law_701 : decode cL_law 701 = .ok (.goto 794, 3) := by decide +kernel
theorem dL_law_704 : decode cL_law 704 = .ok (.aload_n 1, 1) := by decide +kernel
theorem dL_law_705 : decode cL_law 705 = .ok (.aload_n 0, 1) := by decide +kernel
theorem dL_law_706 : decode cL_law 706 = .ok (.iload 4, 2) := by decide +kernel
theorem dL_law_708 : decode cL_law 708 = .ok (.iconst 1, 1) := by decide +kernel
theorem dL_law_709 : decode cL_law 709 = .ok (.iadd, 1) := by decide +kernel
theorem dL_law_710 : decode cL_law 710 = .ok (.iaload, 1) := by decide +kernel
theorem dL_law_711 : decode cL_law 711 = .ok (.aload_n 3, 1) := by decide +kernel
theorem dL_law_712 : decode cL_law 712 = .ok (.invokestatic 119, 3) := by decide +kernel
theorem dL_law_715 : decode cL_law 715 = .ok (.istore 5, 2) := by decide +kernel
theorem dL_law_717 : decode cL_law 717 = .ok (.aload_n 2, 1) := by decide +kernel
theorem dL_law_718 : decode cL_law 718 = .ok (.aload_n 0, 1) := by decide +kernel
theorem dL_law_719 : decode cL_law 719 = .ok (.iload 4, 2) := by decide +kernel
theorem dL_law_721 : decode cL_law 721 = .ok (.iconst 1, 1) := by decide +kernel
theorem dL_law_722 : decode cL_law 722 = .ok (.iadd, 1) := by decide +kernel
theorem dL_law_723 : decode cL_law 723 = .ok (.iaload, 1) := by decide +kernel
theorem dL_law_724 : decode cL_law 724 = .ok (.invokevirtual 121, 3) := by decide +kernel
theorem dL_law_727 : decode cL_law 727 = .ok (.istore 6, 2) := by decide +kernel
theorem dL_law_729 : decode cL_law 729 = .ok (.aload_n 2, 1) := by decide +kernel
theorem dL_law_730 : decode cL_law 730 = .ok (.invokevirtual 89, 3) := by decide +kernel
theorem dL_law_733 : decode cL_law 733 = .ok (.iload 5, 2) := by decide +kernel
theorem dL_law_735 : decode cL_law 735 = .ok (.if_icmp .eq 5, 3) := by decide +kernel
theorem dL_law_738 : decode cL_law 738 = .ok (.iconst 0, 1) := by decide +kernel
theorem dL_law_739 : decode cL_law 739 = .ok (.ireturn, 1) := by decide +kernel
theorem dL_law_740 : decode cL_law 740 = .ok (.iload 5, 2) := by decide +kernel
theorem dL_law_742 : decode cL_law 742 = .ok (.ifCond .ne 15, 3) := by decide +kernel
theorem dL_law_745 : decode cL_law 745 = .ok (.aload_n 3, 1) := by decide +kernel
theorem dL_law_746 : decode cL_law 746 = .ok (.iconst 0, 1) := by decide +kernel
theorem dL_law_747 : decode cL_law 747 = .ok (.laload, 1) := by decide +kernel
theorem dL_law_748 : decode cL_law 748 = .ok (.iload 6, 2) := by decide +kernel
theorem dL_law_750 : decode cL_law 750 = .ok (.i2l, 1) := by decide +kernel
theorem dL_law_751 : decode cL_law 751 = .ok (.lcmp, 1) := by decide +kernel
theorem dL_law_752 : decode cL_law 752 = .ok (.ifCond .eq 5, 3) := by decide +kernel
theorem dL_law_755 : decode cL_law 755 = .ok (.iconst 0, 1) := by decide +kernel
theorem dL_law_756 : decode cL_law 756 = .ok (.ireturn, 1) := by decide +kernel
theorem dL_law_757 : decode cL_law 757 = .ok (.goto 738, 3) := by decide +kernel
theorem dL_law_760 : decode cL_law 760 = .ok (.aload_n 1, 1) := by decide +kernel
theorem dL_law_761 : decode cL_law 761 = .ok (.invokevirtual 122, 3) := by decide +kernel
theorem dL_law_764 : decode cL_law 764 = .ok (.aload_n 2, 1) := by decide +kernel
theorem dL_law_765 : decode cL_law 765 = .ok (.invokevirtual 125, 3) := by decide +kernel
theorem dL_law_768 : decode cL_law 768 = .ok (.if_icmp .eq 727, 3) := by decide +kernel
theorem dL_law_771 : decode cL_law 771 = .ok (.iconst 0, 1) := by decide +kernel
theorem dL_law_772 : decode cL_law 772 = .ok (.ireturn, 1) := by decide +kernel
theorem dL_law_773 : decode cL_law 773 = .ok (.aload_n 1, 1) := by decide +kernel
theorem dL_law_774 : decode cL_law 774 = .ok (.invokevirtual 126, 3) := by decide +kernel
theorem dL_law_777 : decode cL_law 777 = .ok (.aload_n 2, 1) := by decide +kernel
theorem dL_law_778 : decode cL_law 778 = .ok (.invokevirtual 129, 3) := by decide +kernel
theorem dL_law_781 : decode cL_law 781 = .ok (.if_icmp .eq 714, 3) := by decide +kernel
theorem dL_law_784 : decode cL_law 784 = .ok (.iconst 0, 1) := by decide +kernel
theorem dL_law_785 : decode cL_law 785 = .ok (.ireturn, 1) := by decide +kernel
theorem dL_law_786 : decode cL_law 786 = .ok (.aload_n 1, 1) := by decide +kernel
theorem dL_law_787 : decode cL_law 787 = .ok (.aload_n 3, 1) := by decide +kernel
theorem dL_law_788 : decode cL_law 788 = .ok (.invokestatic 130, 3) := by decide +kernel
theorem dL_law_791 : decode cL_law 791 = .ok (.istore 5, 2) := by decide +kernel
theorem dL_law_793 : decode cL_law 793 = .ok (.aload_n 2, 1) := by decide +kernel
theorem dL_law_794 : decode cL_law 794 = .ok (.invokevirtual 132, 3) := by decide +kernel
theorem dL_law_797 : decode cL_law 797 = .ok (.istore 6, 2) := by decide +kernel
theorem dL_law_799 : decode cL_law 799 = .ok (.aload_n 2, 1) := by decide +kernel
theorem dL_law_800 : decode cL_law 800 = .ok (.invokevirtual 89, 3) := by decide +kernel
theorem dL_law_803 : decode cL_law 803 = .ok (.iload 5, 2) := by decide +kernel
theorem dL_law_805 : decode cL_law 805 = .ok (.if_icmp .eq 5, 3) := by decide +kernel
theorem dL_law_808 : decode cL_law 808 = .ok (.iconst 0, 1) := by decide +kernel
theorem dL_law_809 : decode cL_law 809 = .ok (.ireturn, 1) := by decide +kernel
theorem dL_law_810 : decode cL_law 810 = .ok (.iload 5, 2) := by decide +kernel
theorem dL_law_812 : decode cL_law 812 = .ok (.ifCond .ne 15, 3) := by decide +kernel
theorem dL_law_815 : decode cL_law 815 = .ok (.aload_n 3, 1) := by decide +kernel
theorem dL_law_816 : decode cL_law 816 = .ok (.iconst 0, 1) := by decide +kernel
theorem dL_law_817 : decode cL_law 817 = .ok (.laload, 1) := by decide +kernel
theorem dL_law_818 : decode cL_law 818 = .ok (.iload 6, 2) := by decide +kernel
theorem dL_law_820 : decode cL_law 820 = .ok (.i2l, 1) := by decide +kernel
theorem dL_law_821 : decode cL_law 821 = .ok (.lcmp, 1) := by decide +kernel
theorem dL_law_822 : decode cL_law 822 = .ok (.ifCond .eq 5, 3) := by decide +kernel
theorem dL_law_825 : decode cL_law 825 = .ok (.iconst 0, 1) := by decide +kernel
theorem dL_law_826 : decode cL_law 826 = .ok (.ireturn, 1) := by decide +kernel
theorem dL_law_827 : decode cL_law 827 = .ok (.goto 668, 3) := by decide +kernel
theorem dL_law_830 : decode cL_law 830 = .ok (.aload_n 1, 1) := by decide +kernel
theorem dL_law_831 : decode cL_law 831 = .ok (.invokevirtual 133, 3) := by decide +kernel
theorem dL_law_834 : decode cL_law 834 = .ok (.aload_n 2, 1) := by decide +kernel
theorem dL_law_835 : decode cL_law 835 = .ok (.invokevirtual 136, 3) := by decide +kernel
theorem dL_law_838 : decode cL_law 838 = .ok (.if_icmp .eq 657, 3) := by decide +kernel
theorem dL_law_841 : decode cL_law 841 = .ok (.iconst 0, 1) := by decide +kernel
theorem dL_law_842 : decode cL_law 842 = .ok (.ireturn, 1) := by decide +kernel
theorem dL_law_843 : decode cL_law 843 = .ok (.aload_n 1, 1) := by decide +kernel
theorem dL_law_844 : decode cL_law 844 = .ok (.aload_n 3, 1) := by decide +kernel
theorem dL_law_845 : decode cL_law 845 = .ok (.invokestatic 137, 3) := by decide +kernel
theorem dL_law_848 : decode cL_law 848 = .ok (.istore 5, 2) := by decide +kernel
theorem dL_law_850 : decode cL_law 850 = .ok (.aload_n 2, 1) := by decide +kernel
theorem dL_law_851 : decode cL_law 851 = .ok (.invokevirtual 139, 3) := by decide +kernel
theorem dL_law_854 : decode cL_law 854 = .ok (.istore 6, 2) := by decide +kernel
theorem dL_law_856 : decode cL_law 856 = .ok (.aload_n 2, 1) := by decide +kernel
theorem dL_law_857 : decode cL_law 857 = .ok (.invokevirtual 89, 3) := by decide +kernel
theorem dL_law_860 : decode cL_law 860 = .ok (.iload 5, 2) := by decide +kernel
theorem dL_law_862 : decode cL_law 862 = .ok (.if_icmp .eq 5, 3) := by decide +kernel
theorem dL_law_865 : decode cL_law 865 = .ok (.iconst 0, 1) := by decide +kernel
theorem dL_law_866 : decode cL_law 866 = .ok (.ireturn, 1) := by decide +kernel
theorem dL_law_867 : decode cL_law 867 = .ok (.iload 5, 2) := by decide +kernel
theorem dL_law_869 : decode cL_law 869 = .ok (.ifCond .ne 15, 3) := by decide +kernel
theorem dL_law_872 : decode cL_law 872 = .ok (.aload_n 3, 1) := by decide +kernel
theorem dL_law_873 : decode cL_law 873 = .ok (.iconst 0, 1) := by decide +kernel
theorem dL_law_874 : decode cL_law 874 = .ok (.laload, 1) := by decide +kernel
theorem dL_law_875 : decode cL_law 875 = .ok (.iload 6, 2) := by decide +kernel
theorem dL_law_877 : decode cL_law 877 = .ok (.i2l, 1) := by decide +kernel
theorem dL_law_878 : decode cL_law 878 = .ok (.lcmp, 1) := by decide +kernel
theorem dL_law_879 : decode cL_law 879 = .ok (.ifCond .eq 5, 3) := by decide +kernel
theorem dL_law_882 : decode cL_law 882 = .ok (.iconst 0, 1) := by decide +kernel
theorem dL_law_883 : decode cL_law 883 = .ok (.ireturn, 1) := by decide +kernel
theorem dL_law_884 : decode cL_law 884 = .ok (.goto 611, 3) := by decide +kernel
theorem dL_law_887 : decode cL_law 887 = .ok (.aload_n 1, 1) := by decide +kernel
theorem dL_law_888 : decode cL_law 888 = .ok (.aload_n 3, 1) := by decide +kernel
theorem dL_law_889 : decode cL_law 889 = .ok (.invokestatic 140, 3) := by decide +kernel
theorem dL_law_892 : decode cL_law 892 = .ok (.istore 5, 2) := by decide +kernel
theorem dL_law_894 : decode cL_law 894 = .ok (.aload_n 2, 1) := by decide +kernel
theorem dL_law_895 : decode cL_law 895 = .ok (.invokevirtual 142, 3) := by decide +kernel
theorem dL_law_898 : decode cL_law 898 = .ok (.istore 6, 2) := by decide +kernel
theorem dL_law_900 : decode cL_law 900 = .ok (.aload_n 2, 1) := by decide +kernel
theorem dL_law_901 : decode cL_law 901 = .ok (.invokevirtual 89, 3) := by decide +kernel
theorem dL_law_904 : decode cL_law 904 = .ok (.iload 5, 2) := by decide +kernel
theorem dL_law_906 : decode cL_law 906 = .ok (.if_icmp .eq 5, 3) := by decide +kernel
theorem dL_law_909 : decode cL_law 909 = .ok (.iconst 0, 1) := by decide +kernel
theorem dL_law_910 : decode cL_law 910 = .ok (.ireturn, 1) := by decide +kernel
theorem dL_law_911 : decode cL_law 911 = .ok (.iload 5, 2) := by decide +kernel
theorem dL_law_913 : decode cL_law 913 = .ok (.ifCond .ne 15, 3) := by decide +kernel
theorem dL_law_916 : decode cL_law 916 = .ok (.aload_n 3, 1) := by decide +kernel
theorem dL_law_917 : decode cL_law 917 = .ok (.iconst 0, 1) := by decide +kernel
theorem dL_law_918 : decode cL_law 918 = .ok (.laload, 1) := by decide +kernel
theorem dL_law_919 : decode cL_law 919 = .ok (.iload 6, 2) := by decide +kernel
theorem dL_law_921 : decode cL_law 921 = .ok (.i2l, 1) := by decide +kernel
theorem dL_law_922 : decode cL_law 922 = .ok (.lcmp, 1) := by decide +kernel
theorem dL_law_923 : decode cL_law 923 = .ok (.ifCond .eq 5, 3) := by decide +kernel
theorem dL_law_926 : decode cL_law 926 = .ok (.iconst 0, 1) := by decide +kernel
theorem dL_law_927 : decode cL_law 927 = .ok (.ireturn, 1) := by decide +kernel
theorem dL_law_928 : decode cL_law 928 = .ok (.goto 567, 3) := by decide +kernel
theorem dL_law_931 : decode cL_law 931 = .ok (.aload_n 1, 1) := by decide +kernel
theorem dL_law_932 : decode cL_law 932 = .ok (.aload_n 0, 1) := by decide +kernel
theorem dL_law_933 : decode cL_law 933 = .ok (.iload 4, 2) := by decide +kernel
theorem dL_law_935 : decode cL_law 935 = .ok (.iconst 1, 1) := by decide +kernel
theorem dL_law_936 : decode cL_law 936 = .ok (.iadd, 1) := by decide +kernel
theorem dL_law_937 : decode cL_law 937 = .ok (.iaload, 1) := by decide +kernel
theorem dL_law_938 : decode cL_law 938 = .ok (.aload_n 0, 1) := by decide +kernel
theorem dL_law_939 : decode cL_law 939 = .ok (.iload 4, 2) := by decide +kernel
theorem dL_law_941 : decode cL_law 941 = .ok (.iconst 2, 1) := by decide +kernel
theorem dL_law_942 : decode cL_law 942 = .ok (.iadd, 1) := by decide +kernel
theorem dL_law_943 : decode cL_law 943 = .ok (.iaload, 1) := by decide +kernel
theorem dL_law_944 : decode cL_law 944 = .ok (.aload_n 3, 1) := by decide +kernel
theorem dL_law_945 : decode cL_law 945 = .ok (.invokestatic 143, 3) := by decide +kernel
theorem dL_law_948 : decode cL_law 948 = .ok (.istore 5, 2) := by decide +kernel
theorem dL_law_950 : decode cL_law 950 = .ok (.aload_n 2, 1) := by decide +kernel
theorem dL_law_951 : decode cL_law 951 = .ok (.aload_n 0, 1) := by decide +kernel
theorem dL_law_952 : decode cL_law 952 = .ok (.iload 4, 2) := by decide +kernel
theorem dL_law_954 : decode cL_law 954 = .ok (.iconst 1, 1) := by decide +kernel
theorem dL_law_955 : decode cL_law 955 = .ok (.iadd, 1) := by decide +kernel
theorem dL_law_956 : decode cL_law 956 = .ok (.iaload, 1) := by decide +kernel
theorem dL_law_957 : decode cL_law 957 = .ok (.aload_n 0, 1) := by decide +kernel
theorem dL_law_958 : decode cL_law 958 = .ok (.iload 4, 2) := by decide +kernel
theorem dL_law_960 : decode cL_law 960 = .ok (.iconst 2, 1) := by decide +kernel
theorem dL_law_961 : decode cL_law 961 = .ok (.iadd, 1) := by decide +kernel
theorem dL_law_962 : decode cL_law 962 = .ok (.iaload, 1) := by decide +kernel
theorem dL_law_963 : decode cL_law 963 = .ok (.invokevirtual 145, 3) := by decide +kernel
theorem dL_law_966 : decode cL_law 966 = .ok (.istore 6, 2) := by decide +kernel
theorem dL_law_968 : decode cL_law 968 = .ok (.aload_n 2, 1) := by decide +kernel
theorem dL_law_969 : decode cL_law 969 = .ok (.invokevirtual 89, 3) := by decide +kernel
theorem dL_law_972 : decode cL_law 972 = .ok (.iload 5, 2) := by decide +kernel
theorem dL_law_974 : decode cL_law 974 = .ok (.if_icmp .eq 5, 3) := by decide +kernel
theorem dL_law_977 : decode cL_law 977 = .ok (.iconst 0, 1) := by decide +kernel
theorem dL_law_978 : decode cL_law 978 = .ok (.ireturn, 1) := by decide +kernel
theorem dL_law_979 : decode cL_law 979 = .ok (.iload 5, 2) := by decide +kernel
theorem dL_law_981 : decode cL_law 981 = .ok (.ifCond .ne 15, 3) := by decide +kernel
theorem dL_law_984 : decode cL_law 984 = .ok (.aload_n 3, 1) := by decide +kernel
theorem dL_law_985 : decode cL_law 985 = .ok (.iconst 0, 1) := by decide +kernel
theorem dL_law_986 : decode cL_law 986 = .ok (.laload, 1) := by decide +kernel
theorem dL_law_987 : decode cL_law 987 = .ok (.iload 6, 2) := by decide +kernel
theorem dL_law_989 : decode cL_law 989 = .ok (.i2l, 1) := by decide +kernel
theorem dL_law_990 : decode cL_law 990 = .ok (.lcmp, 1) := by decide +kernel
theorem dL_law_991 : decode cL_law 991 = .ok (.ifCond .eq 5, 3) := by decide +kernel
theorem dL_law_994 : decode cL_law 994 = .ok (.iconst 0, 1) := by decide +kernel
theorem dL_law_995 : decode cL_law 995 = .ok (.ireturn, 1) := by decide +kernel
theorem dL_law_996 : decode cL_law 996 = .ok (.goto 499, 3) := by decide +kernel
theorem dL_law_999 : decode cL_law 999 = .ok (.aload_n 1, 1) := by decide +kernel
theorem dL_law_1000 : decode cL_law 1000 = .ok (.aload_n 0, 1) := by decide +kernel
theorem dL_law_1001 : decode cL_law 1001 = .ok (.iload 4, 2) := by decide +kernel
theorem dL_law_1003 : decode cL_law 1003 = .ok (.iconst 1, 1) := by decide +kernel
theorem dL_law_1004 : decode cL_law 1004 = .ok (.iadd, 1) := by decide +kernel
theorem dL_law_1005 : decode cL_law 1005 = .ok (.iaload, 1) := by decide +kernel
theorem dL_law_1006 : decode cL_law 1006 = .ok (.aload_n 0, 1) := by decide +kernel
theorem dL_law_1007 : decode cL_law 1007 = .ok (.iload 4, 2) := by decide +kernel
theorem dL_law_1009 : decode cL_law 1009 = .ok (.iconst 2, 1) := by decide +kernel
theorem dL_law_1010 : decode cL_law 1010 = .ok (.iadd, 1) := by decide +kernel
theorem dL_law_1011 : decode cL_law 1011 = .ok (.iaload, 1) := by decide +kernel
theorem dL_law_1012 : decode cL_law 1012 = .ok (.aload_n 3, 1) := by decide +kernel
theorem dL_law_1013 : decode cL_law 1013 = .ok (.invokestatic 146, 3) := by decide +kernel
theorem dL_law_1016 : decode cL_law 1016 = .ok (.istore 5, 2) := by decide +kernel
theorem dL_law_1018 : decode cL_law 1018 = .ok (.aload_n 2, 1) := by decide +kernel
theorem dL_law_1019 : decode cL_law 1019 = .ok (.aload_n 0, 1) := by decide +kernel
theorem dL_law_1020 : decode cL_law 1020 = .ok (.iload 4, 2) := by decide +kernel
theorem dL_law_1022 : decode cL_law 1022 = .ok (.iconst 1, 1) := by decide +kernel
theorem dL_law_1023 : decode cL_law 1023 = .ok (.iadd, 1) := by decide +kernel
theorem dL_law_1024 : decode cL_law 1024 = .ok (.iaload, 1) := by decide +kernel
theorem dL_law_1025 : decode cL_law 1025 = .ok (.aload_n 0, 1) := by decide +kernel
theorem dL_law_1026 : decode cL_law 1026 = .ok (.iload 4, 2) := by decide +kernel
theorem dL_law_1028 : decode cL_law 1028 = .ok (.iconst 2, 1) := by decide +kernel
theorem dL_law_1029 : decode cL_law 1029 = .ok (.iadd, 1) := by decide +kernel
theorem dL_law_1030 : decode cL_law 1030 = .ok (.iaload, 1) := by decide +kernel
theorem dL_law_1031 : decode cL_law 1031 = .ok (.invokevirtual 148, 3) := by decide +kernel
theorem dL_law_1034 : decode cL_law 1034 = .ok (.istore 6, 2) := by decide +kernel
theorem dL_law_1036 : decode cL_law 1036 = .ok (.aload_n 2, 1) := by decide +kernel
theorem dL_law_1037 : decode cL_law 1037 = .ok (.invokevirtual 89, 3) := by decide +kernel
theorem dL_law_1040 : decode cL_law 1040 = .ok (.iload 5, 2) := by decide +kernel
theorem dL_law_1042 : decode cL_law 1042 = .ok (.if_icmp .eq 5, 3) := by decide +kernel
theorem dL_law_1045 : decode cL_law 1045 = .ok (.iconst 0, 1) := by decide +kernel
theorem dL_law_1046 : decode cL_law 1046 = .ok (.ireturn, 1) := by decide +kernel
theorem dL_law_1047 : decode cL_law 1047 = .ok (.iload 5, 2) := by decide +kernel
theorem dL_law_1049 : decode cL_law 1049 = .ok (.ifCond .ne 15, 3) := by decide +kernel
theorem dL_law_1052 : decode cL_law 1052 = .ok (.aload_n 3, 1) := by decide +kernel
theorem dL_law_1053 : decode cL_law 1053 = .ok (.iconst 0, 1) := by decide +kernel
theorem dL_law_1054 : decode cL_law 1054 = .ok (.laload, 1) := by decide +kernel
theorem dL_law_1055 : decode cL_law 1055 = .ok (.iload 6, 2) := by decide +kernel
theorem dL_law_1057 : decode cL_law 1057 = .ok (.i2l, 1) := by decide +kernel
theorem dL_law_1058 : decode cL_law 1058 = .ok (.lcmp, 1) := by decide +kernel
theorem dL_law_1059 : decode cL_law 1059 = .ok (.ifCond .eq 5, 3) := by decide +kernel
theorem dL_law_1062 : decode cL_law 1062 = .ok (.iconst 0, 1) := by decide +kernel
theorem dL_law_1063 : decode cL_law 1063 = .ok (.ireturn, 1) := by decide +kernel
theorem dL_law_1064 : decode cL_law 1064 = .ok (.goto 431, 3) := by decide +kernel
theorem dL_law_1067 : decode cL_law 1067 = .ok (.aload_n 1, 1) := by decide +kernel
theorem dL_law_1068 : decode cL_law 1068 = .ok (.aload_n 0, 1) := by decide +kernel
theorem dL_law_1069 : decode cL_law 1069 = .ok (.iload 4, 2) := by decide +kernel
theorem dL_law_1071 : decode cL_law 1071 = .ok (.iconst 1, 1) := by decide +kernel
theorem dL_law_1072 : decode cL_law 1072 = .ok (.iadd, 1) := by decide +kernel
theorem dL_law_1073 : decode cL_law 1073 = .ok (.iaload, 1) := by decide +kernel
theorem dL_law_1074 : decode cL_law 1074 = .ok (.aload_n 0, 1) := by decide +kernel
theorem dL_law_1075 : decode cL_law 1075 = .ok (.iload 4, 2) := by decide +kernel
theorem dL_law_1077 : decode cL_law 1077 = .ok (.iconst 2, 1) := by decide +kernel
theorem dL_law_1078 : decode cL_law 1078 = .ok (.iadd, 1) := by decide +kernel
theorem dL_law_1079 : decode cL_law 1079 = .ok (.iaload, 1) := by decide +kernel
theorem dL_law_1080 : decode cL_law 1080 = .ok (.aload_n 3, 1) := by decide +kernel
theorem dL_law_1081 : decode cL_law 1081 = .ok (.invokestatic 149, 3) := by decide +kernel
theorem dL_law_1084 : decode cL_law 1084 = .ok (.istore 5, 2) := by decide +kernel
theorem dL_law_1086 : decode cL_law 1086 = .ok (.aload_n 2, 1) := by decide +kernel
theorem dL_law_1087 : decode cL_law 1087 = .ok (.aload_n 0, 1) := by decide +kernel
theorem dL_law_1088 : decode cL_law 1088 = .ok (.iload 4, 2) := by decide +kernel
theorem dL_law_1090 : decode cL_law 1090 = .ok (.iconst 1, 1) := by decide +kernel
theorem dL_law_1091 : decode cL_law 1091 = .ok (.iadd, 1) := by decide +kernel
theorem dL_law_1092 : decode cL_law 1092 = .ok (.iaload, 1) := by decide +kernel
theorem dL_law_1093 : decode cL_law 1093 = .ok (.aload_n 0, 1) := by decide +kernel
theorem dL_law_1094 : decode cL_law 1094 = .ok (.iload 4, 2) := by decide +kernel
theorem dL_law_1096 : decode cL_law 1096 = .ok (.iconst 2, 1) := by decide +kernel
theorem dL_law_1097 : decode cL_law 1097 = .ok (.iadd, 1) := by decide +kernel
theorem dL_law_1098 : decode cL_law 1098 = .ok (.iaload, 1) := by decide +kernel
theorem dL_law_1099 : decode cL_law 1099 = .ok (.invokevirtual 151, 3) := by decide +kernel
theorem dL_law_1102 : decode cL_law 1102 = .ok (.istore 6, 2) := by decide +kernel
theorem dL_law_1104 : decode cL_law 1104 = .ok (.aload_n 2, 1) := by decide +kernel
theorem dL_law_1105 : decode cL_law 1105 = .ok (.invokevirtual 89, 3) := by decide +kernel
theorem dL_law_1108 : decode cL_law 1108 = .ok (.iload 5, 2) := by decide +kernel
theorem dL_law_1110 : decode cL_law 1110 = .ok (.if_icmp .eq 5, 3) := by decide +kernel
theorem dL_law_1113 : decode cL_law 1113 = .ok (.iconst 0, 1) := by decide +kernel
theorem dL_law_1114 : decode cL_law 1114 = .ok (.ireturn, 1) := by decide +kernel
theorem dL_law_1115 : decode cL_law 1115 = .ok (.iload 5, 2) := by decide +kernel
theorem dL_law_1117 : decode cL_law 1117 = .ok (.ifCond .ne 15, 3) := by decide +kernel
theorem dL_law_1120 : decode cL_law 1120 = .ok (.aload_n 3, 1) := by decide +kernel
theorem dL_law_1121 : decode cL_law 1121 = .ok (.iconst 0, 1) := by decide +kernel
theorem dL_law_1122 : decode cL_law 1122 = .ok (.laload, 1) := by decide +kernel
theorem dL_law_1123 : decode cL_law 1123 = .ok (.iload 6, 2) := by decide +kernel
theorem dL_law_1125 : decode cL_law 1125 = .ok (.i2l, 1) := by decide +kernel
theorem dL_law_1126 : decode cL_law 1126 = .ok (.lcmp, 1) := by decide +kernel
theorem dL_law_1127 : decode cL_law 1127 = .ok (.ifCond .eq 5, 3) := by decide +kernel
theorem dL_law_1130 : decode cL_law 1130 = .ok (.iconst 0, 1) := by decide +kernel
theorem dL_law_1131 : decode cL_law 1131 = .ok (.ireturn, 1) := by decide +kernel
theorem dL_law_1132 : decode cL_law 1132 = .ok (.goto 363, 3) := by decide +kernel
theorem dL_law_1135 : decode cL_law 1135 = .ok (.aload_n 1, 1) := by decide +kernel
theorem dL_law_1136 : decode cL_law 1136 = .ok (.aload_n 0, 1) := by decide +kernel
theorem dL_law_1137 : decode cL_law 1137 = .ok (.iload 4, 2) := by decide +kernel
theorem dL_law_1139 : decode cL_law 1139 = .ok (.iconst 1, 1) := by decide +kernel
theorem dL_law_1140 : decode cL_law 1140 = .ok (.iadd, 1) := by decide +kernel
theorem dL_law_1141 : decode cL_law 1141 = .ok (.iaload, 1) := by decide +kernel
theorem dL_law_1142 : decode cL_law 1142 = .ok (.aload_n 3, 1) := by decide +kernel
theorem dL_law_1143 : decode cL_law 1143 = .ok (.invokestatic 152, 3) := by decide +kernel
theorem dL_law_1146 : decode cL_law 1146 = .ok (.istore 5, 2) := by decide +kernel
theorem dL_law_1148 : decode cL_law 1148 = .ok (.aload_n 2, 1) := by decide +kernel
theorem dL_law_1149 : decode cL_law 1149 = .ok (.aload_n 0, 1) := by decide +kernel
theorem dL_law_1150 : decode cL_law 1150 = .ok (.iload 4, 2) := by decide +kernel
theorem dL_law_1152 : decode cL_law 1152 = .ok (.iconst 1, 1) := by decide +kernel
theorem dL_law_1153 : decode cL_law 1153 = .ok (.iadd, 1) := by decide +kernel
theorem dL_law_1154 : decode cL_law 1154 = .ok (.iaload, 1) := by decide +kernel
theorem dL_law_1155 : decode cL_law 1155 = .ok (.invokevirtual 154, 3) := by decide +kernel
theorem dL_law_1158 : decode cL_law 1158 = .ok (.istore 6, 2) := by decide +kernel
theorem dL_law_1160 : decode cL_law 1160 = .ok (.aload_n 2, 1) := by decide +kernel
theorem dL_law_1161 : decode cL_law 1161 = .ok (.invokevirtual 89, 3) := by decide +kernel
theorem dL_law_1164 : decode cL_law 1164 = .ok (.iload 5, 2) := by decide +kernel
theorem dL_law_1166 : decode cL_law 1166 = .ok (.if_icmp .eq 5, 3) := by decide +kernel
theorem dL_law_1169 : decode cL_law 1169 = .ok (.iconst 0, 1) := by decide +kernel
theorem dL_law_1170 : decode cL_law 1170 = .ok (.ireturn, 1) := by decide +kernel
theorem dL_law_1171 : decode cL_law 1171 = .ok (.iload 5, 2) := by decide +kernel
theorem dL_law_1173 : decode cL_law 1173 = .ok (.ifCond .ne 15, 3) := by decide +kernel
theorem dL_law_1176 : decode cL_law 1176 = .ok (.aload_n 3, 1) := by decide +kernel
theorem dL_law_1177 : decode cL_law 1177 = .ok (.iconst 0, 1) := by decide +kernel
theorem dL_law_1178 : decode cL_law 1178 = .ok (.laload, 1) := by decide +kernel
theorem dL_law_1179 : decode cL_law 1179 = .ok (.iload 6, 2) := by decide +kernel
theorem dL_law_1181 : decode cL_law 1181 = .ok (.i2l, 1) := by decide +kernel
theorem dL_law_1182 : decode cL_law 1182 = .ok (.lcmp, 1) := by decide +kernel
theorem dL_law_1183 : decode cL_law 1183 = .ok (.ifCond .eq 5, 3) := by decide +kernel
theorem dL_law_1186 : decode cL_law 1186 = .ok (.iconst 0, 1) := by decide +kernel
theorem dL_law_1187 : decode cL_law 1187 = .ok (.ireturn, 1) := by decide +kernel
theorem dL_law_1188 : decode cL_law 1188 = .ok (.goto 307, 3) := by decide +kernel
theorem dL_law_1191 : decode cL_law 1191 = .ok (.aload_n 1, 1) := by decide +kernel
theorem dL_law_1192 : decode cL_law 1192 = .ok (.aload_n 0, 1) := by decide +kernel
theorem dL_law_1193 : decode cL_law 1193 = .ok (.iload 4, 2) := by decide +kernel
theorem dL_law_1195 : decode cL_law 1195 = .ok (.iconst 1, 1) := by decide +kernel
theorem dL_law_1196 : decode cL_law 1196 = .ok (.iadd, 1) := by decide +kernel
theorem dL_law_1197 : decode cL_law 1197 = .ok (.iaload, 1) := by decide +kernel
theorem dL_law_1198 : decode cL_law 1198 = .ok (.aload_n 3, 1) := by decide +kernel
theorem dL_law_1199 : decode cL_law 1199 = .ok (.invokestatic 155, 3) := by decide +kernel
theorem dL_law_1202 : decode cL_law 1202 = .ok (.istore 5, 2) := by decide +kernel
theorem dL_law_1204 : decode cL_law 1204 = .ok (.aload_n 2, 1) := by decide +kernel
theorem dL_law_1205 : decode cL_law 1205 = .ok (.aload_n 0, 1) := by decide +kernel
theorem dL_law_1206 : decode cL_law 1206 = .ok (.iload 4, 2) := by decide +kernel
theorem dL_law_1208 : decode cL_law 1208 = .ok (.iconst 1, 1) := by decide +kernel
theorem dL_law_1209 : decode cL_law 1209 = .ok (.iadd, 1) := by decide +kernel
theorem dL_law_1210 : decode cL_law 1210 = .ok (.iaload, 1) := by decide +kernel
theorem dL_law_1211 : decode cL_law 1211 = .ok (.invokevirtual 157, 3) := by decide +kernel
theorem dL_law_1214 : decode cL_law 1214 = .ok (.istore 6, 2) := by decide +kernel
theorem dL_law_1216 : decode cL_law 1216 = .ok (.aload_n 2, 1) := by decide +kernel
theorem dL_law_1217 : decode cL_law 1217 = .ok (.invokevirtual 89, 3) := by decide +kernel
theorem dL_law_1220 : decode cL_law 1220 = .ok (.iload 5, 2) := by decide +kernel
theorem dL_law_1222 : decode cL_law 1222 = .ok (.if_icmp .eq 5, 3) := by decide +kernel
theorem dL_law_1225 : decode cL_law 1225 = .ok (.iconst 0, 1) := by decide +kernel
theorem dL_law_1226 : decode cL_law 1226 = .ok (.ireturn, 1) := by decide +kernel
theorem dL_law_1227 : decode cL_law 1227 = .ok (.iload 5, 2) := by decide +kernel
theorem dL_law_1229 : decode cL_law 1229 = .ok (.ifCond .ne 15, 3) := by decide +kernel
theorem dL_law_1232 : decode cL_law 1232 = .ok (.aload_n 3, 1) := by decide +kernel
theorem dL_law_1233 : decode cL_law 1233 = .ok (.iconst 0, 1) := by decide +kernel
theorem dL_law_1234 : decode cL_law 1234 = .ok (.laload, 1) := by decide +kernel
theorem dL_law_1235 : decode cL_law 1235 = .ok (.iload 6, 2) := by decide +kernel
theorem dL_law_1237 : decode cL_law 1237 = .ok (.i2l, 1) := by decide +kernel
theorem dL_law_1238 : decode cL_law 1238 = .ok (.lcmp, 1) := by decide +kernel
theorem dL_law_1239 : decode cL_law 1239 = .ok (.ifCond .eq 5, 3) := by decide +kernel
theorem dL_law_1242 : decode cL_law 1242 = .ok (.iconst 0, 1) := by decide +kernel
theorem dL_law_1243 : decode cL_law 1243 = .ok (.ireturn, 1) := by decide +kernel
theorem dL_law_1244 : decode cL_law 1244 = .ok (.goto 251, 3) := by decide +kernel
theorem dL_law_1247 : decode cL_law 1247 = .ok (.aload_n 1, 1) := by decide +kernel
theorem dL_law_1248 : decode cL_law 1248 = .ok (.invokevirtual 158, 3) := by decide +kernel
theorem dL_law_1251 : decode cL_law 1251 = .ok (.aload_n 2, 1) := by decide +kernel
theorem dL_law_1252 : decode cL_law 1252 = .ok (.invokevirtual 161, 3) := by decide +kernel
theorem dL_law_1255 : decode cL_law 1255 = .ok (.if_icmp .eq 240, 3) := by decide +kernel
theorem dL_law_1258 : decode cL_law 1258 = .ok (.iconst 0, 1) := by decide +kernel
theorem dL_law_1259 : decode cL_law 1259 = .ok (.ireturn, 1) := by decide +kernel
theorem dL_law_1260 : decode cL_law 1260 = .ok (.aload_n 1, 1) := by decide +kernel
theorem dL_law_1261 : decode cL_law 1261 = .ok (.aload_n 0, 1) := by decide +kernel
theorem dL_law_1262 : decode cL_law 1262 = .ok (.iload 4, 2) := by decide +kernel
theorem dL_law_1264 : decode cL_law 1264 = .ok (.iconst 1, 1) := by decide +kernel
theorem dL_law_1265 : decode cL_law 1265 = .ok (.iadd, 1) := by decide +kernel
theorem dL_law_1266 : decode cL_law 1266 = .ok (.iaload, 1) := by decide +kernel
theorem dL_law_1267 : decode cL_law 1267 = .ok (.aload_n 3, 1) := by decide +kernel
theorem dL_law_1268 : decode cL_law 1268 = .ok (.invokestatic 162, 3) := by decide +kernel
theorem dL_law_1271 : decode cL_law 1271 = .ok (.istore 5, 2) := by decide +kernel
theorem dL_law_1273 : decode cL_law 1273 = .ok (.aload_n 2, 1) := by decide +kernel
theorem dL_law_1274 : decode cL_law 1274 = .ok (.aload_n 0, 1) := by decide +kernel
theorem dL_law_1275 : decode cL_law 1275 = .ok (.iload 4, 2) := by decide +kernel
theorem dL_law_1277 : decode cL_law 1277 = .ok (.iconst 1, 1) := by decide +kernel
theorem dL_law_1278 : decode cL_law 1278 = .ok (.iadd, 1) := by decide +kernel
theorem dL_law_1279 : decode cL_law 1279 = .ok (.iaload, 1) := by decide +kernel
theorem dL_law_1280 : decode cL_law 1280 = .ok (.invokevirtual 164, 3) := by decide +kernel
theorem dL_law_1283 : decode cL_law 1283 = .ok (.istore 6, 2) := by decide +kernel
theorem dL_law_1285 : decode cL_law 1285 = .ok (.aload_n 2, 1) := by decide +kernel
theorem dL_law_1286 : decode cL_law 1286 = .ok (.invokevirtual 89, 3) := by decide +kernel
theorem dL_law_1289 : decode cL_law 1289 = .ok (.iload 5, 2) := by decide +kernel
theorem dL_law_1291 : decode cL_law 1291 = .ok (.if_icmp .eq 5, 3) := by decide +kernel
theorem dL_law_1294 : decode cL_law 1294 = .ok (.iconst 0, 1) := by decide +kernel
theorem dL_law_1295 : decode cL_law 1295 = .ok (.ireturn, 1) := by decide +kernel
theorem dL_law_1296 : decode cL_law 1296 = .ok (.iload 5, 2) := by decide +kernel
theorem dL_law_1298 : decode cL_law 1298 = .ok (.ifCond .ne 15, 3) := by decide +kernel
theorem dL_law_1301 : decode cL_law 1301 = .ok (.aload_n 3, 1) := by decide +kernel
theorem dL_law_1302 : decode cL_law 1302 = .ok (.iconst 0, 1) := by decide +kernel
theorem dL_law_1303 : decode cL_law 1303 = .ok (.laload, 1) := by decide +kernel
theorem dL_law_1304 : decode cL_law 1304 = .ok (.iload 6, 2) := by decide +kernel
theorem dL_law_1306 : decode cL_law 1306 = .ok (.i2l, 1) := by decide +kernel
theorem dL_law_1307 : decode cL_law 1307 = .ok (.lcmp, 1) := by decide +kernel
theorem dL_law_1308 : decode cL_law 1308 = .ok (.ifCond .eq 5, 3) := by decide +kernel
theorem dL_law_1311 : decode cL_law 1311 = .ok (.iconst 0, 1) := by decide +kernel
theorem dL_law_1312 : decode cL_law 1312 = .ok (.ireturn, 1) := by decide +kernel
theorem dL_law_1313 : decode cL_law 1313 = .ok (.goto 182, 3) := by decide +kernel
theorem dL_law_1316 : decode cL_law 1316 = .ok (.aload_n 1, 1) := by decide +kernel
theorem dL_law_1317 : decode cL_law 1317 = .ok (.aload_n 0, 1) := by decide +kernel
theorem dL_law_1318 : decode cL_law 1318 = .ok (.iload 4, 2) := by decide +kernel
theorem dL_law_1320 : decode cL_law 1320 = .ok (.iconst 1, 1) := by decide +kernel
theorem dL_law_1321 : decode cL_law 1321 = .ok (.iadd, 1) := by decide +kernel
theorem dL_law_1322 : decode cL_law 1322 = .ok (.iaload, 1) := by decide +kernel
theorem dL_law_1323 : decode cL_law 1323 = .ok (.aload_n 0, 1) := by decide +kernel
theorem dL_law_1324 : decode cL_law 1324 = .ok (.iload 4, 2) := by decide +kernel
theorem dL_law_1326 : decode cL_law 1326 = .ok (.iconst 2, 1) := by decide +kernel
theorem dL_law_1327 : decode cL_law 1327 = .ok (.iadd, 1) := by decide +kernel
theorem dL_law_1328 : decode cL_law 1328 = .ok (.iaload, 1) := by decide +kernel
theorem dL_law_1329 : decode cL_law 1329 = .ok (.aload_n 3, 1) := by decide +kernel
theorem dL_law_1330 : decode cL_law 1330 = .ok (.invokestatic 165, 3) := by decide +kernel
theorem dL_law_1333 : decode cL_law 1333 = .ok (.istore 5, 2) := by decide +kernel
theorem dL_law_1335 : decode cL_law 1335 = .ok (.aload_n 2, 1) := by decide +kernel
theorem dL_law_1336 : decode cL_law 1336 = .ok (.aload_n 0, 1) := by decide +kernel
theorem dL_law_1337 : decode cL_law 1337 = .ok (.iload 4, 2) := by decide +kernel
theorem dL_law_1339 : decode cL_law 1339 = .ok (.iconst 1, 1) := by decide +kernel
theorem dL_law_1340 : decode cL_law 1340 = .ok (.iadd, 1) := by decide +kernel
theorem dL_law_1341 : decode cL_law 1341 = .ok (.iaload, 1) := by decide +kernel
theorem dL_law_1342 : decode cL_law 1342 = .ok (.aload_n 0, 1) := by decide +kernel
theorem dL_law_1343 : decode cL_law 1343 = .ok (.iload 4, 2) := by decide +kernel
theorem dL_law_1345 : decode cL_law 1345 = .ok (.iconst 2, 1) := by decide +kernel
theorem dL_law_1346 : decode cL_law 1346 = .ok (.iadd, 1) := by decide +kernel
theorem dL_law_1347 : decode cL_law 1347 = .ok (.iaload, 1) := by decide +kernel
theorem dL_law_1348 : decode cL_law 1348 = .ok (.invokevirtual 167, 3) := by decide +kernel
theorem dL_law_1351 : decode cL_law 1351 = .ok (.istore 6, 2) := by decide +kernel
theorem dL_law_1353 : decode cL_law 1353 = .ok (.aload_n 2, 1) := by decide +kernel
theorem dL_law_1354 : decode cL_law 1354 = .ok (.invokevirtual 89, 3) := by decide +kernel
theorem dL_law_1357 : decode cL_law 1357 = .ok (.iload 5, 2) := by decide +kernel
theorem dL_law_1359 : decode cL_law 1359 = .ok (.if_icmp .eq 5, 3) := by decide +kernel
theorem dL_law_1362 : decode cL_law 1362 = .ok (.iconst 0, 1) := by decide +kernel
theorem dL_law_1363 : decode cL_law 1363 = .ok (.ireturn, 1) := by decide +kernel
theorem dL_law_1364 : decode cL_law 1364 = .ok (.iload 5, 2) := by decide +kernel
theorem dL_law_1366 : decode cL_law 1366 = .ok (.ifCond .ne 15, 3) := by decide +kernel
theorem dL_law_1369 : decode cL_law 1369 = .ok (.aload_n 3, 1) := by decide +kernel
theorem dL_law_1370 : decode cL_law 1370 = .ok (.iconst 0, 1) := by decide +kernel
theorem dL_law_1371 : decode cL_law 1371 = .ok (.laload, 1) := by decide +kernel
theorem dL_law_1372 : decode cL_law 1372 = .ok (.iload 6, 2) := by decide +kernel
theorem dL_law_1374 : decode cL_law 1374 = .ok (.i2l, 1) := by decide +kernel
theorem dL_law_1375 : decode cL_law 1375 = .ok (.lcmp, 1) := by decide +kernel
theorem dL_law_1376 : decode cL_law 1376 = .ok (.ifCond .eq 5, 3) := by decide +kernel
theorem dL_law_1379 : decode cL_law 1379 = .ok (.iconst 0, 1) := by decide +kernel
theorem dL_law_1380 : decode cL_law 1380 = .ok (.ireturn, 1) := by decide +kernel
theorem dL_law_1381 : decode cL_law 1381 = .ok (.goto 114, 3) := by decide +kernel
theorem dL_law_1384 : decode cL_law 1384 = .ok (.aload_n 1, 1) := by decide +kernel
theorem dL_law_1385 : decode cL_law 1385 = .ok (.invokevirtual 168, 3) := by decide +kernel
theorem dL_law_1388 : decode cL_law 1388 = .ok (.aload_n 2, 1) := by decide +kernel
theorem dL_law_1389 : decode cL_law 1389 = .ok (.invokevirtual 171, 3) := by decide +kernel
theorem dL_law_1392 : decode cL_law 1392 = .ok (.if_icmp .eq 103, 3) := by decide +kernel
theorem dL_law_1395 : decode cL_law 1395 = .ok (.iconst 0, 1) := by decide +kernel
theorem dL_law_1396 : decode cL_law 1396 = .ok (.ireturn, 1) := by decide +kernel
theorem dL_law_1397 : decode cL_law 1397 = .ok (.aload_n 1, 1) := by decide +kernel
theorem dL_law_1398 : decode cL_law 1398 = .ok (.invokevirtual 172, 3) := by decide +kernel
theorem dL_law_1401 : decode cL_law 1401 = .ok (.dstore 5, 2) := by decide +kernel
theorem dL_law_1403 : decode cL_law 1403 = .ok (.aload_n 2, 1) := by decide +kernel
theorem dL_law_1404 : decode cL_law 1404 = .ok (.invokevirtual 176, 3) := by decide +kernel
theorem dL_law_1407 : decode cL_law 1407 = .ok (.dstore 7, 2) := by decide +kernel
theorem dL_law_1409 : decode cL_law 1409 = .ok (.dload 5, 2) := by decide +kernel
theorem dL_law_1411 : decode cL_law 1411 = .ok (.dload 7, 2) := by decide +kernel
theorem dL_law_1413 : decode cL_law 1413 = .ok (.dcmp .l, 1) := by decide +kernel
theorem dL_law_1414 : decode cL_law 1414 = .ok (.ifCond .eq 21, 3) := by decide +kernel
theorem dL_law_1417 : decode cL_law 1417 = .ok (.dload 5, 2) := by decide +kernel
theorem dL_law_1419 : decode cL_law 1419 = .ok (.dload 5, 2) := by decide +kernel
theorem dL_law_1421 : decode cL_law 1421 = .ok (.dcmp .l, 1) := by decide +kernel
theorem dL_law_1422 : decode cL_law 1422 = .ok (.ifCond .eq 11, 3) := by decide +kernel
theorem dL_law_1425 : decode cL_law 1425 = .ok (.dload 7, 2) := by decide +kernel
theorem dL_law_1427 : decode cL_law 1427 = .ok (.dload 7, 2) := by decide +kernel
theorem dL_law_1429 : decode cL_law 1429 = .ok (.dcmp .l, 1) := by decide +kernel
theorem dL_law_1430 : decode cL_law 1430 = .ok (.ifCond .ne 5, 3) := by decide +kernel
theorem dL_law_1433 : decode cL_law 1433 = .ok (.iconst 0, 1) := by decide +kernel
theorem dL_law_1434 : decode cL_law 1434 = .ok (.ireturn, 1) := by decide +kernel
theorem dL_law_1435 : decode cL_law 1435 = .ok (.goto 60, 3) := by decide +kernel
theorem dL_law_1438 : decode cL_law 1438 = .ok (.aload_n 1, 1) := by decide +kernel
theorem dL_law_1439 : decode cL_law 1439 = .ok (.invokevirtual 177, 3) := by decide +kernel
theorem dL_law_1442 : decode cL_law 1442 = .ok (.f2d, 1) := by decide +kernel
theorem dL_law_1443 : decode cL_law 1443 = .ok (.dstore 5, 2) := by decide +kernel
theorem dL_law_1445 : decode cL_law 1445 = .ok (.aload_n 2, 1) := by decide +kernel
theorem dL_law_1446 : decode cL_law 1446 = .ok (.invokevirtual 181, 3) := by decide +kernel
theorem dL_law_1449 : decode cL_law 1449 = .ok (.f2d, 1) := by decide +kernel
theorem dL_law_1450 : decode cL_law 1450 = .ok (.dstore 7, 2) := by decide +kernel
theorem dL_law_1452 : decode cL_law 1452 = .ok (.dload 5, 2) := by decide +kernel
theorem dL_law_1454 : decode cL_law 1454 = .ok (.dload 7, 2) := by decide +kernel
theorem dL_law_1456 : decode cL_law 1456 = .ok (.dcmp .l, 1) := by decide +kernel
theorem dL_law_1457 : decode cL_law 1457 = .ok (.ifCond .eq 21, 3) := by decide +kernel
theorem dL_law_1460 : decode cL_law 1460 = .ok (.dload 5, 2) := by decide +kernel
theorem dL_law_1462 : decode cL_law 1462 = .ok (.dload 5, 2) := by decide +kernel
theorem dL_law_1464 : decode cL_law 1464 = .ok (.dcmp .l, 1) := by decide +kernel
theorem dL_law_1465 : decode cL_law 1465 = .ok (.ifCond .eq 11, 3) := by decide +kernel
theorem dL_law_1468 : decode cL_law 1468 = .ok (.dload 7, 2) := by decide +kernel
theorem dL_law_1470 : decode cL_law 1470 = .ok (.dload 7, 2) := by decide +kernel
theorem dL_law_1472 : decode cL_law 1472 = .ok (.dcmp .l, 1) := by decide +kernel
theorem dL_law_1473 : decode cL_law 1473 = .ok (.ifCond .ne 5, 3) := by decide +kernel
theorem dL_law_1476 : decode cL_law 1476 = .ok (.iconst 0, 1) := by decide +kernel
theorem dL_law_1477 : decode cL_law 1477 = .ok (.ireturn, 1) := by decide +kernel
theorem dL_law_1478 : decode cL_law 1478 = .ok (.goto 17, 3) := by decide +kernel
theorem dL_law_1481 : decode cL_law 1481 = .ok (.aload_n 1, 1) := by decide +kernel
theorem dL_law_1482 : decode cL_law 1482 = .ok (.invokevirtual 182, 3) := by decide +kernel
theorem dL_law_1485 : decode cL_law 1485 = .ok (.aload_n 2, 1) := by decide +kernel
theorem dL_law_1486 : decode cL_law 1486 = .ok (.invokevirtual 186, 3) := by decide +kernel
theorem dL_law_1489 : decode cL_law 1489 = .ok (.lcmp, 1) := by decide +kernel
theorem dL_law_1490 : decode cL_law 1490 = .ok (.ifCond .eq 5, 3) := by decide +kernel
theorem dL_law_1493 : decode cL_law 1493 = .ok (.iconst 0, 1) := by decide +kernel
theorem dL_law_1494 : decode cL_law 1494 = .ok (.ireturn, 1) := by decide +kernel
theorem dL_law_1495 : decode cL_law 1495 = .ok (.iinc 4 5, 3) := by decide +kernel
theorem dL_law_1498 : decode cL_law 1498 = .ok (.goto (-1475), 3) := by decide +kernel
theorem dL_law_1501 : decode cL_law 1501 = .ok (.iconst 1, 1) := by decide +kernel
theorem dL_law_1502 : decode cL_law 1502 = .ok (.ireturn, 1) := by decide +kernel
