theorem ddX2_gates_0 : decode cX2_gates 0 = .ok (.aload_n 0, 1) := by decide +kernel
theorem ddX2_gates_1 : decode cX2_gates 1 = .ok (.getfield 11, 3) := by decide +kernel
theorem ddX2_gates_4 : decode cX2_gates 4 = .ok (.iconst 0, 1) := by decide +kernel
theorem ddX2_gates_5 : decode cX2_gates 5 = .ok (.iaload, 1) := by decide +kernel
theorem ddX2_gates_6 : decode cX2_gates 6 = .ok (.ireturn, 1) := by decide +kernel
theorem ddX2_guards_0 : decode cX2_guards 0 = .ok (.aload_n 0, 1) := by decide +kernel
theorem ddX2_guards_1 : decode cX2_guards 1 = .ok (.getfield 11, 3) := by decide +kernel
theorem ddX2_guards_4 : decode cX2_guards 4 = .ok (.iconst 1, 1) := by decide +kernel
theorem ddX2_guards_5 : decode cX2_guards 5 = .ok (.iaload, 1) := by decide +kernel
theorem ddX2_guards_6 : decode cX2_guards 6 = .ok (.ireturn, 1) := by decide +kernel
theorem ddX2_rationsLeft_0 : decode cX2_rationsLeft 0 = .ok (.aload_n 0, 1) := by decide +kernel
theorem ddX2_rationsLeft_1 : decode cX2_rationsLeft 1 = .ok (.getfield 11, 3) := by decide +kernel
theorem ddX2_rationsLeft_4 : decode cX2_rationsLeft 4 = .ok (.iconst 2, 1) := by decide +kernel
theorem ddX2_rationsLeft_5 : decode cX2_rationsLeft 5 = .ok (.iaload, 1) := by decide +kernel
theorem ddX2_rationsLeft_6 : decode cX2_rationsLeft 6 = .ok (.ireturn, 1) := by decide +kernel
theorem ddX2_now_0 : decode cX2_now 0 = .ok (.aload_n 0, 1) := by decide +kernel
theorem ddX2_now_1 : decode cX2_now 1 = .ok (.getfield 11, 3) := by decide +kernel
theorem ddX2_now_4 : decode cX2_now 4 = .ok (.iconst 3, 1) := by decide +kernel
theorem ddX2_now_5 : decode cX2_now 5 = .ok (.iaload, 1) := by decide +kernel
theorem ddX2_now_6 : decode cX2_now 6 = .ok (.ireturn, 1) := by decide +kernel
theorem ddX2_isGate_0 : decode cX2_isGate 0 = .ok (.iload_n 1, 1) := by decide +kernel
theorem ddX2_isGate_1 : decode cX2_isGate 1 = .ok (.ifCond .lt 22, 3) := by decide +kernel
theorem ddX2_isGate_4 : decode cX2_isGate 4 = .ok (.iload_n 1, 1) := by decide +kernel
theorem ddX2_isGate_5 : decode cX2_isGate 5 = .ok (.iconst 5, 1) := by decide +kernel
theorem ddX2_isGate_6 : decode cX2_isGate 6 = .ok (.if_icmp .ge 17, 3) := by decide +kernel
theorem ddX2_isGate_9 : decode cX2_isGate 9 = .ok (.iload_n 1, 1) := by decide +kernel
theorem ddX2_isGate_10 : decode cX2_isGate 10 = .ok (.aload_n 0, 1) := by decide +kernel
theorem ddX2_isGate_11 : decode cX2_isGate 11 = .ok (.getfield 11, 3) := by decide +kernel
theorem ddX2_isGate_14 : decode cX2_isGate 14 = .ok (.iconst 0, 1) := by decide +kernel
theorem ddX2_isGate_15 : decode cX2_isGate 15 = .ok (.iaload, 1) := by decide +kernel
theorem ddX2_isGate_16 : decode cX2_isGate 16 = .ok (.if_icmp .ge 7, 3) := by decide +kernel
theorem ddX2_isGate_19 : decode cX2_isGate 19 = .ok (.iconst 1, 1) := by decide +kernel
theorem ddX2_isGate_20 : decode cX2_isGate 20 = .ok (.goto 4, 3) := by decide +kernel
theorem ddX2_isGate_23 : decode cX2_isGate 23 = .ok (.iconst 0, 1) := by decide +kernel
theorem ddX2_isGate_24 : decode cX2_isGate 24 = .ok (.ireturn, 1) := by decide +kernel
theorem ddX2_isGuard_0 : decode cX2_isGuard 0 = .ok (.iload_n 1, 1) := by decide +kernel
theorem ddX2_isGuard_1 : decode cX2_isGuard 1 = .ok (.ifCond .lt 23, 3) := by decide +kernel
theorem ddX2_isGuard_4 : decode cX2_isGuard 4 = .ok (.iload_n 1, 1) := by decide +kernel
theorem ddX2_isGuard_5 : decode cX2_isGuard 5 = .ok (.bipush 10, 2) := by decide +kernel
theorem ddX2_isGuard_7 : decode cX2_isGuard 7 = .ok (.if_icmp .ge 17, 3) := by decide +kernel
theorem ddX2_isGuard_10 : decode cX2_isGuard 10 = .ok (.iload_n 1, 1) := by decide +kernel
theorem ddX2_isGuard_11 : decode cX2_isGuard 11 = .ok (.aload_n 0, 1) := by decide +kernel
theorem ddX2_isGuard_12 : decode cX2_isGuard 12 = .ok (.getfield 11, 3) := by decide +kernel
theorem ddX2_isGuard_15 : decode cX2_isGuard 15 = .ok (.iconst 1, 1) := by decide +kernel
theorem ddX2_isGuard_16 : decode cX2_isGuard 16 = .ok (.iaload, 1) := by decide +kernel
theorem ddX2_isGuard_17 : decode cX2_isGuard 17 = .ok (.if_icmp .ge 7, 3) := by decide +kernel
theorem ddX2_isGuard_20 : decode cX2_isGuard 20 = .ok (.iconst 1, 1) := by decide +kernel
theorem ddX2_isGuard_21 : decode cX2_isGuard 21 = .ok (.goto 4, 3) := by decide +kernel
theorem ddX2_isGuard_24 : decode cX2_isGuard 24 = .ok (.iconst 0, 1) := by decide +kernel
theorem ddX2_isGuard_25 : decode cX2_isGuard 25 = .ok (.ireturn, 1) := by decide +kernel
theorem ddX2_isSlot_0 : decode cX2_isSlot 0 = .ok (.iload_n 1, 1) := by decide +kernel
theorem ddX2_isSlot_1 : decode cX2_isSlot 1 = .ok (.ifCond .lt 13, 3) := by decide +kernel
theorem ddX2_isSlot_4 : decode cX2_isSlot 4 = .ok (.iload_n 1, 1) := by decide +kernel
theorem ddX2_isSlot_5 : decode cX2_isSlot 5 = .ok (.bipush 28, 2) := by decide +kernel
theorem ddX2_isSlot_7 : decode cX2_isSlot 7 = .ok (.if_icmp .ge 7, 3) := by decide +kernel
theorem ddX2_isSlot_10 : decode cX2_isSlot 10 = .ok (.iconst 1, 1) := by decide +kernel
theorem ddX2_isSlot_11 : decode cX2_isSlot 11 = .ok (.goto 4, 3) := by decide +kernel
theorem ddX2_isSlot_14 : decode cX2_isSlot 14 = .ok (.iconst 0, 1) := by decide +kernel
theorem ddX2_isSlot_15 : decode cX2_isSlot 15 = .ok (.ireturn, 1) := by decide +kernel
theorem ddX2_hasPassed_0 : decode cX2_hasPassed 0 = .ok (.iload_n 1, 1) := by decide +kernel
theorem ddX2_hasPassed_1 : decode cX2_hasPassed 1 = .ok (.aload_n 0, 1) := by decide +kernel
theorem ddX2_hasPassed_2 : decode cX2_hasPassed 2 = .ok (.getfield 11, 3) := by decide +kernel
theorem ddX2_hasPassed_5 : decode cX2_hasPassed 5 = .ok (.iconst 3, 1) := by decide +kernel
theorem ddX2_hasPassed_6 : decode cX2_hasPassed 6 = .ok (.iaload, 1) := by decide +kernel
theorem ddX2_hasPassed_7 : decode cX2_hasPassed 7 = .ok (.if_icmp .ge 7, 3) := by decide +kernel
theorem ddX2_hasPassed_10 : decode cX2_hasPassed 10 = .ok (.iconst 1, 1) := by decide +kernel
theorem ddX2_hasPassed_11 : decode cX2_hasPassed 11 = .ok (.goto 4, 3) := by decide +kernel
theorem ddX2_hasPassed_14 : decode cX2_hasPassed 14 = .ok (.iconst 0, 1) := by decide +kernel
theorem ddX2_hasPassed_15 : decode cX2_hasPassed 15 = .ok (.ireturn, 1) := by decide +kernel
theorem ddX2_rankNeededAt_0 : decode cX2_rankNeededAt 0 = .ok (.aload_n 0, 1) := by decide +kernel
theorem ddX2_rankNeededAt_1 : decode cX2_rankNeededAt 1 = .ok (.iload_n 1, 1) := by decide +kernel
theorem ddX2_rankNeededAt_2 : decode cX2_rankNeededAt 2 = .ok (.invokevirtual 24, 3) := by decide +kernel
theorem ddX2_rankNeededAt_5 : decode cX2_rankNeededAt 5 = .ok (.ifCond .eq 14, 3) := by decide +kernel
theorem ddX2_rankNeededAt_8 : decode cX2_rankNeededAt 8 = .ok (.aload_n 0, 1) := by decide +kernel
theorem ddX2_rankNeededAt_9 : decode cX2_rankNeededAt 9 = .ok (.getfield 11, 3) := by decide +kernel
theorem ddX2_rankNeededAt_12 : decode cX2_rankNeededAt 12 = .ok (.iconst 4, 1) := by decide +kernel
theorem ddX2_rankNeededAt_13 : decode cX2_rankNeededAt 13 = .ok (.iload_n 1, 1) := by decide +kernel
theorem ddX2_rankNeededAt_14 : decode cX2_rankNeededAt 14 = .ok (.iadd, 1) := by decide +kernel
theorem ddX2_rankNeededAt_15 : decode cX2_rankNeededAt 15 = .ok (.iaload, 1) := by decide +kernel
theorem ddX2_rankNeededAt_16 : decode cX2_rankNeededAt 16 = .ok (.goto 4, 3) := by decide +kernel
theorem ddX2_rankNeededAt_19 : decode cX2_rankNeededAt 19 = .ok (.iconst 0, 1) := by decide +kernel
theorem ddX2_rankNeededAt_20 : decode cX2_rankNeededAt 20 = .ok (.ireturn, 1) := by decide +kernel
theorem ddX2_rankOf_0 : decode cX2_rankOf 0 = .ok (.aload_n 0, 1) := by decide +kernel
theorem ddX2_rankOf_1 : decode cX2_rankOf 1 = .ok (.iload_n 1, 1) := by decide +kernel
theorem ddX2_rankOf_2 : decode cX2_rankOf 2 = .ok (.invokevirtual 28, 3) := by decide +kernel
theorem ddX2_rankOf_5 : decode cX2_rankOf 5 = .ok (.ifCond .eq 15, 3) := by decide +kernel
theorem ddX2_rankOf_8 : decode cX2_rankOf 8 = .ok (.aload_n 0, 1) := by decide +kernel
theorem ddX2_rankOf_9 : decode cX2_rankOf 9 = .ok (.getfield 11, 3) := by decide +kernel
theorem ddX2_rankOf_12 : decode cX2_rankOf 12 = .ok (.bipush 9, 2) := by decide +kernel
theorem ddX2_rankOf_14 : decode cX2_rankOf 14 = .ok (.iload_n 1, 1) := by decide +kernel
theorem ddX2_rankOf_15 : decode cX2_rankOf 15 = .ok (.iadd, 1) := by decide +kernel
theorem ddX2_rankOf_16 : decode cX2_rankOf 16 = .ok (.iaload, 1) := by decide +kernel
theorem ddX2_rankOf_17 : decode cX2_rankOf 17 = .ok (.goto 4, 3) := by decide +kernel
theorem ddX2_rankOf_20 : decode cX2_rankOf 20 = .ok (.iconst 0, 1) := by decide +kernel
theorem ddX2_rankOf_21 : decode cX2_rankOf 21 = .ok (.ireturn, 1) := by decide +kernel
theorem ddX2_faintsOf_0 : decode cX2_faintsOf 0 = .ok (.aload_n 0, 1) := by decide +kernel
theorem ddX2_faintsOf_1 : decode cX2_faintsOf 1 = .ok (.iload_n 1, 1) := by decide +kernel
theorem ddX2_faintsOf_2 : decode cX2_faintsOf 2 = .ok (.invokevirtual 28, 3) := by decide +kernel
theorem ddX2_faintsOf_5 : decode cX2_faintsOf 5 = .ok (.ifCond .eq 15, 3) := by decide +kernel
theorem ddX2_faintsOf_8 : decode cX2_faintsOf 8 = .ok (.aload_n 0, 1) := by decide +kernel
theorem ddX2_faintsOf_9 : decode cX2_faintsOf 9 = .ok (.getfield 11, 3) := by decide +kernel
theorem ddX2_faintsOf_12 : decode cX2_faintsOf 12 = .ok (.bipush 19, 2) := by decide +kernel
theorem ddX2_faintsOf_14 : decode cX2_faintsOf 14 = .ok (.iload_n 1, 1) := by decide +kernel
theorem ddX2_faintsOf_15 : decode cX2_faintsOf 15 = .ok (.iadd, 1) := by decide +kernel
theorem ddX2_faintsOf_16 : decode cX2_faintsOf 16 = .ok (.iaload, 1) := by decide +kernel
theorem ddX2_faintsOf_17 : decode cX2_faintsOf 17 = .ok (.goto 4, 3) := by decide +kernel
theorem ddX2_faintsOf_20 : decode cX2_faintsOf 20 = .ok (.iconst 0, 1) := by decide +kernel
theorem ddX2_faintsOf_21 : decode cX2_faintsOf 21 = .ok (.ireturn, 1) := by decide +kernel
theorem ddX2_appendGate_0 : decode cX2_appendGate 0 = .ok (.aload_n 0, 1) := by decide +kernel
theorem ddX2_appendGate_1 : decode cX2_appendGate 1 = .ok (.getfield 11, 3) := by decide +kernel
theorem ddX2_appendGate_4 : decode cX2_appendGate 4 = .ok (.iconst 0, 1) := by decide +kernel
theorem ddX2_appendGate_5 : decode cX2_appendGate 5 = .ok (.iaload, 1) := by decide +kernel
theorem ddX2_appendGate_6 : decode cX2_appendGate 6 = .ok (.istore_n 2, 1) := by decide +kernel
theorem ddX2_appendGate_7 : decode cX2_appendGate 7 = .ok (.iload_n 2, 1) := by decide +kernel
theorem ddX2_appendGate_8 : decode cX2_appendGate 8 = .ok (.ifCond .lt 26, 3) := by decide +kernel
theorem ddX2_appendGate_11 : decode cX2_appendGate 11 = .ok (.iload_n 2, 1) := by decide +kernel
theorem ddX2_appendGate_12 : decode cX2_appendGate 12 = .ok (.iconst 5, 1) := by decide +kernel
theorem ddX2_appendGate_13 : decode cX2_appendGate 13 = .ok (.if_icmp .ge 21, 3) := by decide +kernel
theorem ddX2_appendGate_16 : decode cX2_appendGate 16 = .ok (.aload_n 0, 1) := by decide +kernel
theorem ddX2_appendGate_17 : decode cX2_appendGate 17 = .ok (.getfield 11, 3) := by decide +kernel
theorem ddX2_appendGate_20 : decode cX2_appendGate 20 = .ok (.iconst 4, 1) := by decide +kernel
theorem ddX2_appendGate_21 : decode cX2_appendGate 21 = .ok (.iload_n 2, 1) := by decide +kernel
theorem ddX2_appendGate_22 : decode cX2_appendGate 22 = .ok (.iadd, 1) := by decide +kernel
theorem ddX2_appendGate_23 : decode cX2_appendGate 23 = .ok (.iload_n 1, 1) := by decide +kernel
theorem ddX2_appendGate_24 : decode cX2_appendGate 24 = .ok (.iastore, 1) := by decide +kernel
theorem ddX2_appendGate_25 : decode cX2_appendGate 25 = .ok (.aload_n 0, 1) := by decide +kernel
theorem ddX2_appendGate_26 : decode cX2_appendGate 26 = .ok (.getfield 11, 3) := by decide +kernel
theorem ddX2_appendGate_29 : decode cX2_appendGate 29 = .ok (.iconst 0, 1) := by decide +kernel
theorem ddX2_appendGate_30 : decode cX2_appendGate 30 = .ok (.iload_n 2, 1) := by decide +kernel
theorem ddX2_appendGate_31 : decode cX2_appendGate 31 = .ok (.iconst 1, 1) := by decide +kernel
theorem ddX2_appendGate_32 : decode cX2_appendGate 32 = .ok (.iadd, 1) := by decide +kernel
theorem ddX2_appendGate_33 : decode cX2_appendGate 33 = .ok (.iastore, 1) := by decide +kernel
theorem ddX2_appendGate_34 : decode cX2_appendGate 34 = .ok (.iload_n 2, 1) := by decide +kernel
theorem ddX2_appendGate_35 : decode cX2_appendGate 35 = .ok (.ireturn, 1) := by decide +kernel
theorem ddX2_appendGuard_0 : decode cX2_appendGuard 0 = .ok (.aload_n 0, 1) := by decide +kernel
theorem ddX2_appendGuard_1 : decode cX2_appendGuard 1 = .ok (.getfield 11, 3) := by decide +kernel
theorem ddX2_appendGuard_4 : decode cX2_appendGuard 4 = .ok (.iconst 1, 1) := by decide +kernel
theorem ddX2_appendGuard_5 : decode cX2_appendGuard 5 = .ok (.iaload, 1) := by decide +kernel
theorem ddX2_appendGuard_6 : decode cX2_appendGuard 6 = .ok (.istore_n 2, 1) := by decide +kernel
theorem ddX2_appendGuard_7 : decode cX2_appendGuard 7 = .ok (.iload_n 2, 1) := by decide +kernel
theorem ddX2_appendGuard_8 : decode cX2_appendGuard 8 = .ok (.ifCond .lt 28, 3) := by decide +kernel
theorem ddX2_appendGuard_11 : decode cX2_appendGuard 11 = .ok (.iload_n 2, 1) := by decide +kernel
theorem ddX2_appendGuard_12 : decode cX2_appendGuard 12 = .ok (.bipush 10, 2) := by decide +kernel
theorem ddX2_appendGuard_14 : decode cX2_appendGuard 14 = .ok (.if_icmp .ge 22, 3) := by decide +kernel
theorem ddX2_appendGuard_17 : decode cX2_appendGuard 17 = .ok (.aload_n 0, 1) := by decide +kernel
theorem ddX2_appendGuard_18 : decode cX2_appendGuard 18 = .ok (.getfield 11, 3) := by decide +kernel
theorem ddX2_appendGuard_21 : decode cX2_appendGuard 21 = .ok (.bipush 9, 2) := by decide +kernel
theorem ddX2_appendGuard_23 : decode cX2_appendGuard 23 = .ok (.iload_n 2, 1) := by decide +kernel
theorem ddX2_appendGuard_24 : decode cX2_appendGuard 24 = .ok (.iadd, 1) := by decide +kernel
theorem ddX2_appendGuard_25 : decode cX2_appendGuard 25 = .ok (.iload_n 1, 1) := by decide +kernel
theorem ddX2_appendGuard_26 : decode cX2_appendGuard 26 = .ok (.iastore, 1) := by decide +kernel
theorem ddX2_appendGuard_27 : decode cX2_appendGuard 27 = .ok (.aload_n 0, 1) := by decide +kernel
theorem ddX2_appendGuard_28 : decode cX2_appendGuard 28 = .ok (.getfield 11, 3) := by decide +kernel
theorem ddX2_appendGuard_31 : decode cX2_appendGuard 31 = .ok (.iconst 1, 1) := by decide +kernel
theorem ddX2_appendGuard_32 : decode cX2_appendGuard 32 = .ok (.iload_n 2, 1) := by decide +kernel
theorem ddX2_appendGuard_33 : decode cX2_appendGuard 33 = .ok (.iconst 1, 1) := by decide +kernel
theorem ddX2_appendGuard_34 : decode cX2_appendGuard 34 = .ok (.iadd, 1) := by decide +kernel
theorem ddX2_appendGuard_35 : decode cX2_appendGuard 35 = .ok (.iastore, 1) := by decide +kernel
theorem ddX2_appendGuard_36 : decode cX2_appendGuard 36 = .ok (.iload_n 2, 1) := by decide +kernel
theorem ddX2_appendGuard_37 : decode cX2_appendGuard 37 = .ok (.ireturn, 1) := by decide +kernel
theorem ddX2_guardOn_0 : decode cX2_guardOn 0 = .ok (.aload_n 0, 1) := by decide +kernel
theorem ddX2_guardOn_1 : decode cX2_guardOn 1 = .ok (.iload_n 1, 1) := by decide +kernel
theorem ddX2_guardOn_2 : decode cX2_guardOn 2 = .ok (.invokevirtual 24, 3) := by decide +kernel
theorem ddX2_guardOn_5 : decode cX2_guardOn 5 = .ok (.ifCond .eq 30, 3) := by decide +kernel
theorem ddX2_guardOn_8 : decode cX2_guardOn 8 = .ok (.aload_n 0, 1) := by decide +kernel
theorem ddX2_guardOn_9 : decode cX2_guardOn 9 = .ok (.iload_n 2, 1) := by decide +kernel
theorem ddX2_guardOn_10 : decode cX2_guardOn 10 = .ok (.invokevirtual 31, 3) := by decide +kernel
theorem ddX2_guardOn_13 : decode cX2_guardOn 13 = .ok (.ifCond .eq 22, 3) := by decide +kernel
theorem ddX2_guardOn_16 : decode cX2_guardOn 16 = .ok (.aload_n 0, 1) := by decide +kernel
theorem ddX2_guardOn_17 : decode cX2_guardOn 17 = .ok (.getfield 11, 3) := by decide +kernel
theorem ddX2_guardOn_20 : decode cX2_guardOn 20 = .ok (.bipush 39, 2) := by decide +kernel
theorem ddX2_guardOn_22 : decode cX2_guardOn 22 = .ok (.iload_n 1, 1) := by decide +kernel
theorem ddX2_guardOn_23 : decode cX2_guardOn 23 = .ok (.bipush 28, 2) := by decide +kernel
theorem ddX2_guardOn_25 : decode cX2_guardOn 25 = .ok (.imul, 1) := by decide +kernel
theorem ddX2_guardOn_26 : decode cX2_guardOn 26 = .ok (.iadd, 1) := by decide +kernel
theorem ddX2_guardOn_27 : decode cX2_guardOn 27 = .ok (.iload_n 2, 1) := by decide +kernel
theorem ddX2_guardOn_28 : decode cX2_guardOn 28 = .ok (.iadd, 1) := by decide +kernel
theorem ddX2_guardOn_29 : decode cX2_guardOn 29 = .ok (.iaload, 1) := by decide +kernel
theorem ddX2_guardOn_30 : decode cX2_guardOn 30 = .ok (.iconst 1, 1) := by decide +kernel
theorem ddX2_guardOn_31 : decode cX2_guardOn 31 = .ok (.isub, 1) := by decide +kernel
theorem ddX2_guardOn_32 : decode cX2_guardOn 32 = .ok (.goto 4, 3) := by decide +kernel
theorem ddX2_guardOn_35 : decode cX2_guardOn 35 = .ok (.iconst (-1), 1) := by decide +kernel
theorem ddX2_guardOn_36 : decode cX2_guardOn 36 = .ok (.ireturn, 1) := by decide +kernel
theorem ddX2_setDuty_0 : decode cX2_setDuty 0 = .ok (.aload_n 0, 1) := by decide +kernel
theorem ddX2_setDuty_1 : decode cX2_setDuty 1 = .ok (.iload_n 1, 1) := by decide +kernel
theorem ddX2_setDuty_2 : decode cX2_setDuty 2 = .ok (.invokevirtual 24, 3) := by decide +kernel
theorem ddX2_setDuty_5 : decode cX2_setDuty 5 = .ok (.ifCond .eq 28, 3) := by decide +kernel
theorem ddX2_setDuty_8 : decode cX2_setDuty 8 = .ok (.aload_n 0, 1) := by decide +kernel
theorem ddX2_setDuty_9 : decode cX2_setDuty 9 = .ok (.iload_n 2, 1) := by decide +kernel
theorem ddX2_setDuty_10 : decode cX2_setDuty 10 = .ok (.invokevirtual 31, 3) := by decide +kernel
theorem ddX2_setDuty_13 : decode cX2_setDuty 13 = .ok (.ifCond .eq 20, 3) := by decide +kernel
theorem ddX2_setDuty_16 : decode cX2_setDuty 16 = .ok (.aload_n 0, 1) := by decide +kernel
theorem ddX2_setDuty_17 : decode cX2_setDuty 17 = .ok (.getfield 11, 3) := by decide +kernel
theorem ddX2_setDuty_20 : decode cX2_setDuty 20 = .ok (.bipush 39, 2) := by decide +kernel
theorem ddX2_setDuty_22 : decode cX2_setDuty 22 = .ok (.iload_n 1, 1) := by decide +kernel
theorem ddX2_setDuty_23 : decode cX2_setDuty 23 = .ok (.bipush 28, 2) := by decide +kernel
theorem ddX2_setDuty_25 : decode cX2_setDuty 25 = .ok (.imul, 1) := by decide +kernel
theorem ddX2_setDuty_26 : decode cX2_setDuty 26 = .ok (.iadd, 1) := by decide +kernel
theorem ddX2_setDuty_27 : decode cX2_setDuty 27 = .ok (.iload_n 2, 1) := by decide +kernel
theorem ddX2_setDuty_28 : decode cX2_setDuty 28 = .ok (.iadd, 1) := by decide +kernel
theorem ddX2_setDuty_29 : decode cX2_setDuty 29 = .ok (.iload_n 3, 1) := by decide +kernel
theorem ddX2_setDuty_30 : decode cX2_setDuty 30 = .ok (.iconst 1, 1) := by decide +kernel
theorem ddX2_setDuty_31 : decode cX2_setDuty 31 = .ok (.iadd, 1) := by decide +kernel
theorem ddX2_setDuty_32 : decode cX2_setDuty 32 = .ok (.iastore, 1) := by decide +kernel
theorem ddX2_setDuty_33 : decode cX2_setDuty 33 = .ok (.return_, 1) := by decide +kernel
theorem ddX2_gateHeld_0 : decode cX2_gateHeld 0 = .ok (.iload_n 2, 1) := by decide +kernel
theorem ddX2_gateHeld_1 : decode cX2_gateHeld 1 = .ok (.ifCond .lt 13, 3) := by decide +kernel
theorem ddX2_gateHeld_4 : decode cX2_gateHeld 4 = .ok (.iload_n 2, 1) := by decide +kernel
theorem ddX2_gateHeld_5 : decode cX2_gateHeld 5 = .ok (.bipush 28, 2) := by decide +kernel
theorem ddX2_gateHeld_7 : decode cX2_gateHeld 7 = .ok (.if_icmp .ge 7, 3) := by decide +kernel
theorem ddX2_gateHeld_10 : decode cX2_gateHeld 10 = .ok (.iload_n 1, 1) := by decide +kernel
theorem ddX2_gateHeld_11 : decode cX2_gateHeld 11 = .ok (.ifCond .ge 5, 3) := by decide +kernel
theorem ddX2_gateHeld_14 : decode cX2_gateHeld 14 = .ok (.iconst (-1), 1) := by decide +kernel
theorem ddX2_gateHeld_15 : decode cX2_gateHeld 15 = .ok (.ireturn, 1) := by decide +kernel
theorem ddX2_gateHeld_16 : decode cX2_gateHeld 16 = .ok (.iconst 0, 1) := by decide +kernel
theorem ddX2_gateHeld_17 : decode cX2_gateHeld 17 = .ok (.istore_n 3, 1) := by decide +kernel
theorem ddX2_gateHeld_18 : decode cX2_gateHeld 18 = .ok (.iload_n 3, 1) := by decide +kernel
theorem ddX2_gateHeld_19 : decode cX2_gateHeld 19 = .ok (.iconst 5, 1) := by decide +kernel
theorem ddX2_gateHeld_20 : decode cX2_gateHeld 20 = .ok (.if_icmp .ge 31, 3) := by decide +kernel
theorem ddX2_gateHeld_23 : decode cX2_gateHeld 23 = .ok (.aload_n 0, 1) := by decide +kernel
theorem ddX2_gateHeld_24 : decode cX2_gateHeld 24 = .ok (.getfield 11, 3) := by decide +kernel
theorem ddX2_gateHeld_27 : decode cX2_gateHeld 27 = .ok (.bipush 39, 2) := by decide +kernel
theorem ddX2_gateHeld_29 : decode cX2_gateHeld 29 = .ok (.iload_n 3, 1) := by decide +kernel
theorem ddX2_gateHeld_30 : decode cX2_gateHeld 30 = .ok (.bipush 28, 2) := by decide +kernel
theorem ddX2_gateHeld_32 : decode cX2_gateHeld 32 = .ok (.imul, 1) := by decide +kernel
theorem ddX2_gateHeld_33 : decode cX2_gateHeld 33 = .ok (.iadd, 1) := by decide +kernel
theorem ddX2_gateHeld_34 : decode cX2_gateHeld 34 = .ok (.iload_n 2, 1) := by decide +kernel
theorem ddX2_gateHeld_35 : decode cX2_gateHeld 35 = .ok (.iadd, 1) := by decide +kernel
theorem ddX2_gateHeld_36 : decode cX2_gateHeld 36 = .ok (.iaload, 1) := by decide +kernel
theorem ddX2_gateHeld_37 : decode cX2_gateHeld 37 = .ok (.iload_n 1, 1) := by decide +kernel
theorem ddX2_gateHeld_38 : decode cX2_gateHeld 38 = .ok (.iconst 1, 1) := by decide +kernel
theorem ddX2_gateHeld_39 : decode cX2_gateHeld 39 = .ok (.iadd, 1) := by decide +kernel
theorem ddX2_gateHeld_40 : decode cX2_gateHeld 40 = .ok (.if_icmp .ne 5, 3) := by decide +kernel
theorem ddX2_gateHeld_43 : decode cX2_gateHeld 43 = .ok (.iload_n 3, 1) := by decide +kernel
theorem ddX2_gateHeld_44 : decode cX2_gateHeld 44 = .ok (.ireturn, 1) := by decide +kernel
theorem ddX2_gateHeld_45 : decode cX2_gateHeld 45 = .ok (.iinc 3 1, 3) := by decide +kernel
theorem ddX2_gateHeld_48 : decode cX2_gateHeld 48 = .ok (.goto (-30), 3) := by decide +kernel
theorem ddX2_gateHeld_51 : decode cX2_gateHeld 51 = .ok (.iconst (-1), 1) := by decide +kernel
theorem ddX2_gateHeld_52 : decode cX2_gateHeld 52 = .ok (.ireturn, 1) := by decide +kernel
theorem ddX2_firstGateHeld_0 : decode cX2_firstGateHeld 0 = .ok (.iload_n 2, 1) := by decide +kernel
theorem ddX2_firstGateHeld_1 : decode cX2_firstGateHeld 1 = .ok (.istore 4, 2) := by decide +kernel
theorem ddX2_firstGateHeld_3 : decode cX2_firstGateHeld 3 = .ok (.iload 4, 2) := by decide +kernel
theorem ddX2_firstGateHeld_5 : decode cX2_firstGateHeld 5 = .ok (.iload_n 3, 1) := by decide +kernel
theorem ddX2_firstGateHeld_6 : decode cX2_firstGateHeld 6 = .ok (.if_icmp .gt 34, 3) := by decide +kernel
theorem ddX2_firstGateHeld_9 : decode cX2_firstGateHeld 9 = .ok (.iload 4, 2) := by decide +kernel
theorem ddX2_firstGateHeld_11 : decode cX2_firstGateHeld 11 = .ok (.bipush 28, 2) := by decide +kernel
theorem ddX2_firstGateHeld_13 : decode cX2_firstGateHeld 13 = .ok (.if_icmp .ge 27, 3) := by decide +kernel
theorem ddX2_firstGateHeld_16 : decode cX2_firstGateHeld 16 = .ok (.aload_n 0, 1) := by decide +kernel
theorem ddX2_firstGateHeld_17 : decode cX2_firstGateHeld 17 = .ok (.iload_n 1, 1) := by decide +kernel
theorem ddX2_firstGateHeld_18 : decode cX2_firstGateHeld 18 = .ok (.iload 4, 2) := by decide +kernel
theorem ddX2_firstGateHeld_20 : decode cX2_firstGateHeld 20 = .ok (.invokevirtual 34, 3) := by decide +kernel
theorem ddX2_firstGateHeld_23 : decode cX2_firstGateHeld 23 = .ok (.istore 5, 2) := by decide +kernel
theorem ddX2_firstGateHeld_25 : decode cX2_firstGateHeld 25 = .ok (.iload 5, 2) := by decide +kernel
theorem ddX2_firstGateHeld_27 : decode cX2_firstGateHeld 27 = .ok (.iconst (-1), 1) := by decide +kernel
theorem ddX2_firstGateHeld_28 : decode cX2_firstGateHeld 28 = .ok (.if_icmp .eq 6, 3) := by decide +kernel
theorem ddX2_firstGateHeld_31 : decode cX2_firstGateHeld 31 = .ok (.iload 5, 2) := by decide +kernel
theorem ddX2_firstGateHeld_33 : decode cX2_firstGateHeld 33 = .ok (.ireturn, 1) := by decide +kernel
theorem ddX2_firstGateHeld_34 : decode cX2_firstGateHeld 34 = .ok (.iinc 4 1, 3) := by decide +kernel
theorem ddX2_firstGateHeld_37 : decode cX2_firstGateHeld 37 = .ok (.goto (-34), 3) := by decide +kernel
theorem ddX2_firstGateHeld_40 : decode cX2_firstGateHeld 40 = .ok (.iconst (-1), 1) := by decide +kernel
theorem ddX2_firstGateHeld_41 : decode cX2_firstGateHeld 41 = .ok (.ireturn, 1) := by decide +kernel
theorem ddX2_dutyTotal_0 : decode cX2_dutyTotal 0 = .ok (.iconst 0, 1) := by decide +kernel
theorem ddX2_dutyTotal_1 : decode cX2_dutyTotal 1 = .ok (.istore_n 2, 1) := by decide +kernel
theorem ddX2_dutyTotal_2 : decode cX2_dutyTotal 2 = .ok (.bipush 39, 2) := by decide +kernel
theorem ddX2_dutyTotal_4 : decode cX2_dutyTotal 4 = .ok (.istore_n 3, 1) := by decide +kernel
theorem ddX2_dutyTotal_5 : decode cX2_dutyTotal 5 = .ok (.iload_n 3, 1) := by decide +kernel
theorem ddX2_dutyTotal_6 : decode cX2_dutyTotal 6 = .ok (.sipush 179, 3) := by decide +kernel
theorem ddX2_dutyTotal_9 : decode cX2_dutyTotal 9 = .ok (.if_icmp .ge 24, 3) := by decide +kernel
theorem ddX2_dutyTotal_12 : decode cX2_dutyTotal 12 = .ok (.aload_n 0, 1) := by decide +kernel
theorem ddX2_dutyTotal_13 : decode cX2_dutyTotal 13 = .ok (.getfield 11, 3) := by decide +kernel
theorem ddX2_dutyTotal_16 : decode cX2_dutyTotal 16 = .ok (.iload_n 3, 1) := by decide +kernel
theorem ddX2_dutyTotal_17 : decode cX2_dutyTotal 17 = .ok (.iaload, 1) := by decide +kernel
theorem ddX2_dutyTotal_18 : decode cX2_dutyTotal 18 = .ok (.iload_n 1, 1) := by decide +kernel
theorem ddX2_dutyTotal_19 : decode cX2_dutyTotal 19 = .ok (.iconst 1, 1) := by decide +kernel
theorem ddX2_dutyTotal_20 : decode cX2_dutyTotal 20 = .ok (.iadd, 1) := by decide +kernel
theorem ddX2_dutyTotal_21 : decode cX2_dutyTotal 21 = .ok (.if_icmp .ne 6, 3) := by decide +kernel
theorem ddX2_dutyTotal_24 : decode cX2_dutyTotal 24 = .ok (.iinc 2 1, 3) := by decide +kernel
theorem ddX2_dutyTotal_27 : decode cX2_dutyTotal 27 = .ok (.iinc 3 1, 3) := by decide +kernel
theorem ddX2_dutyTotal_30 : decode cX2_dutyTotal 30 = .ok (.goto (-25), 3) := by decide +kernel
theorem ddX2_dutyTotal_33 : decode cX2_dutyTotal 33 = .ok (.iload_n 2, 1) := by decide +kernel
theorem ddX2_dutyTotal_34 : decode cX2_dutyTotal 34 = .ok (.ireturn, 1) := by decide +kernel
theorem ddX2_openGatesIn_0 : decode cX2_openGatesIn 0 = .ok (.iconst 0, 1) := by decide +kernel
theorem ddX2_openGatesIn_1 : decode cX2_openGatesIn 1 = .ok (.istore_n 2, 1) := by decide +kernel
theorem ddX2_openGatesIn_2 : decode cX2_openGatesIn 2 = .ok (.iconst 0, 1) := by decide +kernel
theorem ddX2_openGatesIn_3 : decode cX2_openGatesIn 3 = .ok (.istore_n 3, 1) := by decide +kernel
theorem ddX2_openGatesIn_4 : decode cX2_openGatesIn 4 = .ok (.iload_n 3, 1) := by decide +kernel
theorem ddX2_openGatesIn_5 : decode cX2_openGatesIn 5 = .ok (.aload_n 0, 1) := by decide +kernel
theorem ddX2_openGatesIn_6 : decode cX2_openGatesIn 6 = .ok (.invokevirtual 43, 3) := by decide +kernel
theorem ddX2_openGatesIn_9 : decode cX2_openGatesIn 9 = .ok (.if_icmp .ge 22, 3) := by decide +kernel
theorem ddX2_openGatesIn_12 : decode cX2_openGatesIn 12 = .ok (.aload_n 0, 1) := by decide +kernel
theorem ddX2_openGatesIn_13 : decode cX2_openGatesIn 13 = .ok (.iload_n 3, 1) := by decide +kernel
theorem ddX2_openGatesIn_14 : decode cX2_openGatesIn 14 = .ok (.iload_n 1, 1) := by decide +kernel
theorem ddX2_openGatesIn_15 : decode cX2_openGatesIn 15 = .ok (.invokevirtual 51, 3) := by decide +kernel
theorem ddX2_openGatesIn_18 : decode cX2_openGatesIn 18 = .ok (.iconst (-1), 1) := by decide +kernel
theorem ddX2_openGatesIn_19 : decode cX2_openGatesIn 19 = .ok (.if_icmp .ne 6, 3) := by decide +kernel
theorem ddX2_openGatesIn_22 : decode cX2_openGatesIn 22 = .ok (.iinc 2 1, 3) := by decide +kernel
theorem ddX2_openGatesIn_25 : decode cX2_openGatesIn 25 = .ok (.iinc 3 1, 3) := by decide +kernel
theorem ddX2_openGatesIn_28 : decode cX2_openGatesIn 28 = .ok (.goto (-24), 3) := by decide +kernel
theorem ddX2_openGatesIn_31 : decode cX2_openGatesIn 31 = .ok (.iload_n 2, 1) := by decide +kernel
theorem ddX2_openGatesIn_32 : decode cX2_openGatesIn 32 = .ok (.ireturn, 1) := by decide +kernel
theorem ddX2_openSlotsOf_0 : decode cX2_openSlotsOf 0 = .ok (.iconst 0, 1) := by decide +kernel
theorem ddX2_openSlotsOf_1 : decode cX2_openSlotsOf 1 = .ok (.istore_n 2, 1) := by decide +kernel
theorem ddX2_openSlotsOf_2 : decode cX2_openSlotsOf 2 = .ok (.aload_n 0, 1) := by decide +kernel
theorem ddX2_openSlotsOf_3 : decode cX2_openSlotsOf 3 = .ok (.invokevirtual 54, 3) := by decide +kernel
theorem ddX2_openSlotsOf_6 : decode cX2_openSlotsOf 6 = .ok (.istore_n 3, 1) := by decide +kernel
theorem ddX2_openSlotsOf_7 : decode cX2_openSlotsOf 7 = .ok (.iload_n 3, 1) := by decide +kernel
theorem ddX2_openSlotsOf_8 : decode cX2_openSlotsOf 8 = .ok (.bipush 28, 2) := by decide +kernel
theorem ddX2_openSlotsOf_10 : decode cX2_openSlotsOf 10 = .ok (.if_icmp .ge 22, 3) := by decide +kernel
theorem ddX2_openSlotsOf_13 : decode cX2_openSlotsOf 13 = .ok (.aload_n 0, 1) := by decide +kernel
theorem ddX2_openSlotsOf_14 : decode cX2_openSlotsOf 14 = .ok (.iload_n 1, 1) := by decide +kernel
theorem ddX2_openSlotsOf_15 : decode cX2_openSlotsOf 15 = .ok (.iload_n 3, 1) := by decide +kernel
theorem ddX2_openSlotsOf_16 : decode cX2_openSlotsOf 16 = .ok (.invokevirtual 51, 3) := by decide +kernel
theorem ddX2_openSlotsOf_19 : decode cX2_openSlotsOf 19 = .ok (.iconst (-1), 1) := by decide +kernel
theorem ddX2_openSlotsOf_20 : decode cX2_openSlotsOf 20 = .ok (.if_icmp .ne 6, 3) := by decide +kernel
theorem ddX2_openSlotsOf_23 : decode cX2_openSlotsOf 23 = .ok (.iinc 2 1, 3) := by decide +kernel
theorem ddX2_openSlotsOf_26 : decode cX2_openSlotsOf 26 = .ok (.iinc 3 1, 3) := by decide +kernel
theorem ddX2_openSlotsOf_29 : decode cX2_openSlotsOf 29 = .ok (.goto (-22), 3) := by decide +kernel
theorem ddX2_openSlotsOf_32 : decode cX2_openSlotsOf 32 = .ok (.iload_n 2, 1) := by decide +kernel
theorem ddX2_openSlotsOf_33 : decode cX2_openSlotsOf 33 = .ok (.ireturn, 1) := by decide +kernel
theorem ddX2_allDuties_0 : decode cX2_allDuties 0 = .ok (.iconst 0, 1) := by decide +kernel
theorem ddX2_allDuties_1 : decode cX2_allDuties 1 = .ok (.istore_n 2, 1) := by decide +kernel
theorem ddX2_allDuties_2 : decode cX2_allDuties 2 = .ok (.iconst 0, 1) := by decide +kernel
theorem ddX2_allDuties_3 : decode cX2_allDuties 3 = .ok (.iload_n 1, 1) := by decide +kernel
theorem ddX2_allDuties_4 : decode cX2_allDuties 4 = .ok (.invokestatic 38, 3) := by decide +kernel
theorem ddX2_allDuties_7 : decode cX2_allDuties 7 = .ok (.istore_n 3, 1) := by decide +kernel
theorem ddX2_allDuties_8 : decode cX2_allDuties 8 = .ok (.iload_n 3, 1) := by decide +kernel
theorem ddX2_allDuties_9 : decode cX2_allDuties 9 = .ok (.bipush 28, 2) := by decide +kernel
theorem ddX2_allDuties_11 : decode cX2_allDuties 11 = .ok (.if_icmp .ge 22, 3) := by decide +kernel
theorem ddX2_allDuties_14 : decode cX2_allDuties 14 = .ok (.iload_n 2, 1) := by decide +kernel
theorem ddX2_allDuties_15 : decode cX2_allDuties 15 = .ok (.aload_n 0, 1) := by decide +kernel
theorem ddX2_allDuties_16 : decode cX2_allDuties 16 = .ok (.invokevirtual 43, 3) := by decide +kernel
theorem ddX2_allDuties_19 : decode cX2_allDuties 19 = .ok (.aload_n 0, 1) := by decide +kernel
theorem ddX2_allDuties_20 : decode cX2_allDuties 20 = .ok (.iload_n 3, 1) := by decide +kernel
theorem ddX2_allDuties_21 : decode cX2_allDuties 21 = .ok (.invokevirtual 47, 3) := by decide +kernel
theorem ddX2_allDuties_24 : decode cX2_allDuties 24 = .ok (.isub, 1) := by decide +kernel
theorem ddX2_allDuties_25 : decode cX2_allDuties 25 = .ok (.iadd, 1) := by decide +kernel
theorem ddX2_allDuties_26 : decode cX2_allDuties 26 = .ok (.istore_n 2, 1) := by decide +kernel
theorem ddX2_allDuties_27 : decode cX2_allDuties 27 = .ok (.iinc 3 1, 3) := by decide +kernel
theorem ddX2_allDuties_30 : decode cX2_allDuties 30 = .ok (.goto (-22), 3) := by decide +kernel
theorem ddX2_allDuties_33 : decode cX2_allDuties 33 = .ok (.iload_n 2, 1) := by decide +kernel
theorem ddX2_allDuties_34 : decode cX2_allDuties 34 = .ok (.ireturn, 1) := by decide +kernel
theorem ddX2_hasLeave_0 : decode cX2_hasLeave 0 = .ok (.aload_n 0, 1) := by decide +kernel
theorem ddX2_hasLeave_1 : decode cX2_hasLeave 1 = .ok (.iload_n 1, 1) := by decide +kernel
theorem ddX2_hasLeave_2 : decode cX2_hasLeave 2 = .ok (.invokevirtual 28, 3) := by decide +kernel
theorem ddX2_hasLeave_5 : decode cX2_hasLeave 5 = .ok (.ifCond .eq 24, 3) := by decide +kernel
theorem ddX2_hasLeave_8 : decode cX2_hasLeave 8 = .ok (.aload_n 0, 1) := by decide +kernel
theorem ddX2_hasLeave_9 : decode cX2_hasLeave 9 = .ok (.getfield 11, 3) := by decide +kernel
theorem ddX2_hasLeave_12 : decode cX2_hasLeave 12 = .ok (.bipush 29, 2) := by decide +kernel
theorem ddX2_hasLeave_14 : decode cX2_hasLeave 14 = .ok (.iload_n 1, 1) := by decide +kernel
theorem ddX2_hasLeave_15 : decode cX2_hasLeave 15 = .ok (.iadd, 1) := by decide +kernel
theorem ddX2_hasLeave_16 : decode cX2_hasLeave 16 = .ok (.iaload, 1) := by decide +kernel
theorem ddX2_hasLeave_17 : decode cX2_hasLeave 17 = .ok (.iload_n 2, 1) := by decide +kernel
theorem ddX2_hasLeave_18 : decode cX2_hasLeave 18 = .ok (.ishr, 1) := by decide +kernel
theorem ddX2_hasLeave_19 : decode cX2_hasLeave 19 = .ok (.iconst 1, 1) := by decide +kernel
theorem ddX2_hasLeave_20 : decode cX2_hasLeave 20 = .ok (.iand, 1) := by decide +kernel
theorem ddX2_hasLeave_21 : decode cX2_hasLeave 21 = .ok (.iconst 1, 1) := by decide +kernel
theorem ddX2_hasLeave_22 : decode cX2_hasLeave 22 = .ok (.if_icmp .ne 7, 3) := by decide +kernel
theorem ddX2_hasLeave_25 : decode cX2_hasLeave 25 = .ok (.iconst 1, 1) := by decide +kernel
theorem ddX2_hasLeave_26 : decode cX2_hasLeave 26 = .ok (.goto 4, 3) := by decide +kernel
theorem ddX2_hasLeave_29 : decode cX2_hasLeave 29 = .ok (.iconst 0, 1) := by decide +kernel
theorem ddX2_hasLeave_30 : decode cX2_hasLeave 30 = .ok (.ireturn, 1) := by decide +kernel
theorem ddX2_reasonAgainst_0 : decode cX2_reasonAgainst 0 = .ok (.aload_n 0, 1) := by decide +kernel
theorem ddX2_reasonAgainst_1 : decode cX2_reasonAgainst 1 = .ok (.iload_n 1, 1) := by decide +kernel
theorem ddX2_reasonAgainst_2 : decode cX2_reasonAgainst 2 = .ok (.iload_n 2, 1) := by decide +kernel
theorem ddX2_reasonAgainst_3 : decode cX2_reasonAgainst 3 = .ok (.invokevirtual 51, 3) := by decide +kernel
theorem ddX2_reasonAgainst_6 : decode cX2_reasonAgainst 6 = .ok (.iconst (-1), 1) := by decide +kernel
theorem ddX2_reasonAgainst_7 : decode cX2_reasonAgainst 7 = .ok (.if_icmp .eq 5, 3) := by decide +kernel
theorem ddX2_reasonAgainst_10 : decode cX2_reasonAgainst 10 = .ok (.iconst 1, 1) := by decide +kernel
theorem ddX2_reasonAgainst_11 : decode cX2_reasonAgainst 11 = .ok (.ireturn, 1) := by decide +kernel
theorem ddX2_reasonAgainst_12 : decode cX2_reasonAgainst 12 = .ok (.aload_n 0, 1) := by decide +kernel
theorem ddX2_reasonAgainst_13 : decode cX2_reasonAgainst 13 = .ok (.iload_n 3, 1) := by decide +kernel
theorem ddX2_reasonAgainst_14 : decode cX2_reasonAgainst 14 = .ok (.invokevirtual 57, 3) := by decide +kernel
theorem ddX2_reasonAgainst_17 : decode cX2_reasonAgainst 17 = .ok (.aload_n 0, 1) := by decide +kernel
theorem ddX2_reasonAgainst_18 : decode cX2_reasonAgainst 18 = .ok (.iload_n 1, 1) := by decide +kernel
theorem ddX2_reasonAgainst_19 : decode cX2_reasonAgainst 19 = .ok (.invokevirtual 60, 3) := by decide +kernel
theorem ddX2_reasonAgainst_22 : decode cX2_reasonAgainst 22 = .ok (.if_icmp .ge 5, 3) := by decide +kernel
theorem ddX2_reasonAgainst_25 : decode cX2_reasonAgainst 25 = .ok (.iconst 2, 1) := by decide +kernel
theorem ddX2_reasonAgainst_26 : decode cX2_reasonAgainst 26 = .ok (.ireturn, 1) := by decide +kernel
theorem ddX2_reasonAgainst_27 : decode cX2_reasonAgainst 27 = .ok (.aload_n 0, 1) := by decide +kernel
theorem ddX2_reasonAgainst_28 : decode cX2_reasonAgainst 28 = .ok (.iload_n 3, 1) := by decide +kernel
theorem ddX2_reasonAgainst_29 : decode cX2_reasonAgainst 29 = .ok (.iload_n 2, 1) := by decide +kernel
theorem ddX2_reasonAgainst_30 : decode cX2_reasonAgainst 30 = .ok (.invokevirtual 63, 3) := by decide +kernel
theorem ddX2_reasonAgainst_33 : decode cX2_reasonAgainst 33 = .ok (.ifCond .eq 5, 3) := by decide +kernel
theorem ddX2_reasonAgainst_36 : decode cX2_reasonAgainst 36 = .ok (.iconst 3, 1) := by decide +kernel
theorem ddX2_reasonAgainst_37 : decode cX2_reasonAgainst 37 = .ok (.ireturn, 1) := by decide +kernel
theorem ddX2_reasonAgainst_38 : decode cX2_reasonAgainst 38 = .ok (.aload_n 0, 1) := by decide +kernel
theorem ddX2_reasonAgainst_39 : decode cX2_reasonAgainst 39 = .ok (.iload_n 3, 1) := by decide +kernel
theorem ddX2_reasonAgainst_40 : decode cX2_reasonAgainst 40 = .ok (.iload_n 2, 1) := by decide +kernel
theorem ddX2_reasonAgainst_41 : decode cX2_reasonAgainst 41 = .ok (.invokevirtual 34, 3) := by decide +kernel
theorem ddX2_reasonAgainst_44 : decode cX2_reasonAgainst 44 = .ok (.iconst (-1), 1) := by decide +kernel
theorem ddX2_reasonAgainst_45 : decode cX2_reasonAgainst 45 = .ok (.if_icmp .eq 5, 3) := by decide +kernel
theorem ddX2_reasonAgainst_48 : decode cX2_reasonAgainst 48 = .ok (.iconst 4, 1) := by decide +kernel
theorem ddX2_reasonAgainst_49 : decode cX2_reasonAgainst 49 = .ok (.ireturn, 1) := by decide +kernel
theorem ddX2_reasonAgainst_50 : decode cX2_reasonAgainst 50 = .ok (.aload_n 0, 1) := by decide +kernel
theorem ddX2_reasonAgainst_51 : decode cX2_reasonAgainst 51 = .ok (.iload_n 3, 1) := by decide +kernel
theorem ddX2_reasonAgainst_52 : decode cX2_reasonAgainst 52 = .ok (.iload_n 2, 1) := by decide +kernel
theorem ddX2_reasonAgainst_53 : decode cX2_reasonAgainst 53 = .ok (.iconst 1, 1) := by decide +kernel
theorem ddX2_reasonAgainst_54 : decode cX2_reasonAgainst 54 = .ok (.isub, 1) := by decide +kernel
theorem ddX2_reasonAgainst_55 : decode cX2_reasonAgainst 55 = .ok (.invokevirtual 34, 3) := by decide +kernel
theorem ddX2_reasonAgainst_58 : decode cX2_reasonAgainst 58 = .ok (.iconst (-1), 1) := by decide +kernel
theorem ddX2_reasonAgainst_59 : decode cX2_reasonAgainst 59 = .ok (.if_icmp .eq 5, 3) := by decide +kernel
theorem ddX2_reasonAgainst_62 : decode cX2_reasonAgainst 62 = .ok (.iconst 5, 1) := by decide +kernel
theorem ddX2_reasonAgainst_63 : decode cX2_reasonAgainst 63 = .ok (.ireturn, 1) := by decide +kernel
theorem ddX2_reasonAgainst_64 : decode cX2_reasonAgainst 64 = .ok (.aload_n 0, 1) := by decide +kernel
theorem ddX2_reasonAgainst_65 : decode cX2_reasonAgainst 65 = .ok (.iload_n 3, 1) := by decide +kernel
theorem ddX2_reasonAgainst_66 : decode cX2_reasonAgainst 66 = .ok (.iload_n 2, 1) := by decide +kernel
theorem ddX2_reasonAgainst_67 : decode cX2_reasonAgainst 67 = .ok (.iconst 1, 1) := by decide +kernel
theorem ddX2_reasonAgainst_68 : decode cX2_reasonAgainst 68 = .ok (.iadd, 1) := by decide +kernel
theorem ddX2_reasonAgainst_69 : decode cX2_reasonAgainst 69 = .ok (.invokevirtual 34, 3) := by decide +kernel
theorem ddX2_reasonAgainst_72 : decode cX2_reasonAgainst 72 = .ok (.iconst (-1), 1) := by decide +kernel
theorem ddX2_reasonAgainst_73 : decode cX2_reasonAgainst 73 = .ok (.if_icmp .eq 8, 3) := by decide +kernel
theorem ddX2_reasonAgainst_76 : decode cX2_reasonAgainst 76 = .ok (.bipush 6, 2) := by decide +kernel
theorem ddX2_reasonAgainst_78 : decode cX2_reasonAgainst 78 = .ok (.goto 4, 3) := by decide +kernel
theorem ddX2_reasonAgainst_81 : decode cX2_reasonAgainst 81 = .ok (.iconst 0, 1) := by decide +kernel
theorem ddX2_reasonAgainst_82 : decode cX2_reasonAgainst 82 = .ok (.ireturn, 1) := by decide +kernel
theorem ddX2_detailOf_0 : decode cX2_detailOf 0 = .ok (.iload_n 1, 1) := by decide +kernel
theorem ddX2_detailOf_1 : decode cX2_detailOf 1 = .ok (.tableswitch 69 1 5 #[35, 42, 49, 51, 59], 35) := by decide +kernel
theorem ddX2_detailOf_36 : decode cX2_detailOf 36 = .ok (.aload_n 0, 1) := by decide +kernel
theorem ddX2_detailOf_37 : decode cX2_detailOf 37 = .ok (.iload_n 2, 1) := by decide +kernel
theorem ddX2_detailOf_38 : decode cX2_detailOf 38 = .ok (.iload_n 3, 1) := by decide +kernel
theorem ddX2_detailOf_39 : decode cX2_detailOf 39 = .ok (.invokevirtual 51, 3) := by decide +kernel
theorem ddX2_detailOf_42 : decode cX2_detailOf 42 = .ok (.ireturn, 1) := by decide +kernel
theorem ddX2_detailOf_43 : decode cX2_detailOf 43 = .ok (.aload_n 0, 1) := by decide +kernel
theorem ddX2_detailOf_44 : decode cX2_detailOf 44 = .ok (.iload 4, 2) := by decide +kernel
theorem ddX2_detailOf_46 : decode cX2_detailOf 46 = .ok (.invokevirtual 57, 3) := by decide +kernel
theorem ddX2_detailOf_49 : decode cX2_detailOf 49 = .ok (.ireturn, 1) := by decide +kernel
theorem ddX2_detailOf_50 : decode cX2_detailOf 50 = .ok (.iload_n 3, 1) := by decide +kernel
theorem ddX2_detailOf_51 : decode cX2_detailOf 51 = .ok (.ireturn, 1) := by decide +kernel
theorem ddX2_detailOf_52 : decode cX2_detailOf 52 = .ok (.aload_n 0, 1) := by decide +kernel
theorem ddX2_detailOf_53 : decode cX2_detailOf 53 = .ok (.iload 4, 2) := by decide +kernel
theorem ddX2_detailOf_55 : decode cX2_detailOf 55 = .ok (.iload_n 3, 1) := by decide +kernel
theorem ddX2_detailOf_56 : decode cX2_detailOf 56 = .ok (.invokevirtual 34, 3) := by decide +kernel
theorem ddX2_detailOf_59 : decode cX2_detailOf 59 = .ok (.ireturn, 1) := by decide +kernel
theorem ddX2_detailOf_60 : decode cX2_detailOf 60 = .ok (.aload_n 0, 1) := by decide +kernel
theorem ddX2_detailOf_61 : decode cX2_detailOf 61 = .ok (.iload 4, 2) := by decide +kernel
theorem ddX2_detailOf_63 : decode cX2_detailOf 63 = .ok (.iload_n 3, 1) := by decide +kernel
theorem ddX2_detailOf_64 : decode cX2_detailOf 64 = .ok (.iconst 1, 1) := by decide +kernel
theorem ddX2_detailOf_65 : decode cX2_detailOf 65 = .ok (.isub, 1) := by decide +kernel
theorem ddX2_detailOf_66 : decode cX2_detailOf 66 = .ok (.invokevirtual 34, 3) := by decide +kernel
theorem ddX2_detailOf_69 : decode cX2_detailOf 69 = .ok (.ireturn, 1) := by decide +kernel
theorem ddX2_detailOf_70 : decode cX2_detailOf 70 = .ok (.aload_n 0, 1) := by decide +kernel
theorem ddX2_detailOf_71 : decode cX2_detailOf 71 = .ok (.iload 4, 2) := by decide +kernel
theorem ddX2_detailOf_73 : decode cX2_detailOf 73 = .ok (.iload_n 3, 1) := by decide +kernel
theorem ddX2_detailOf_74 : decode cX2_detailOf 74 = .ok (.iconst 1, 1) := by decide +kernel
theorem ddX2_detailOf_75 : decode cX2_detailOf 75 = .ok (.iadd, 1) := by decide +kernel
theorem ddX2_detailOf_76 : decode cX2_detailOf 76 = .ok (.invokevirtual 34, 3) := by decide +kernel
theorem ddX2_detailOf_79 : decode cX2_detailOf 79 = .ok (.ireturn, 1) := by decide +kernel
theorem ddX2_nextSlotOf_0 : decode cX2_nextSlotOf 0 = .ok (.aload_n 0, 1) := by decide +kernel
theorem ddX2_nextSlotOf_1 : decode cX2_nextSlotOf 1 = .ok (.invokevirtual 54, 3) := by decide +kernel
theorem ddX2_nextSlotOf_4 : decode cX2_nextSlotOf 4 = .ok (.istore_n 2, 1) := by decide +kernel
theorem ddX2_nextSlotOf_5 : decode cX2_nextSlotOf 5 = .ok (.iload_n 2, 1) := by decide +kernel
theorem ddX2_nextSlotOf_6 : decode cX2_nextSlotOf 6 = .ok (.bipush 28, 2) := by decide +kernel
theorem ddX2_nextSlotOf_8 : decode cX2_nextSlotOf 8 = .ok (.if_icmp .ge 21, 3) := by decide +kernel
theorem ddX2_nextSlotOf_11 : decode cX2_nextSlotOf 11 = .ok (.aload_n 0, 1) := by decide +kernel
theorem ddX2_nextSlotOf_12 : decode cX2_nextSlotOf 12 = .ok (.iload_n 1, 1) := by decide +kernel
theorem ddX2_nextSlotOf_13 : decode cX2_nextSlotOf 13 = .ok (.iload_n 2, 1) := by decide +kernel
theorem ddX2_nextSlotOf_14 : decode cX2_nextSlotOf 14 = .ok (.invokevirtual 34, 3) := by decide +kernel
theorem ddX2_nextSlotOf_17 : decode cX2_nextSlotOf 17 = .ok (.iconst (-1), 1) := by decide +kernel
theorem ddX2_nextSlotOf_18 : decode cX2_nextSlotOf 18 = .ok (.if_icmp .eq 5, 3) := by decide +kernel
theorem ddX2_nextSlotOf_21 : decode cX2_nextSlotOf 21 = .ok (.iload_n 2, 1) := by decide +kernel
theorem ddX2_nextSlotOf_22 : decode cX2_nextSlotOf 22 = .ok (.ireturn, 1) := by decide +kernel
theorem ddX2_nextSlotOf_23 : decode cX2_nextSlotOf 23 = .ok (.iinc 2 1, 3) := by decide +kernel
theorem ddX2_nextSlotOf_26 : decode cX2_nextSlotOf 26 = .ok (.goto (-21), 3) := by decide +kernel
theorem ddX2_nextSlotOf_29 : decode cX2_nextSlotOf 29 = .ok (.iconst (-1), 1) := by decide +kernel
theorem ddX2_nextSlotOf_30 : decode cX2_nextSlotOf 30 = .ok (.ireturn, 1) := by decide +kernel
theorem ddX2_longestGap_0 : decode cX2_longestGap 0 = .ok (.iconst 0, 1) := by decide +kernel
theorem ddX2_longestGap_1 : decode cX2_longestGap 1 = .ok (.istore_n 2, 1) := by decide +kernel
theorem ddX2_longestGap_2 : decode cX2_longestGap 2 = .ok (.iconst 0, 1) := by decide +kernel
theorem ddX2_longestGap_3 : decode cX2_longestGap 3 = .ok (.istore_n 3, 1) := by decide +kernel
theorem ddX2_longestGap_4 : decode cX2_longestGap 4 = .ok (.iconst 0, 1) := by decide +kernel
theorem ddX2_longestGap_5 : decode cX2_longestGap 5 = .ok (.istore 4, 2) := by decide +kernel
theorem ddX2_longestGap_7 : decode cX2_longestGap 7 = .ok (.iload 4, 2) := by decide +kernel
theorem ddX2_longestGap_9 : decode cX2_longestGap 9 = .ok (.bipush 28, 2) := by decide +kernel
theorem ddX2_longestGap_11 : decode cX2_longestGap 11 = .ok (.if_icmp .ge 34, 3) := by decide +kernel
theorem ddX2_longestGap_14 : decode cX2_longestGap 14 = .ok (.aload_n 0, 1) := by decide +kernel
theorem ddX2_longestGap_15 : decode cX2_longestGap 15 = .ok (.iload_n 1, 1) := by decide +kernel
theorem ddX2_longestGap_16 : decode cX2_longestGap 16 = .ok (.iload 4, 2) := by decide +kernel
theorem ddX2_longestGap_18 : decode cX2_longestGap 18 = .ok (.invokevirtual 34, 3) := by decide +kernel
theorem ddX2_longestGap_21 : decode cX2_longestGap 21 = .ok (.iconst (-1), 1) := by decide +kernel
theorem ddX2_longestGap_22 : decode cX2_longestGap 22 = .ok (.if_icmp .ne 9, 3) := by decide +kernel
theorem ddX2_longestGap_25 : decode cX2_longestGap 25 = .ok (.iload_n 3, 1) := by decide +kernel
theorem ddX2_longestGap_26 : decode cX2_longestGap 26 = .ok (.iconst 1, 1) := by decide +kernel
theorem ddX2_longestGap_27 : decode cX2_longestGap 27 = .ok (.iadd, 1) := by decide +kernel
theorem ddX2_longestGap_28 : decode cX2_longestGap 28 = .ok (.goto 4, 3) := by decide +kernel
theorem ddX2_longestGap_31 : decode cX2_longestGap 31 = .ok (.iconst 0, 1) := by decide +kernel
theorem ddX2_longestGap_32 : decode cX2_longestGap 32 = .ok (.istore_n 3, 1) := by decide +kernel
theorem ddX2_longestGap_33 : decode cX2_longestGap 33 = .ok (.iload_n 2, 1) := by decide +kernel
theorem ddX2_longestGap_34 : decode cX2_longestGap 34 = .ok (.iload_n 3, 1) := by decide +kernel
theorem ddX2_longestGap_35 : decode cX2_longestGap 35 = .ok (.invokestatic 38, 3) := by decide +kernel
theorem ddX2_longestGap_38 : decode cX2_longestGap 38 = .ok (.istore_n 2, 1) := by decide +kernel
theorem ddX2_longestGap_39 : decode cX2_longestGap 39 = .ok (.iinc 4 1, 3) := by decide +kernel
theorem ddX2_longestGap_42 : decode cX2_longestGap 42 = .ok (.goto (-35), 3) := by decide +kernel
theorem ddX2_longestGap_45 : decode cX2_longestGap 45 = .ok (.iload_n 2, 1) := by decide +kernel
theorem ddX2_longestGap_46 : decode cX2_longestGap 46 = .ok (.ireturn, 1) := by decide +kernel
theorem ddX2_allRest_0 : decode cX2_allRest 0 = .ok (.iconst 0, 1) := by decide +kernel
theorem ddX2_allRest_1 : decode cX2_allRest 1 = .ok (.istore_n 1, 1) := by decide +kernel
theorem ddX2_allRest_2 : decode cX2_allRest 2 = .ok (.iload_n 1, 1) := by decide +kernel
theorem ddX2_allRest_3 : decode cX2_allRest 3 = .ok (.aload_n 0, 1) := by decide +kernel
theorem ddX2_allRest_4 : decode cX2_allRest 4 = .ok (.invokevirtual 67, 3) := by decide +kernel
theorem ddX2_allRest_7 : decode cX2_allRest 7 = .ok (.if_icmp .ge 47, 3) := by decide +kernel
theorem ddX2_allRest_10 : decode cX2_allRest 10 = .ok (.iconst 1, 1) := by decide +kernel
theorem ddX2_allRest_11 : decode cX2_allRest 11 = .ok (.istore_n 2, 1) := by decide +kernel
theorem ddX2_allRest_12 : decode cX2_allRest 12 = .ok (.iload_n 2, 1) := by decide +kernel
theorem ddX2_allRest_13 : decode cX2_allRest 13 = .ok (.bipush 28, 2) := by decide +kernel
theorem ddX2_allRest_15 : decode cX2_allRest 15 = .ok (.if_icmp .ge 33, 3) := by decide +kernel
theorem ddX2_allRest_18 : decode cX2_allRest 18 = .ok (.aload_n 0, 1) := by decide +kernel
theorem ddX2_allRest_19 : decode cX2_allRest 19 = .ok (.iload_n 1, 1) := by decide +kernel
theorem ddX2_allRest_20 : decode cX2_allRest 20 = .ok (.iload_n 2, 1) := by decide +kernel
theorem ddX2_allRest_21 : decode cX2_allRest 21 = .ok (.iconst 1, 1) := by decide +kernel
theorem ddX2_allRest_22 : decode cX2_allRest 22 = .ok (.isub, 1) := by decide +kernel
theorem ddX2_allRest_23 : decode cX2_allRest 23 = .ok (.invokevirtual 34, 3) := by decide +kernel
theorem ddX2_allRest_26 : decode cX2_allRest 26 = .ok (.iconst (-1), 1) := by decide +kernel
theorem ddX2_allRest_27 : decode cX2_allRest 27 = .ok (.if_icmp .eq 15, 3) := by decide +kernel
theorem ddX2_allRest_30 : decode cX2_allRest 30 = .ok (.aload_n 0, 1) := by decide +kernel
theorem ddX2_allRest_31 : decode cX2_allRest 31 = .ok (.iload_n 1, 1) := by decide +kernel
theorem ddX2_allRest_32 : decode cX2_allRest 32 = .ok (.iload_n 2, 1) := by decide +kernel
theorem ddX2_allRest_33 : decode cX2_allRest 33 = .ok (.invokevirtual 34, 3) := by decide +kernel
theorem ddX2_allRest_36 : decode cX2_allRest 36 = .ok (.iconst (-1), 1) := by decide +kernel
theorem ddX2_allRest_37 : decode cX2_allRest 37 = .ok (.if_icmp .eq 5, 3) := by decide +kernel
theorem ddX2_allRest_40 : decode cX2_allRest 40 = .ok (.iconst 0, 1) := by decide +kernel
theorem ddX2_allRest_41 : decode cX2_allRest 41 = .ok (.ireturn, 1) := by decide +kernel
theorem ddX2_allRest_42 : decode cX2_allRest 42 = .ok (.iinc 2 1, 3) := by decide +kernel
theorem ddX2_allRest_45 : decode cX2_allRest 45 = .ok (.goto (-33), 3) := by decide +kernel
theorem ddX2_allRest_48 : decode cX2_allRest 48 = .ok (.iinc 1 1, 3) := by decide +kernel
theorem ddX2_allRest_51 : decode cX2_allRest 51 = .ok (.goto (-49), 3) := by decide +kernel
theorem ddX2_allRest_54 : decode cX2_allRest 54 = .ok (.iconst 1, 1) := by decide +kernel
theorem ddX2_allRest_55 : decode cX2_allRest 55 = .ok (.ireturn, 1) := by decide +kernel
theorem ddX2_computeOrderKeys_0 : decode cX2_computeOrderKeys 0 = .ok (.iconst 0, 1) := by decide +kernel
theorem ddX2_computeOrderKeys_1 : decode cX2_computeOrderKeys 1 = .ok (.istore_n 1, 1) := by decide +kernel
theorem ddX2_computeOrderKeys_2 : decode cX2_computeOrderKeys 2 = .ok (.iload_n 1, 1) := by decide +kernel
theorem ddX2_computeOrderKeys_3 : decode cX2_computeOrderKeys 3 = .ok (.bipush 10, 2) := by decide +kernel
theorem ddX2_computeOrderKeys_5 : decode cX2_computeOrderKeys 5 = .ok (.if_icmp .ge 34, 3) := by decide +kernel
theorem ddX2_computeOrderKeys_8 : decode cX2_computeOrderKeys 8 = .ok (.aload_n 0, 1) := by decide +kernel
theorem ddX2_computeOrderKeys_9 : decode cX2_computeOrderKeys 9 = .ok (.getfield 15, 3) := by decide +kernel
theorem ddX2_computeOrderKeys_12 : decode cX2_computeOrderKeys 12 = .ok (.iload_n 1, 1) := by decide +kernel
theorem ddX2_computeOrderKeys_13 : decode cX2_computeOrderKeys 13 = .ok (.aload_n 0, 1) := by decide +kernel
theorem ddX2_computeOrderKeys_14 : decode cX2_computeOrderKeys 14 = .ok (.iload_n 1, 1) := by decide +kernel
theorem ddX2_computeOrderKeys_15 : decode cX2_computeOrderKeys 15 = .ok (.invokevirtual 70, 3) := by decide +kernel
theorem ddX2_computeOrderKeys_18 : decode cX2_computeOrderKeys 18 = .ok (.bipush 10, 2) := by decide +kernel
theorem ddX2_computeOrderKeys_20 : decode cX2_computeOrderKeys 20 = .ok (.imul, 1) := by decide +kernel
theorem ddX2_computeOrderKeys_21 : decode cX2_computeOrderKeys 21 = .ok (.aload_n 0, 1) := by decide +kernel
theorem ddX2_computeOrderKeys_22 : decode cX2_computeOrderKeys 22 = .ok (.iload_n 1, 1) := by decide +kernel
theorem ddX2_computeOrderKeys_23 : decode cX2_computeOrderKeys 23 = .ok (.invokevirtual 57, 3) := by decide +kernel
theorem ddX2_computeOrderKeys_26 : decode cX2_computeOrderKeys 26 = .ok (.iadd, 1) := by decide +kernel
theorem ddX2_computeOrderKeys_27 : decode cX2_computeOrderKeys 27 = .ok (.bipush 10, 2) := by decide +kernel
theorem ddX2_computeOrderKeys_29 : decode cX2_computeOrderKeys 29 = .ok (.imul, 1) := by decide +kernel
theorem ddX2_computeOrderKeys_30 : decode cX2_computeOrderKeys 30 = .ok (.iload_n 1, 1) := by decide +kernel
theorem ddX2_computeOrderKeys_31 : decode cX2_computeOrderKeys 31 = .ok (.iadd, 1) := by decide +kernel
theorem ddX2_computeOrderKeys_32 : decode cX2_computeOrderKeys 32 = .ok (.iastore, 1) := by decide +kernel
theorem ddX2_computeOrderKeys_33 : decode cX2_computeOrderKeys 33 = .ok (.iinc 1 1, 3) := by decide +kernel
theorem ddX2_computeOrderKeys_36 : decode cX2_computeOrderKeys 36 = .ok (.goto (-34), 3) := by decide +kernel
theorem ddX2_computeOrderKeys_39 : decode cX2_computeOrderKeys 39 = .ok (.return_, 1) := by decide +kernel
theorem ddX2_guardsBefore_0 : decode cX2_guardsBefore 0 = .ok (.iconst 0, 1) := by decide +kernel
theorem ddX2_guardsBefore_1 : decode cX2_guardsBefore 1 = .ok (.istore_n 2, 1) := by decide +kernel
theorem ddX2_guardsBefore_2 : decode cX2_guardsBefore 2 = .ok (.iconst 0, 1) := by decide +kernel
theorem ddX2_guardsBefore_3 : decode cX2_guardsBefore 3 = .ok (.istore_n 3, 1) := by decide +kernel
theorem ddX2_guardsBefore_4 : decode cX2_guardsBefore 4 = .ok (.iload_n 3, 1) := by decide +kernel
theorem ddX2_guardsBefore_5 : decode cX2_guardsBefore 5 = .ok (.bipush 10, 2) := by decide +kernel
theorem ddX2_guardsBefore_7 : decode cX2_guardsBefore 7 = .ok (.if_icmp .ge 30, 3) := by decide +kernel
theorem ddX2_guardsBefore_10 : decode cX2_guardsBefore 10 = .ok (.iload_n 3, 1) := by decide +kernel
theorem ddX2_guardsBefore_11 : decode cX2_guardsBefore 11 = .ok (.aload_n 0, 1) := by decide +kernel
theorem ddX2_guardsBefore_12 : decode cX2_guardsBefore 12 = .ok (.invokevirtual 67, 3) := by decide +kernel
theorem ddX2_guardsBefore_15 : decode cX2_guardsBefore 15 = .ok (.if_icmp .ge 22, 3) := by decide +kernel
theorem ddX2_guardsBefore_18 : decode cX2_guardsBefore 18 = .ok (.aload_n 0, 1) := by decide +kernel
theorem ddX2_guardsBefore_19 : decode cX2_guardsBefore 19 = .ok (.getfield 15, 3) := by decide +kernel
theorem ddX2_guardsBefore_22 : decode cX2_guardsBefore 22 = .ok (.iload_n 3, 1) := by decide +kernel
theorem ddX2_guardsBefore_23 : decode cX2_guardsBefore 23 = .ok (.iaload, 1) := by decide +kernel
theorem ddX2_guardsBefore_24 : decode cX2_guardsBefore 24 = .ok (.iload_n 1, 1) := by decide +kernel
theorem ddX2_guardsBefore_25 : decode cX2_guardsBefore 25 = .ok (.if_icmp .ge 6, 3) := by decide +kernel
theorem ddX2_guardsBefore_28 : decode cX2_guardsBefore 28 = .ok (.iinc 2 1, 3) := by decide +kernel
theorem ddX2_guardsBefore_31 : decode cX2_guardsBefore 31 = .ok (.iinc 3 1, 3) := by decide +kernel
theorem ddX2_guardsBefore_34 : decode cX2_guardsBefore 34 = .ok (.goto (-30), 3) := by decide +kernel
theorem ddX2_guardsBefore_37 : decode cX2_guardsBefore 37 = .ok (.iload_n 2, 1) := by decide +kernel
theorem ddX2_guardsBefore_38 : decode cX2_guardsBefore 38 = .ok (.ireturn, 1) := by decide +kernel
theorem ddX2_guardInOrder_0 : decode cX2_guardInOrder 0 = .ok (.aload_n 0, 1) := by decide +kernel
theorem ddX2_guardInOrder_1 : decode cX2_guardInOrder 1 = .ok (.invokevirtual 73, 3) := by decide +kernel
theorem ddX2_guardInOrder_4 : decode cX2_guardInOrder 4 = .ok (.iconst 0, 1) := by decide +kernel
theorem ddX2_guardInOrder_5 : decode cX2_guardInOrder 5 = .ok (.istore_n 2, 1) := by decide +kernel
theorem ddX2_guardInOrder_6 : decode cX2_guardInOrder 6 = .ok (.iload_n 2, 1) := by decide +kernel
theorem ddX2_guardInOrder_7 : decode cX2_guardInOrder 7 = .ok (.bipush 10, 2) := by decide +kernel
theorem ddX2_guardInOrder_9 : decode cX2_guardInOrder 9 = .ok (.if_icmp .ge 33, 3) := by decide +kernel
theorem ddX2_guardInOrder_12 : decode cX2_guardInOrder 12 = .ok (.iload_n 2, 1) := by decide +kernel
theorem ddX2_guardInOrder_13 : decode cX2_guardInOrder 13 = .ok (.aload_n 0, 1) := by decide +kernel
theorem ddX2_guardInOrder_14 : decode cX2_guardInOrder 14 = .ok (.invokevirtual 67, 3) := by decide +kernel
theorem ddX2_guardInOrder_17 : decode cX2_guardInOrder 17 = .ok (.if_icmp .ge 25, 3) := by decide +kernel
theorem ddX2_guardInOrder_20 : decode cX2_guardInOrder 20 = .ok (.aload_n 0, 1) := by decide +kernel
theorem ddX2_guardInOrder_21 : decode cX2_guardInOrder 21 = .ok (.aload_n 0, 1) := by decide +kernel
theorem ddX2_guardInOrder_22 : decode cX2_guardInOrder 22 = .ok (.getfield 15, 3) := by decide +kernel
theorem ddX2_guardInOrder_25 : decode cX2_guardInOrder 25 = .ok (.iload_n 2, 1) := by decide +kernel
theorem ddX2_guardInOrder_26 : decode cX2_guardInOrder 26 = .ok (.iaload, 1) := by decide +kernel
theorem ddX2_guardInOrder_27 : decode cX2_guardInOrder 27 = .ok (.invokevirtual 76, 3) := by decide +kernel
theorem ddX2_guardInOrder_30 : decode cX2_guardInOrder 30 = .ok (.iload_n 1, 1) := by decide +kernel
theorem ddX2_guardInOrder_31 : decode cX2_guardInOrder 31 = .ok (.if_icmp .ne 5, 3) := by decide +kernel
theorem ddX2_guardInOrder_34 : decode cX2_guardInOrder 34 = .ok (.iload_n 2, 1) := by decide +kernel
theorem ddX2_guardInOrder_35 : decode cX2_guardInOrder 35 = .ok (.ireturn, 1) := by decide +kernel
theorem ddX2_guardInOrder_36 : decode cX2_guardInOrder 36 = .ok (.iinc 2 1, 3) := by decide +kernel
theorem ddX2_guardInOrder_39 : decode cX2_guardInOrder 39 = .ok (.goto (-33), 3) := by decide +kernel
theorem ddX2_guardInOrder_42 : decode cX2_guardInOrder 42 = .ok (.iconst (-1), 1) := by decide +kernel
theorem ddX2_guardInOrder_43 : decode cX2_guardInOrder 43 = .ok (.ireturn, 1) := by decide +kernel
theorem ddX2_mostNeedingGate_0 : decode cX2_mostNeedingGate 0 = .ok (.iconst (-1), 1) := by decide +kernel
theorem ddX2_mostNeedingGate_1 : decode cX2_mostNeedingGate 1 = .ok (.istore_n 2, 1) := by decide +kernel
theorem ddX2_mostNeedingGate_2 : decode cX2_mostNeedingGate 2 = .ok (.iconst 0, 1) := by decide +kernel
theorem ddX2_mostNeedingGate_3 : decode cX2_mostNeedingGate 3 = .ok (.istore_n 3, 1) := by decide +kernel
theorem ddX2_mostNeedingGate_4 : decode cX2_mostNeedingGate 4 = .ok (.iload_n 3, 1) := by decide +kernel
theorem ddX2_mostNeedingGate_5 : decode cX2_mostNeedingGate 5 = .ok (.aload_n 0, 1) := by decide +kernel
theorem ddX2_mostNeedingGate_6 : decode cX2_mostNeedingGate 6 = .ok (.invokevirtual 43, 3) := by decide +kernel
theorem ddX2_mostNeedingGate_9 : decode cX2_mostNeedingGate 9 = .ok (.if_icmp .ge 49, 3) := by decide +kernel
theorem ddX2_mostNeedingGate_12 : decode cX2_mostNeedingGate 12 = .ok (.iload_n 1, 1) := by decide +kernel
theorem ddX2_mostNeedingGate_13 : decode cX2_mostNeedingGate 13 = .ok (.iload_n 3, 1) := by decide +kernel
theorem ddX2_mostNeedingGate_14 : decode cX2_mostNeedingGate 14 = .ok (.ishr, 1) := by decide +kernel
theorem ddX2_mostNeedingGate_15 : decode cX2_mostNeedingGate 15 = .ok (.iconst 1, 1) := by decide +kernel
theorem ddX2_mostNeedingGate_16 : decode cX2_mostNeedingGate 16 = .ok (.iand, 1) := by decide +kernel
theorem ddX2_mostNeedingGate_17 : decode cX2_mostNeedingGate 17 = .ok (.ifCond .ne 7, 3) := by decide +kernel
theorem ddX2_mostNeedingGate_20 : decode cX2_mostNeedingGate 20 = .ok (.iconst 1, 1) := by decide +kernel
theorem ddX2_mostNeedingGate_21 : decode cX2_mostNeedingGate 21 = .ok (.goto 4, 3) := by decide +kernel
theorem ddX2_mostNeedingGate_24 : decode cX2_mostNeedingGate 24 = .ok (.iconst 0, 1) := by decide +kernel
theorem ddX2_mostNeedingGate_25 : decode cX2_mostNeedingGate 25 = .ok (.istore 4, 2) := by decide +kernel
theorem ddX2_mostNeedingGate_27 : decode cX2_mostNeedingGate 27 = .ok (.iload 4, 2) := by decide +kernel
theorem ddX2_mostNeedingGate_29 : decode cX2_mostNeedingGate 29 = .ok (.ifCond .eq 23, 3) := by decide +kernel
theorem ddX2_mostNeedingGate_32 : decode cX2_mostNeedingGate 32 = .ok (.iload_n 2, 1) := by decide +kernel
theorem ddX2_mostNeedingGate_33 : decode cX2_mostNeedingGate 33 = .ok (.iconst (-1), 1) := by decide +kernel
theorem ddX2_mostNeedingGate_34 : decode cX2_mostNeedingGate 34 = .ok (.if_icmp .eq 16, 3) := by decide +kernel
theorem ddX2_mostNeedingGate_37 : decode cX2_mostNeedingGate 37 = .ok (.aload_n 0, 1) := by decide +kernel
theorem ddX2_mostNeedingGate_38 : decode cX2_mostNeedingGate 38 = .ok (.iload_n 3, 1) := by decide +kernel
theorem ddX2_mostNeedingGate_39 : decode cX2_mostNeedingGate 39 = .ok (.invokevirtual 60, 3) := by decide +kernel
theorem ddX2_mostNeedingGate_42 : decode cX2_mostNeedingGate 42 = .ok (.aload_n 0, 1) := by decide +kernel
theorem ddX2_mostNeedingGate_43 : decode cX2_mostNeedingGate 43 = .ok (.iload_n 2, 1) := by decide +kernel
theorem ddX2_mostNeedingGate_44 : decode cX2_mostNeedingGate 44 = .ok (.invokevirtual 60, 3) := by decide +kernel
theorem ddX2_mostNeedingGate_47 : decode cX2_mostNeedingGate 47 = .ok (.if_icmp .le 5, 3) := by decide +kernel
theorem ddX2_mostNeedingGate_50 : decode cX2_mostNeedingGate 50 = .ok (.iload_n 3, 1) := by decide +kernel
theorem ddX2_mostNeedingGate_51 : decode cX2_mostNeedingGate 51 = .ok (.istore_n 2, 1) := by decide +kernel
theorem ddX2_mostNeedingGate_52 : decode cX2_mostNeedingGate 52 = .ok (.iinc 3 1, 3) := by decide +kernel
theorem ddX2_mostNeedingGate_55 : decode cX2_mostNeedingGate 55 = .ok (.goto (-51), 3) := by decide +kernel
theorem ddX2_mostNeedingGate_58 : decode cX2_mostNeedingGate 58 = .ok (.iload_n 2, 1) := by decide +kernel
theorem ddX2_mostNeedingGate_59 : decode cX2_mostNeedingGate 59 = .ok (.ireturn, 1) := by decide +kernel
theorem ddX2_firstGuardFor_0 : decode cX2_firstGuardFor 0 = .ok (.iconst (-1), 1) := by decide +kernel
theorem ddX2_firstGuardFor_1 : decode cX2_firstGuardFor 1 = .ok (.istore_n 3, 1) := by decide +kernel
theorem ddX2_firstGuardFor_2 : decode cX2_firstGuardFor 2 = .ok (.iconst 0, 1) := by decide +kernel
theorem ddX2_firstGuardFor_3 : decode cX2_firstGuardFor 3 = .ok (.istore 4, 2) := by decide +kernel
theorem ddX2_firstGuardFor_5 : decode cX2_firstGuardFor 5 = .ok (.iload 4, 2) := by decide +kernel
theorem ddX2_firstGuardFor_7 : decode cX2_firstGuardFor 7 = .ok (.bipush 10, 2) := by decide +kernel
theorem ddX2_firstGuardFor_9 : decode cX2_firstGuardFor 9 = .ok (.if_icmp .ge 65, 3) := by decide +kernel
theorem ddX2_firstGuardFor_12 : decode cX2_firstGuardFor 12 = .ok (.iload 4, 2) := by decide +kernel
theorem ddX2_firstGuardFor_14 : decode cX2_firstGuardFor 14 = .ok (.aload_n 0, 1) := by decide +kernel
theorem ddX2_firstGuardFor_15 : decode cX2_firstGuardFor 15 = .ok (.invokevirtual 67, 3) := by decide +kernel
theorem ddX2_firstGuardFor_18 : decode cX2_firstGuardFor 18 = .ok (.if_icmp .ge 56, 3) := by decide +kernel
theorem ddX2_firstGuardFor_21 : decode cX2_firstGuardFor 21 = .ok (.iload_n 3, 1) := by decide +kernel
theorem ddX2_firstGuardFor_22 : decode cX2_firstGuardFor 22 = .ok (.iconst (-1), 1) := by decide +kernel
theorem ddX2_firstGuardFor_23 : decode cX2_firstGuardFor 23 = .ok (.if_icmp .eq 19, 3) := by decide +kernel
theorem ddX2_firstGuardFor_26 : decode cX2_firstGuardFor 26 = .ok (.aload_n 0, 1) := by decide +kernel
theorem ddX2_firstGuardFor_27 : decode cX2_firstGuardFor 27 = .ok (.getfield 15, 3) := by decide +kernel
theorem ddX2_firstGuardFor_30 : decode cX2_firstGuardFor 30 = .ok (.iload 4, 2) := by decide +kernel
theorem ddX2_firstGuardFor_32 : decode cX2_firstGuardFor 32 = .ok (.iaload, 1) := by decide +kernel
theorem ddX2_firstGuardFor_33 : decode cX2_firstGuardFor 33 = .ok (.aload_n 0, 1) := by decide +kernel
theorem ddX2_firstGuardFor_34 : decode cX2_firstGuardFor 34 = .ok (.getfield 15, 3) := by decide +kernel
theorem ddX2_firstGuardFor_37 : decode cX2_firstGuardFor 37 = .ok (.iload_n 3, 1) := by decide +kernel
theorem ddX2_firstGuardFor_38 : decode cX2_firstGuardFor 38 = .ok (.iaload, 1) := by decide +kernel
theorem ddX2_firstGuardFor_39 : decode cX2_firstGuardFor 39 = .ok (.if_icmp .ge 7, 3) := by decide +kernel
theorem ddX2_firstGuardFor_42 : decode cX2_firstGuardFor 42 = .ok (.iconst 1, 1) := by decide +kernel
theorem ddX2_firstGuardFor_43 : decode cX2_firstGuardFor 43 = .ok (.goto 4, 3) := by decide +kernel
theorem ddX2_firstGuardFor_46 : decode cX2_firstGuardFor 46 = .ok (.iconst 0, 1) := by decide +kernel
theorem ddX2_firstGuardFor_47 : decode cX2_firstGuardFor 47 = .ok (.istore 5, 2) := by decide +kernel
theorem ddX2_firstGuardFor_49 : decode cX2_firstGuardFor 49 = .ok (.iload 5, 2) := by decide +kernel
theorem ddX2_firstGuardFor_51 : decode cX2_firstGuardFor 51 = .ok (.ifCond .eq 17, 3) := by decide +kernel
theorem ddX2_firstGuardFor_54 : decode cX2_firstGuardFor 54 = .ok (.aload_n 0, 1) := by decide +kernel
theorem ddX2_firstGuardFor_55 : decode cX2_firstGuardFor 55 = .ok (.iload_n 1, 1) := by decide +kernel
theorem ddX2_firstGuardFor_56 : decode cX2_firstGuardFor 56 = .ok (.iload_n 2, 1) := by decide +kernel
theorem ddX2_firstGuardFor_57 : decode cX2_firstGuardFor 57 = .ok (.iload 4, 2) := by decide +kernel
theorem ddX2_firstGuardFor_59 : decode cX2_firstGuardFor 59 = .ok (.invokevirtual 89, 3) := by decide +kernel
theorem ddX2_firstGuardFor_62 : decode cX2_firstGuardFor 62 = .ok (.ifCond .ne 6, 3) := by decide +kernel
theorem ddX2_firstGuardFor_65 : decode cX2_firstGuardFor 65 = .ok (.iload 4, 2) := by decide +kernel
theorem ddX2_firstGuardFor_67 : decode cX2_firstGuardFor 67 = .ok (.istore_n 3, 1) := by decide +kernel
theorem ddX2_firstGuardFor_68 : decode cX2_firstGuardFor 68 = .ok (.iinc 4 1, 3) := by decide +kernel
theorem ddX2_firstGuardFor_71 : decode cX2_firstGuardFor 71 = .ok (.goto (-66), 3) := by decide +kernel
theorem ddX2_firstGuardFor_74 : decode cX2_firstGuardFor 74 = .ok (.iload_n 3, 1) := by decide +kernel
theorem ddX2_firstGuardFor_75 : decode cX2_firstGuardFor 75 = .ok (.ireturn, 1) := by decide +kernel
theorem ddX2_fill_0 : decode cX2_fill 0 = .ok (.aload_n 0, 1) := by decide +kernel
theorem ddX2_fill_1 : decode cX2_fill 1 = .ok (.invokevirtual 73, 3) := by decide +kernel
theorem ddX2_fill_4 : decode cX2_fill 4 = .ok (.iconst 0, 1) := by decide +kernel
theorem ddX2_fill_5 : decode cX2_fill 5 = .ok (.istore_n 2, 1) := by decide +kernel
theorem ddX2_fill_6 : decode cX2_fill 6 = .ok (.iconst 0, 1) := by decide +kernel
theorem ddX2_fill_7 : decode cX2_fill 7 = .ok (.istore_n 3, 1) := by decide +kernel
theorem ddX2_fill_8 : decode cX2_fill 8 = .ok (.iconst 0, 1) := by decide +kernel
theorem ddX2_fill_9 : decode cX2_fill 9 = .ok (.istore 4, 2) := by decide +kernel
theorem ddX2_fill_11 : decode cX2_fill 11 = .ok (.iload 4, 2) := by decide +kernel
theorem ddX2_fill_13 : decode cX2_fill 13 = .ok (.aload_n 0, 1) := by decide +kernel
theorem ddX2_fill_14 : decode cX2_fill 14 = .ok (.invokevirtual 43, 3) := by decide +kernel
theorem ddX2_fill_17 : decode cX2_fill 17 = .ok (.if_icmp .ge 50, 3) := by decide +kernel
theorem ddX2_fill_20 : decode cX2_fill 20 = .ok (.aload_n 0, 1) := by decide +kernel
theorem ddX2_fill_21 : decode cX2_fill 21 = .ok (.iload_n 3, 1) := by decide +kernel
theorem ddX2_fill_22 : decode cX2_fill 22 = .ok (.invokevirtual 79, 3) := by decide +kernel
theorem ddX2_fill_25 : decode cX2_fill 25 = .ok (.istore 5, 2) := by decide +kernel
theorem ddX2_fill_27 : decode cX2_fill 27 = .ok (.iload_n 3, 1) := by decide +kernel
theorem ddX2_fill_28 : decode cX2_fill 28 = .ok (.iconst 1, 1) := by decide +kernel
theorem ddX2_fill_29 : decode cX2_fill 29 = .ok (.iload 5, 2) := by decide +kernel
theorem ddX2_fill_31 : decode cX2_fill 31 = .ok (.ishl, 1) := by decide +kernel
theorem ddX2_fill_32 : decode cX2_fill 32 = .ok (.ior, 1) := by decide +kernel
theorem ddX2_fill_33 : decode cX2_fill 33 = .ok (.istore_n 3, 1) := by decide +kernel
theorem ddX2_fill_34 : decode cX2_fill 34 = .ok (.aload_n 0, 1) := by decide +kernel
theorem ddX2_fill_35 : decode cX2_fill 35 = .ok (.iload 5, 2) := by decide +kernel
theorem ddX2_fill_37 : decode cX2_fill 37 = .ok (.iload_n 1, 1) := by decide +kernel
theorem ddX2_fill_38 : decode cX2_fill 38 = .ok (.invokevirtual 82, 3) := by decide +kernel
theorem ddX2_fill_41 : decode cX2_fill 41 = .ok (.istore 6, 2) := by decide +kernel
theorem ddX2_fill_43 : decode cX2_fill 43 = .ok (.iload 6, 2) := by decide +kernel
theorem ddX2_fill_45 : decode cX2_fill 45 = .ok (.iconst (-1), 1) := by decide +kernel
theorem ddX2_fill_46 : decode cX2_fill 46 = .ok (.if_icmp .eq 15, 3) := by decide +kernel
theorem ddX2_fill_49 : decode cX2_fill 49 = .ok (.aload_n 0, 1) := by decide +kernel
theorem ddX2_fill_50 : decode cX2_fill 50 = .ok (.iload 5, 2) := by decide +kernel
theorem ddX2_fill_52 : decode cX2_fill 52 = .ok (.iload_n 1, 1) := by decide +kernel
theorem ddX2_fill_53 : decode cX2_fill 53 = .ok (.iload 6, 2) := by decide +kernel
theorem ddX2_fill_55 : decode cX2_fill 55 = .ok (.invokevirtual 85, 3) := by decide +kernel
theorem ddX2_fill_58 : decode cX2_fill 58 = .ok (.iinc 2 1, 3) := by decide +kernel
theorem ddX2_fill_61 : decode cX2_fill 61 = .ok (.iinc 4 1, 3) := by decide +kernel
theorem ddX2_fill_64 : decode cX2_fill 64 = .ok (.goto (-53), 3) := by decide +kernel
theorem ddX2_fill_67 : decode cX2_fill 67 = .ok (.iload_n 2, 1) := by decide +kernel
theorem ddX2_fill_68 : decode cX2_fill 68 = .ok (.ireturn, 1) := by decide +kernel
theorem ddX2_dropLeave_0 : decode cX2_dropLeave 0 = .ok (.aload_n 0, 1) := by decide +kernel
theorem ddX2_dropLeave_1 : decode cX2_dropLeave 1 = .ok (.iload_n 1, 1) := by decide +kernel
theorem ddX2_dropLeave_2 : decode cX2_dropLeave 2 = .ok (.invokevirtual 28, 3) := by decide +kernel
theorem ddX2_dropLeave_5 : decode cX2_dropLeave 5 = .ok (.ifCond .eq 20, 3) := by decide +kernel
theorem ddX2_dropLeave_8 : decode cX2_dropLeave 8 = .ok (.aload_n 0, 1) := by decide +kernel
theorem ddX2_dropLeave_9 : decode cX2_dropLeave 9 = .ok (.getfield 11, 3) := by decide +kernel
theorem ddX2_dropLeave_12 : decode cX2_dropLeave 12 = .ok (.bipush 29, 2) := by decide +kernel
theorem ddX2_dropLeave_14 : decode cX2_dropLeave 14 = .ok (.iload_n 1, 1) := by decide +kernel
theorem ddX2_dropLeave_15 : decode cX2_dropLeave 15 = .ok (.iadd, 1) := by decide +kernel
theorem ddX2_dropLeave_16 : decode cX2_dropLeave 16 = .ok (.dup2, 1) := by decide +kernel
theorem ddX2_dropLeave_17 : decode cX2_dropLeave 17 = .ok (.iaload, 1) := by decide +kernel
theorem ddX2_dropLeave_18 : decode cX2_dropLeave 18 = .ok (.iconst 1, 1) := by decide +kernel
theorem ddX2_dropLeave_19 : decode cX2_dropLeave 19 = .ok (.iload_n 2, 1) := by decide +kernel
theorem ddX2_dropLeave_20 : decode cX2_dropLeave 20 = .ok (.ishl, 1) := by decide +kernel
theorem ddX2_dropLeave_21 : decode cX2_dropLeave 21 = .ok (.iconst (-1), 1) := by decide +kernel
theorem ddX2_dropLeave_22 : decode cX2_dropLeave 22 = .ok (.ixor, 1) := by decide +kernel
theorem ddX2_dropLeave_23 : decode cX2_dropLeave 23 = .ok (.iand, 1) := by decide +kernel
theorem ddX2_dropLeave_24 : decode cX2_dropLeave 24 = .ok (.iastore, 1) := by decide +kernel
theorem ddX2_dropLeave_25 : decode cX2_dropLeave 25 = .ok (.return_, 1) := by decide +kernel
theorem ddX2_store_0 : decode cX2_store 0 = .ok (.aload_n 0, 1) := by decide +kernel
theorem ddX2_store_1 : decode cX2_store 1 = .ok (.getfield 11, 3) := by decide +kernel
theorem ddX2_store_4 : decode cX2_store 4 = .ok (.iconst 2, 1) := by decide +kernel
theorem ddX2_store_5 : decode cX2_store 5 = .ok (.dup2, 1) := by decide +kernel
theorem ddX2_store_6 : decode cX2_store 6 = .ok (.iaload, 1) := by decide +kernel
theorem ddX2_store_7 : decode cX2_store 7 = .ok (.iload_n 1, 1) := by decide +kernel
theorem ddX2_store_8 : decode cX2_store 8 = .ok (.iadd, 1) := by decide +kernel
theorem ddX2_store_9 : decode cX2_store 9 = .ok (.iastore, 1) := by decide +kernel
theorem ddX2_store_10 : decode cX2_store 10 = .ok (.return_, 1) := by decide +kernel
theorem ddX2_feedGuardsOf_0 : decode cX2_feedGuardsOf 0 = .ok (.iconst 0, 1) := by decide +kernel
theorem ddX2_feedGuardsOf_1 : decode cX2_feedGuardsOf 1 = .ok (.istore_n 2, 1) := by decide +kernel
theorem ddX2_feedGuardsOf_2 : decode cX2_feedGuardsOf 2 = .ok (.iconst 0, 1) := by decide +kernel
theorem ddX2_feedGuardsOf_3 : decode cX2_feedGuardsOf 3 = .ok (.istore_n 3, 1) := by decide +kernel
theorem ddX2_feedGuardsOf_4 : decode cX2_feedGuardsOf 4 = .ok (.iload_n 3, 1) := by decide +kernel
theorem ddX2_feedGuardsOf_5 : decode cX2_feedGuardsOf 5 = .ok (.aload_n 0, 1) := by decide +kernel
theorem ddX2_feedGuardsOf_6 : decode cX2_feedGuardsOf 6 = .ok (.invokevirtual 43, 3) := by decide +kernel
theorem ddX2_feedGuardsOf_9 : decode cX2_feedGuardsOf 9 = .ok (.if_icmp .ge 74, 3) := by decide +kernel
theorem ddX2_feedGuardsOf_12 : decode cX2_feedGuardsOf 12 = .ok (.aload_n 0, 1) := by decide +kernel
theorem ddX2_feedGuardsOf_13 : decode cX2_feedGuardsOf 13 = .ok (.iload_n 3, 1) := by decide +kernel
theorem ddX2_feedGuardsOf_14 : decode cX2_feedGuardsOf 14 = .ok (.iload_n 1, 1) := by decide +kernel
theorem ddX2_feedGuardsOf_15 : decode cX2_feedGuardsOf 15 = .ok (.invokevirtual 51, 3) := by decide +kernel
theorem ddX2_feedGuardsOf_18 : decode cX2_feedGuardsOf 18 = .ok (.istore 4, 2) := by decide +kernel
theorem ddX2_feedGuardsOf_20 : decode cX2_feedGuardsOf 20 = .ok (.aload_n 0, 1) := by decide +kernel
theorem ddX2_feedGuardsOf_21 : decode cX2_feedGuardsOf 21 = .ok (.iload 4, 2) := by decide +kernel
theorem ddX2_feedGuardsOf_23 : decode cX2_feedGuardsOf 23 = .ok (.invokevirtual 28, 3) := by decide +kernel
theorem ddX2_feedGuardsOf_26 : decode cX2_feedGuardsOf 26 = .ok (.ifCond .eq 25, 3) := by decide +kernel
theorem ddX2_feedGuardsOf_29 : decode cX2_feedGuardsOf 29 = .ok (.aload_n 0, 1) := by decide +kernel
theorem ddX2_feedGuardsOf_30 : decode cX2_feedGuardsOf 30 = .ok (.getfield 11, 3) := by decide +kernel
theorem ddX2_feedGuardsOf_33 : decode cX2_feedGuardsOf 33 = .ok (.iconst 2, 1) := by decide +kernel
theorem ddX2_feedGuardsOf_34 : decode cX2_feedGuardsOf 34 = .ok (.iaload, 1) := by decide +kernel
theorem ddX2_feedGuardsOf_35 : decode cX2_feedGuardsOf 35 = .ok (.ifCond .le 16, 3) := by decide +kernel
theorem ddX2_feedGuardsOf_38 : decode cX2_feedGuardsOf 38 = .ok (.aload_n 0, 1) := by decide +kernel
theorem ddX2_feedGuardsOf_39 : decode cX2_feedGuardsOf 39 = .ok (.getfield 11, 3) := by decide +kernel
theorem ddX2_feedGuardsOf_42 : decode cX2_feedGuardsOf 42 = .ok (.iconst 2, 1) := by decide +kernel
theorem ddX2_feedGuardsOf_43 : decode cX2_feedGuardsOf 43 = .ok (.dup2, 1) := by decide +kernel
theorem ddX2_feedGuardsOf_44 : decode cX2_feedGuardsOf 44 = .ok (.iaload, 1) := by decide +kernel
theorem ddX2_feedGuardsOf_45 : decode cX2_feedGuardsOf 45 = .ok (.iconst 1, 1) := by decide +kernel
theorem ddX2_feedGuardsOf_46 : decode cX2_feedGuardsOf 46 = .ok (.isub, 1) := by decide +kernel
theorem ddX2_feedGuardsOf_47 : decode cX2_feedGuardsOf 47 = .ok (.iastore, 1) := by decide +kernel
theorem ddX2_feedGuardsOf_48 : decode cX2_feedGuardsOf 48 = .ok (.goto 29, 3) := by decide +kernel
theorem ddX2_feedGuardsOf_51 : decode cX2_feedGuardsOf 51 = .ok (.aload_n 0, 1) := by decide +kernel
theorem ddX2_feedGuardsOf_52 : decode cX2_feedGuardsOf 52 = .ok (.iload 4, 2) := by decide +kernel
theorem ddX2_feedGuardsOf_54 : decode cX2_feedGuardsOf 54 = .ok (.invokevirtual 28, 3) := by decide +kernel
theorem ddX2_feedGuardsOf_57 : decode cX2_feedGuardsOf 57 = .ok (.ifCond .eq 20, 3) := by decide +kernel
theorem ddX2_feedGuardsOf_60 : decode cX2_feedGuardsOf 60 = .ok (.aload_n 0, 1) := by decide +kernel
theorem ddX2_feedGuardsOf_61 : decode cX2_feedGuardsOf 61 = .ok (.getfield 11, 3) := by decide +kernel
theorem ddX2_feedGuardsOf_64 : decode cX2_feedGuardsOf 64 = .ok (.bipush 19, 2) := by decide +kernel
theorem ddX2_feedGuardsOf_66 : decode cX2_feedGuardsOf 66 = .ok (.iload 4, 2) := by decide +kernel
theorem ddX2_feedGuardsOf_68 : decode cX2_feedGuardsOf 68 = .ok (.iadd, 1) := by decide +kernel
theorem ddX2_feedGuardsOf_69 : decode cX2_feedGuardsOf 69 = .ok (.dup2, 1) := by decide +kernel
theorem ddX2_feedGuardsOf_70 : decode cX2_feedGuardsOf 70 = .ok (.iaload, 1) := by decide +kernel
theorem ddX2_feedGuardsOf_71 : decode cX2_feedGuardsOf 71 = .ok (.iconst 1, 1) := by decide +kernel
theorem ddX2_feedGuardsOf_72 : decode cX2_feedGuardsOf 72 = .ok (.iadd, 1) := by decide +kernel
theorem ddX2_feedGuardsOf_73 : decode cX2_feedGuardsOf 73 = .ok (.iastore, 1) := by decide +kernel
theorem ddX2_feedGuardsOf_74 : decode cX2_feedGuardsOf 74 = .ok (.iinc 2 1, 3) := by decide +kernel
theorem ddX2_feedGuardsOf_77 : decode cX2_feedGuardsOf 77 = .ok (.iinc 3 1, 3) := by decide +kernel
theorem ddX2_feedGuardsOf_80 : decode cX2_feedGuardsOf 80 = .ok (.goto (-76), 3) := by decide +kernel
theorem ddX2_feedGuardsOf_83 : decode cX2_feedGuardsOf 83 = .ok (.iload_n 2, 1) := by decide +kernel
theorem ddX2_feedGuardsOf_84 : decode cX2_feedGuardsOf 84 = .ok (.ireturn, 1) := by decide +kernel
theorem ddX2_letPass_0 : decode cX2_letPass 0 = .ok (.iconst 0, 1) := by decide +kernel
theorem ddX2_letPass_1 : decode cX2_letPass 1 = .ok (.istore_n 2, 1) := by decide +kernel
theorem ddX2_letPass_2 : decode cX2_letPass 2 = .ok (.iconst 0, 1) := by decide +kernel
theorem ddX2_letPass_3 : decode cX2_letPass 3 = .ok (.istore_n 3, 1) := by decide +kernel
theorem ddX2_letPass_4 : decode cX2_letPass 4 = .ok (.iload_n 3, 1) := by decide +kernel
theorem ddX2_letPass_5 : decode cX2_letPass 5 = .ok (.iload_n 1, 1) := by decide +kernel
theorem ddX2_letPass_6 : decode cX2_letPass 6 = .ok (.if_icmp .ge 43, 3) := by decide +kernel
theorem ddX2_letPass_9 : decode cX2_letPass 9 = .ok (.aload_n 0, 1) := by decide +kernel
theorem ddX2_letPass_10 : decode cX2_letPass 10 = .ok (.getfield 11, 3) := by decide +kernel
theorem ddX2_letPass_13 : decode cX2_letPass 13 = .ok (.iconst 3, 1) := by decide +kernel
theorem ddX2_letPass_14 : decode cX2_letPass 14 = .ok (.iaload, 1) := by decide +kernel
theorem ddX2_letPass_15 : decode cX2_letPass 15 = .ok (.bipush 28, 2) := by decide +kernel
theorem ddX2_letPass_17 : decode cX2_letPass 17 = .ok (.if_icmp .ge 32, 3) := by decide +kernel
theorem ddX2_letPass_20 : decode cX2_letPass 20 = .ok (.iload_n 2, 1) := by decide +kernel
theorem ddX2_letPass_21 : decode cX2_letPass 21 = .ok (.aload_n 0, 1) := by decide +kernel
theorem ddX2_letPass_22 : decode cX2_letPass 22 = .ok (.aload_n 0, 1) := by decide +kernel
theorem ddX2_letPass_23 : decode cX2_letPass 23 = .ok (.getfield 11, 3) := by decide +kernel
theorem ddX2_letPass_26 : decode cX2_letPass 26 = .ok (.iconst 3, 1) := by decide +kernel
theorem ddX2_letPass_27 : decode cX2_letPass 27 = .ok (.iaload, 1) := by decide +kernel
theorem ddX2_letPass_28 : decode cX2_letPass 28 = .ok (.invokevirtual 101, 3) := by decide +kernel
theorem ddX2_letPass_31 : decode cX2_letPass 31 = .ok (.iadd, 1) := by decide +kernel
theorem ddX2_letPass_32 : decode cX2_letPass 32 = .ok (.istore_n 2, 1) := by decide +kernel
theorem ddX2_letPass_33 : decode cX2_letPass 33 = .ok (.aload_n 0, 1) := by decide +kernel
theorem ddX2_letPass_34 : decode cX2_letPass 34 = .ok (.getfield 11, 3) := by decide +kernel
theorem ddX2_letPass_37 : decode cX2_letPass 37 = .ok (.iconst 3, 1) := by decide +kernel
theorem ddX2_letPass_38 : decode cX2_letPass 38 = .ok (.dup2, 1) := by decide +kernel
theorem ddX2_letPass_39 : decode cX2_letPass 39 = .ok (.iaload, 1) := by decide +kernel
theorem ddX2_letPass_40 : decode cX2_letPass 40 = .ok (.iconst 1, 1) := by decide +kernel
theorem ddX2_letPass_41 : decode cX2_letPass 41 = .ok (.iadd, 1) := by decide +kernel
theorem ddX2_letPass_42 : decode cX2_letPass 42 = .ok (.iastore, 1) := by decide +kernel
theorem ddX2_letPass_43 : decode cX2_letPass 43 = .ok (.iinc 3 1, 3) := by decide +kernel
theorem ddX2_letPass_46 : decode cX2_letPass 46 = .ok (.goto (-42), 3) := by decide +kernel
theorem ddX2_letPass_49 : decode cX2_letPass 49 = .ok (.iload_n 2, 1) := by decide +kernel
theorem ddX2_letPass_50 : decode cX2_letPass 50 = .ok (.ireturn, 1) := by decide +kernel
