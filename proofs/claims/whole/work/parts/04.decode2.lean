theorem dX9_areLikeRows_27 : decode cX9_areLikeRows 27 = .ok (.iaload, 1) := by decide +kernel
theorem dX9_areLikeRows_28 : decode cX9_areLikeRows 28 = .ok (.if_icmp .ne 7, 3) := by decide +kernel
theorem dX9_areLikeRows_31 : decode cX9_areLikeRows 31 = .ok (.iconst 1, 1) := by decide +kernel
theorem dX9_areLikeRows_32 : decode cX9_areLikeRows 32 = .ok (.goto 4, 3) := by decide +kernel
theorem dX9_areLikeRows_35 : decode cX9_areLikeRows 35 = .ok (.iconst 0, 1) := by decide +kernel
theorem dX9_areLikeRows_36 : decode cX9_areLikeRows 36 = .ok (.ireturn, 1) := by decide +kernel
theorem dX9_refusalOfBytes_0 : decode cX9_refusalOfBytes 0 = .ok (.aload_n 0, 1) := by decide +kernel
theorem dX9_refusalOfBytes_1 : decode cX9_refusalOfBytes 1 = .ok (.iload_n 1, 1) := by decide +kernel
theorem dX9_refusalOfBytes_2 : decode cX9_refusalOfBytes 2 = .ok (.invokevirtual 35, 3) := by decide +kernel
theorem dX9_refusalOfBytes_5 : decode cX9_refusalOfBytes 5 = .ok (.ifCond .eq 6, 3) := by decide +kernel
theorem dX9_refusalOfBytes_8 : decode cX9_refusalOfBytes 8 = .ok (.bipush (-11), 2) := by decide +kernel
theorem dX9_refusalOfBytes_10 : decode cX9_refusalOfBytes 10 = .ok (.ireturn, 1) := by decide +kernel
theorem dX9_refusalOfBytes_11 : decode cX9_refusalOfBytes 11 = .ok (.aload_n 0, 1) := by decide +kernel
theorem dX9_refusalOfBytes_12 : decode cX9_refusalOfBytes 12 = .ok (.iload_n 1, 1) := by decide +kernel
theorem dX9_refusalOfBytes_13 : decode cX9_refusalOfBytes 13 = .ok (.invokevirtual 32, 3) := by decide +kernel
theorem dX9_refusalOfBytes_16 : decode cX9_refusalOfBytes 16 = .ok (.ifCond .eq 16, 3) := by decide +kernel
theorem dX9_refusalOfBytes_19 : decode cX9_refusalOfBytes 19 = .ok (.aload_n 0, 1) := by decide +kernel
theorem dX9_refusalOfBytes_20 : decode cX9_refusalOfBytes 20 = .ok (.getfield 18, 3) := by decide +kernel
theorem dX9_refusalOfBytes_23 : decode cX9_refusalOfBytes 23 = .ok (.iload_n 1, 1) := by decide +kernel
theorem dX9_refusalOfBytes_24 : decode cX9_refusalOfBytes 24 = .ok (.iaload, 1) := by decide +kernel
theorem dX9_refusalOfBytes_25 : decode cX9_refusalOfBytes 25 = .ok (.ifCond .ne 7, 3) := by decide +kernel
theorem dX9_refusalOfBytes_28 : decode cX9_refusalOfBytes 28 = .ok (.iconst 0, 1) := by decide +kernel
theorem dX9_refusalOfBytes_29 : decode cX9_refusalOfBytes 29 = .ok (.goto 5, 3) := by decide +kernel
theorem dX9_refusalOfBytes_32 : decode cX9_refusalOfBytes 32 = .ok (.bipush (-12), 2) := by decide +kernel
theorem dX9_refusalOfBytes_34 : decode cX9_refusalOfBytes 34 = .ok (.ireturn, 1) := by decide +kernel
theorem dX9_refusalAt_0 : decode cX9_refusalAt 0 = .ok (.aload_n 0, 1) := by decide +kernel
theorem dX9_refusalAt_1 : decode cX9_refusalAt 1 = .ok (.iload_n 1, 1) := by decide +kernel
theorem dX9_refusalAt_2 : decode cX9_refusalAt 2 = .ok (.invokevirtual 28, 3) := by decide +kernel
theorem dX9_refusalAt_5 : decode cX9_refusalAt 5 = .ok (.ifCond .ne 5, 3) := by decide +kernel
theorem dX9_refusalAt_8 : decode cX9_refusalAt 8 = .ok (.iconst (-1), 1) := by decide +kernel
theorem dX9_refusalAt_9 : decode cX9_refusalAt 9 = .ok (.ireturn, 1) := by decide +kernel
theorem dX9_refusalAt_10 : decode cX9_refusalAt 10 = .ok (.aload_n 0, 1) := by decide +kernel
theorem dX9_refusalAt_11 : decode cX9_refusalAt 11 = .ok (.iload_n 1, 1) := by decide +kernel
theorem dX9_refusalAt_12 : decode cX9_refusalAt 12 = .ok (.invokevirtual 35, 3) := by decide +kernel
theorem dX9_refusalAt_15 : decode cX9_refusalAt 15 = .ok (.ifCond .eq 6, 3) := by decide +kernel
theorem dX9_refusalAt_18 : decode cX9_refusalAt 18 = .ok (.bipush (-11), 2) := by decide +kernel
theorem dX9_refusalAt_20 : decode cX9_refusalAt 20 = .ok (.ireturn, 1) := by decide +kernel
theorem dX9_refusalAt_21 : decode cX9_refusalAt 21 = .ok (.aload_n 0, 1) := by decide +kernel
theorem dX9_refusalAt_22 : decode cX9_refusalAt 22 = .ok (.iload_n 1, 1) := by decide +kernel
theorem dX9_refusalAt_23 : decode cX9_refusalAt 23 = .ok (.invokevirtual 32, 3) := by decide +kernel
theorem dX9_refusalAt_26 : decode cX9_refusalAt 26 = .ok (.ifCond .ne 6, 3) := by decide +kernel
theorem dX9_refusalAt_29 : decode cX9_refusalAt 29 = .ok (.bipush (-12), 2) := by decide +kernel
theorem dX9_refusalAt_31 : decode cX9_refusalAt 31 = .ok (.ireturn, 1) := by decide +kernel
theorem dX9_refusalAt_32 : decode cX9_refusalAt 32 = .ok (.aload_n 0, 1) := by decide +kernel
theorem dX9_refusalAt_33 : decode cX9_refusalAt 33 = .ok (.iload_n 1, 1) := by decide +kernel
theorem dX9_refusalAt_34 : decode cX9_refusalAt 34 = .ok (.iload_n 2, 1) := by decide +kernel
theorem dX9_refusalAt_35 : decode cX9_refusalAt 35 = .ok (.iconst 1, 1) := by decide +kernel
theorem dX9_refusalAt_36 : decode cX9_refusalAt 36 = .ok (.invokevirtual 38, 3) := by decide +kernel
theorem dX9_refusalAt_39 : decode cX9_refusalAt 39 = .ok (.ifCond .eq 7, 3) := by decide +kernel
theorem dX9_refusalAt_42 : decode cX9_refusalAt 42 = .ok (.iconst 0, 1) := by decide +kernel
theorem dX9_refusalAt_43 : decode cX9_refusalAt 43 = .ok (.goto 5, 3) := by decide +kernel
theorem dX9_refusalAt_46 : decode cX9_refusalAt 46 = .ok (.bipush (-13), 2) := by decide +kernel
theorem dX9_refusalAt_48 : decode cX9_refusalAt 48 = .ok (.ireturn, 1) := by decide +kernel
theorem dX9_sizeOf_0 : decode cX9_sizeOf 0 = .ok (.aload_n 0, 1) := by decide +kernel
theorem dX9_sizeOf_1 : decode cX9_sizeOf 1 = .ok (.iload_n 1, 1) := by decide +kernel
theorem dX9_sizeOf_2 : decode cX9_sizeOf 2 = .ok (.invokevirtual 32, 3) := by decide +kernel
theorem dX9_sizeOf_5 : decode cX9_sizeOf 5 = .ok (.ifCond .eq 12, 3) := by decide +kernel
theorem dX9_sizeOf_8 : decode cX9_sizeOf 8 = .ok (.aload_n 0, 1) := by decide +kernel
theorem dX9_sizeOf_9 : decode cX9_sizeOf 9 = .ok (.getfield 21, 3) := by decide +kernel
theorem dX9_sizeOf_12 : decode cX9_sizeOf 12 = .ok (.iload_n 1, 1) := by decide +kernel
theorem dX9_sizeOf_13 : decode cX9_sizeOf 13 = .ok (.iaload, 1) := by decide +kernel
theorem dX9_sizeOf_14 : decode cX9_sizeOf 14 = .ok (.goto 4, 3) := by decide +kernel
theorem dX9_sizeOf_17 : decode cX9_sizeOf 17 = .ok (.iconst 0, 1) := by decide +kernel
theorem dX9_sizeOf_18 : decode cX9_sizeOf 18 = .ok (.ireturn, 1) := by decide +kernel
theorem dX9_hasPlaces_0 : decode cX9_hasPlaces 0 = .ok (.aload_n 0, 1) := by decide +kernel
theorem dX9_hasPlaces_1 : decode cX9_hasPlaces 1 = .ok (.iload_n 1, 1) := by decide +kernel
theorem dX9_hasPlaces_2 : decode cX9_hasPlaces 2 = .ok (.invokevirtual 42, 3) := by decide +kernel
theorem dX9_hasPlaces_5 : decode cX9_hasPlaces 5 = .ok (.istore 4, 2) := by decide +kernel
theorem dX9_hasPlaces_7 : decode cX9_hasPlaces 7 = .ok (.iload_n 2, 1) := by decide +kernel
theorem dX9_hasPlaces_8 : decode cX9_hasPlaces 8 = .ok (.ifCond .lt 25, 3) := by decide +kernel
theorem dX9_hasPlaces_11 : decode cX9_hasPlaces 11 = .ok (.iload_n 3, 1) := by decide +kernel
theorem dX9_hasPlaces_12 : decode cX9_hasPlaces 12 = .ok (.ifCond .lt 21, 3) := by decide +kernel
theorem dX9_hasPlaces_15 : decode cX9_hasPlaces 15 = .ok (.iload_n 2, 1) := by decide +kernel
theorem dX9_hasPlaces_16 : decode cX9_hasPlaces 16 = .ok (.iload 4, 2) := by decide +kernel
theorem dX9_hasPlaces_18 : decode cX9_hasPlaces 18 = .ok (.if_icmp .gt 15, 3) := by decide +kernel
theorem dX9_hasPlaces_21 : decode cX9_hasPlaces 21 = .ok (.iload_n 3, 1) := by decide +kernel
theorem dX9_hasPlaces_22 : decode cX9_hasPlaces 22 = .ok (.iload 4, 2) := by decide +kernel
theorem dX9_hasPlaces_24 : decode cX9_hasPlaces 24 = .ok (.iload_n 2, 1) := by decide +kernel
theorem dX9_hasPlaces_25 : decode cX9_hasPlaces 25 = .ok (.isub, 1) := by decide +kernel
theorem dX9_hasPlaces_26 : decode cX9_hasPlaces 26 = .ok (.if_icmp .gt 7, 3) := by decide +kernel
theorem dX9_hasPlaces_29 : decode cX9_hasPlaces 29 = .ok (.iconst 1, 1) := by decide +kernel
theorem dX9_hasPlaces_30 : decode cX9_hasPlaces 30 = .ok (.goto 4, 3) := by decide +kernel
theorem dX9_hasPlaces_33 : decode cX9_hasPlaces 33 = .ok (.iconst 0, 1) := by decide +kernel
theorem dX9_hasPlaces_34 : decode cX9_hasPlaces 34 = .ok (.ireturn, 1) := by decide +kernel
theorem dX9_hold_0 : decode cX9_hold 0 = .ok (.aload_n 0, 1) := by decide +kernel
theorem dX9_hold_1 : decode cX9_hold 1 = .ok (.iload_n 1, 1) := by decide +kernel
theorem dX9_hold_2 : decode cX9_hold 2 = .ok (.invokevirtual 28, 3) := by decide +kernel
theorem dX9_hold_5 : decode cX9_hold 5 = .ok (.ifCond .eq 25, 3) := by decide +kernel
theorem dX9_hold_8 : decode cX9_hold 8 = .ok (.aload_n 0, 1) := by decide +kernel
theorem dX9_hold_9 : decode cX9_hold 9 = .ok (.getfield 11, 3) := by decide +kernel
theorem dX9_hold_12 : decode cX9_hold 12 = .ok (.iload_n 1, 1) := by decide +kernel
theorem dX9_hold_13 : decode cX9_hold 13 = .ok (.iload_n 2, 1) := by decide +kernel
theorem dX9_hold_14 : decode cX9_hold 14 = .ok (.ifCond .ge 7, 3) := by decide +kernel
theorem dX9_hold_17 : decode cX9_hold 17 = .ok (.iconst 0, 1) := by decide +kernel
theorem dX9_hold_18 : decode cX9_hold 18 = .ok (.goto 4, 3) := by decide +kernel
theorem dX9_hold_21 : decode cX9_hold 21 = .ok (.iconst 1, 1) := by decide +kernel
theorem dX9_hold_22 : decode cX9_hold 22 = .ok (.iastore, 1) := by decide +kernel
theorem dX9_hold_23 : decode cX9_hold 23 = .ok (.aload_n 0, 1) := by decide +kernel
theorem dX9_hold_24 : decode cX9_hold 24 = .ok (.getfield 15, 3) := by decide +kernel
theorem dX9_hold_27 : decode cX9_hold 27 = .ok (.iload_n 1, 1) := by decide +kernel
theorem dX9_hold_28 : decode cX9_hold 28 = .ok (.iload_n 2, 1) := by decide +kernel
theorem dX9_hold_29 : decode cX9_hold 29 = .ok (.iastore, 1) := by decide +kernel
theorem dX9_hold_30 : decode cX9_hold 30 = .ok (.return_, 1) := by decide +kernel
theorem dX9_bodyOn_0 : decode cX9_bodyOn 0 = .ok (.aload_n 0, 1) := by decide +kernel
theorem dX9_bodyOn_1 : decode cX9_bodyOn 1 = .ok (.iload_n 1, 1) := by decide +kernel
theorem dX9_bodyOn_2 : decode cX9_bodyOn 2 = .ok (.invokevirtual 28, 3) := by decide +kernel
theorem dX9_bodyOn_5 : decode cX9_bodyOn 5 = .ok (.ifCond .eq 22, 3) := by decide +kernel
theorem dX9_bodyOn_8 : decode cX9_bodyOn 8 = .ok (.aload_n 0, 1) := by decide +kernel
theorem dX9_bodyOn_9 : decode cX9_bodyOn 9 = .ok (.getfield 11, 3) := by decide +kernel
theorem dX9_bodyOn_12 : decode cX9_bodyOn 12 = .ok (.iload_n 1, 1) := by decide +kernel
theorem dX9_bodyOn_13 : decode cX9_bodyOn 13 = .ok (.iaload, 1) := by decide +kernel
theorem dX9_bodyOn_14 : decode cX9_bodyOn 14 = .ok (.iconst 1, 1) := by decide +kernel
theorem dX9_bodyOn_15 : decode cX9_bodyOn 15 = .ok (.if_icmp .ne 12, 3) := by decide +kernel
theorem dX9_bodyOn_18 : decode cX9_bodyOn 18 = .ok (.aload_n 0, 1) := by decide +kernel
theorem dX9_bodyOn_19 : decode cX9_bodyOn 19 = .ok (.getfield 15, 3) := by decide +kernel
theorem dX9_bodyOn_22 : decode cX9_bodyOn 22 = .ok (.iload_n 1, 1) := by decide +kernel
theorem dX9_bodyOn_23 : decode cX9_bodyOn 23 = .ok (.iaload, 1) := by decide +kernel
theorem dX9_bodyOn_24 : decode cX9_bodyOn 24 = .ok (.goto 4, 3) := by decide +kernel
theorem dX9_bodyOn_27 : decode cX9_bodyOn 27 = .ok (.iconst (-1), 1) := by decide +kernel
theorem dX9_bodyOn_28 : decode cX9_bodyOn 28 = .ok (.ireturn, 1) := by decide +kernel
theorem dX9_layRow_0 : decode cX9_layRow 0 = .ok (.aload_n 0, 1) := by decide +kernel
theorem dX9_layRow_1 : decode cX9_layRow 1 = .ok (.iload_n 1, 1) := by decide +kernel
theorem dX9_layRow_2 : decode cX9_layRow 2 = .ok (.invokevirtual 28, 3) := by decide +kernel
theorem dX9_layRow_5 : decode cX9_layRow 5 = .ok (.ifCond .eq 52, 3) := by decide +kernel
theorem dX9_layRow_8 : decode cX9_layRow 8 = .ok (.iload_n 3, 1) := by decide +kernel
theorem dX9_layRow_9 : decode cX9_layRow 9 = .ok (.ifCond .lt 48, 3) := by decide +kernel
theorem dX9_layRow_12 : decode cX9_layRow 12 = .ok (.iload_n 3, 1) := by decide +kernel
theorem dX9_layRow_13 : decode cX9_layRow 13 = .ok (.bipush 60, 2) := by decide +kernel
theorem dX9_layRow_15 : decode cX9_layRow 15 = .ok (.if_icmp .gt 42, 3) := by decide +kernel
theorem dX9_layRow_18 : decode cX9_layRow 18 = .ok (.aload_n 0, 1) := by decide +kernel
theorem dX9_layRow_19 : decode cX9_layRow 19 = .ok (.getfield 11, 3) := by decide +kernel
theorem dX9_layRow_22 : decode cX9_layRow 22 = .ok (.iload_n 1, 1) := by decide +kernel
theorem dX9_layRow_23 : decode cX9_layRow 23 = .ok (.iconst 2, 1) := by decide +kernel
theorem dX9_layRow_24 : decode cX9_layRow 24 = .ok (.iastore, 1) := by decide +kernel
theorem dX9_layRow_25 : decode cX9_layRow 25 = .ok (.aload_n 0, 1) := by decide +kernel
theorem dX9_layRow_26 : decode cX9_layRow 26 = .ok (.getfield 18, 3) := by decide +kernel
theorem dX9_layRow_29 : decode cX9_layRow 29 = .ok (.iload_n 1, 1) := by decide +kernel
theorem dX9_layRow_30 : decode cX9_layRow 30 = .ok (.iload_n 2, 1) := by decide +kernel
theorem dX9_layRow_31 : decode cX9_layRow 31 = .ok (.iastore, 1) := by decide +kernel
theorem dX9_layRow_32 : decode cX9_layRow 32 = .ok (.aload_n 0, 1) := by decide +kernel
theorem dX9_layRow_33 : decode cX9_layRow 33 = .ok (.getfield 21, 3) := by decide +kernel
theorem dX9_layRow_36 : decode cX9_layRow 36 = .ok (.iload_n 1, 1) := by decide +kernel
theorem dX9_layRow_37 : decode cX9_layRow 37 = .ok (.iload_n 3, 1) := by decide +kernel
theorem dX9_layRow_38 : decode cX9_layRow 38 = .ok (.iastore, 1) := by decide +kernel
theorem dX9_layRow_39 : decode cX9_layRow 39 = .ok (.aload_n 0, 1) := by decide +kernel
theorem dX9_layRow_40 : decode cX9_layRow 40 = .ok (.getfield 24, 3) := by decide +kernel
theorem dX9_layRow_43 : decode cX9_layRow 43 = .ok (.iload_n 1, 1) := by decide +kernel
theorem dX9_layRow_44 : decode cX9_layRow 44 = .ok (.bipush 60, 2) := by decide +kernel
theorem dX9_layRow_46 : decode cX9_layRow 46 = .ok (.imul, 1) := by decide +kernel
theorem dX9_layRow_47 : decode cX9_layRow 47 = .ok (.iload_n 1, 1) := by decide +kernel
theorem dX9_layRow_48 : decode cX9_layRow 48 = .ok (.bipush 60, 2) := by decide +kernel
theorem dX9_layRow_50 : decode cX9_layRow 50 = .ok (.imul, 1) := by decide +kernel
theorem dX9_layRow_51 : decode cX9_layRow 51 = .ok (.iload_n 3, 1) := by decide +kernel
theorem dX9_layRow_52 : decode cX9_layRow 52 = .ok (.iadd, 1) := by decide +kernel
theorem dX9_layRow_53 : decode cX9_layRow 53 = .ok (.lconst 0, 1) := by decide +kernel
theorem dX9_layRow_54 : decode cX9_layRow 54 = .ok (.invokestatic 46, 3) := by decide +kernel
theorem dX9_layRow_57 : decode cX9_layRow 57 = .ok (.return_, 1) := by decide +kernel
theorem dX9_elementAt_0 : decode cX9_elementAt 0 = .ok (.aload_n 0, 1) := by decide +kernel
theorem dX9_elementAt_1 : decode cX9_elementAt 1 = .ok (.iload_n 1, 1) := by decide +kernel
theorem dX9_elementAt_2 : decode cX9_elementAt 2 = .ok (.iload_n 2, 1) := by decide +kernel
theorem dX9_elementAt_3 : decode cX9_elementAt 3 = .ok (.iconst 1, 1) := by decide +kernel
theorem dX9_elementAt_4 : decode cX9_elementAt 4 = .ok (.invokevirtual 38, 3) := by decide +kernel
theorem dX9_elementAt_7 : decode cX9_elementAt 7 = .ok (.ifCond .eq 17, 3) := by decide +kernel
theorem dX9_elementAt_10 : decode cX9_elementAt 10 = .ok (.aload_n 0, 1) := by decide +kernel
theorem dX9_elementAt_11 : decode cX9_elementAt 11 = .ok (.getfield 24, 3) := by decide +kernel
theorem dX9_elementAt_14 : decode cX9_elementAt 14 = .ok (.iload_n 1, 1) := by decide +kernel
theorem dX9_elementAt_15 : decode cX9_elementAt 15 = .ok (.bipush 60, 2) := by decide +kernel
theorem dX9_elementAt_17 : decode cX9_elementAt 17 = .ok (.imul, 1) := by decide +kernel
theorem dX9_elementAt_18 : decode cX9_elementAt 18 = .ok (.iload_n 2, 1) := by decide +kernel
theorem dX9_elementAt_19 : decode cX9_elementAt 19 = .ok (.iadd, 1) := by decide +kernel
theorem dX9_elementAt_20 : decode cX9_elementAt 20 = .ok (.laload, 1) := by decide +kernel
theorem dX9_elementAt_21 : decode cX9_elementAt 21 = .ok (.goto 4, 3) := by decide +kernel
theorem dX9_elementAt_24 : decode cX9_elementAt 24 = .ok (.lconst 0, 1) := by decide +kernel
theorem dX9_elementAt_25 : decode cX9_elementAt 25 = .ok (.lreturn, 1) := by decide +kernel
theorem dX9_setElement_0 : decode cX9_setElement 0 = .ok (.aload_n 0, 1) := by decide +kernel
theorem dX9_setElement_1 : decode cX9_setElement 1 = .ok (.iload_n 1, 1) := by decide +kernel
theorem dX9_setElement_2 : decode cX9_setElement 2 = .ok (.iload_n 2, 1) := by decide +kernel
theorem dX9_setElement_3 : decode cX9_setElement 3 = .ok (.iconst 1, 1) := by decide +kernel
theorem dX9_setElement_4 : decode cX9_setElement 4 = .ok (.invokevirtual 38, 3) := by decide +kernel
theorem dX9_setElement_7 : decode cX9_setElement 7 = .ok (.ifCond .eq 24, 3) := by decide +kernel
theorem dX9_setElement_10 : decode cX9_setElement 10 = .ok (.aload_n 0, 1) := by decide +kernel
theorem dX9_setElement_11 : decode cX9_setElement 11 = .ok (.getfield 24, 3) := by decide +kernel
theorem dX9_setElement_14 : decode cX9_setElement 14 = .ok (.iload_n 1, 1) := by decide +kernel
theorem dX9_setElement_15 : decode cX9_setElement 15 = .ok (.bipush 60, 2) := by decide +kernel
theorem dX9_setElement_17 : decode cX9_setElement 17 = .ok (.imul, 1) := by decide +kernel
theorem dX9_setElement_18 : decode cX9_setElement 18 = .ok (.iload_n 2, 1) := by decide +kernel
theorem dX9_setElement_19 : decode cX9_setElement 19 = .ok (.iadd, 1) := by decide +kernel
theorem dX9_setElement_20 : decode cX9_setElement 20 = .ok (.aload_n 0, 1) := by decide +kernel
theorem dX9_setElement_21 : decode cX9_setElement 21 = .ok (.getfield 18, 3) := by decide +kernel
theorem dX9_setElement_24 : decode cX9_setElement 24 = .ok (.iload_n 1, 1) := by decide +kernel
theorem dX9_setElement_25 : decode cX9_setElement 25 = .ok (.iaload, 1) := by decide +kernel
theorem dX9_setElement_26 : decode cX9_setElement 26 = .ok (.lload_n 3, 1) := by decide +kernel
theorem dX9_setElement_27 : decode cX9_setElement 27 = .ok (.invokestatic 52, 3) := by decide +kernel
theorem dX9_setElement_30 : decode cX9_setElement 30 = .ok (.lastore, 1) := by decide +kernel
theorem dX9_setElement_31 : decode cX9_setElement 31 = .ok (.return_, 1) := by decide +kernel
theorem dX9_cut_0 : decode cX9_cut 0 = .ok (.iload_n 0, 1) := by decide +kernel
theorem dX9_cut_1 : decode cX9_cut 1 = .ok (.tableswitch 47 0 3 #[31, 36, 41, 45], 31) := by decide +kernel
theorem dX9_cut_32 : decode cX9_cut 32 = .ok (.lload_n 1, 1) := by decide +kernel
theorem dX9_cut_33 : decode cX9_cut 33 = .ok (.l2i, 1) := by decide +kernel
theorem dX9_cut_34 : decode cX9_cut 34 = .ok (.i2b, 1) := by decide +kernel
theorem dX9_cut_35 : decode cX9_cut 35 = .ok (.i2l, 1) := by decide +kernel
theorem dX9_cut_36 : decode cX9_cut 36 = .ok (.lreturn, 1) := by decide +kernel
theorem dX9_cut_37 : decode cX9_cut 37 = .ok (.lload_n 1, 1) := by decide +kernel
theorem dX9_cut_38 : decode cX9_cut 38 = .ok (.l2i, 1) := by decide +kernel
theorem dX9_cut_39 : decode cX9_cut 39 = .ok (.i2s, 1) := by decide +kernel
theorem dX9_cut_40 : decode cX9_cut 40 = .ok (.i2l, 1) := by decide +kernel
theorem dX9_cut_41 : decode cX9_cut 41 = .ok (.lreturn, 1) := by decide +kernel
theorem dX9_cut_42 : decode cX9_cut 42 = .ok (.lload_n 1, 1) := by decide +kernel
theorem dX9_cut_43 : decode cX9_cut 43 = .ok (.l2i, 1) := by decide +kernel
theorem dX9_cut_44 : decode cX9_cut 44 = .ok (.i2l, 1) := by decide +kernel
theorem dX9_cut_45 : decode cX9_cut 45 = .ok (.lreturn, 1) := by decide +kernel
theorem dX9_cut_46 : decode cX9_cut 46 = .ok (.lload_n 1, 1) := by decide +kernel
theorem dX9_cut_47 : decode cX9_cut 47 = .ok (.lreturn, 1) := by decide +kernel
theorem dX9_cut_48 : decode cX9_cut 48 = .ok (.lload_n 1, 1) := by decide +kernel
theorem dX9_cut_49 : decode cX9_cut 49 = .ok (.lconst 0, 1) := by decide +kernel
theorem dX9_cut_50 : decode cX9_cut 50 = .ok (.lcmp, 1) := by decide +kernel
theorem dX9_cut_51 : decode cX9_cut 51 = .ok (.ifCond .eq 7, 3) := by decide +kernel
theorem dX9_cut_54 : decode cX9_cut 54 = .ok (.lconst 1, 1) := by decide +kernel
theorem dX9_cut_55 : decode cX9_cut 55 = .ok (.goto 4, 3) := by decide +kernel
theorem dX9_cut_58 : decode cX9_cut 58 = .ok (.lconst 0, 1) := by decide +kernel
theorem dX9_cut_59 : decode cX9_cut 59 = .ok (.lreturn, 1) := by decide +kernel
theorem dX9_move_0 : decode cX9_move 0 = .ok (.aload_n 0, 1) := by decide +kernel
theorem dX9_move_1 : decode cX9_move 1 = .ok (.iload_n 1, 1) := by decide +kernel
theorem dX9_move_2 : decode cX9_move 2 = .ok (.iload_n 2, 1) := by decide +kernel
theorem dX9_move_3 : decode cX9_move 3 = .ok (.iload 5, 2) := by decide +kernel
theorem dX9_move_5 : decode cX9_move 5 = .ok (.invokevirtual 38, 3) := by decide +kernel
theorem dX9_move_8 : decode cX9_move 8 = .ok (.ifCond .eq 41, 3) := by decide +kernel
theorem dX9_move_11 : decode cX9_move 11 = .ok (.aload_n 0, 1) := by decide +kernel
theorem dX9_move_12 : decode cX9_move 12 = .ok (.iload_n 3, 1) := by decide +kernel
theorem dX9_move_13 : decode cX9_move 13 = .ok (.iload 4, 2) := by decide +kernel
theorem dX9_move_15 : decode cX9_move 15 = .ok (.iload 5, 2) := by decide +kernel
theorem dX9_move_17 : decode cX9_move 17 = .ok (.invokevirtual 38, 3) := by decide +kernel
theorem dX9_move_20 : decode cX9_move 20 = .ok (.ifCond .eq 29, 3) := by decide +kernel
theorem dX9_move_23 : decode cX9_move 23 = .ok (.aload_n 0, 1) := by decide +kernel
theorem dX9_move_24 : decode cX9_move 24 = .ok (.getfield 24, 3) := by decide +kernel
theorem dX9_move_27 : decode cX9_move 27 = .ok (.iload_n 1, 1) := by decide +kernel
theorem dX9_move_28 : decode cX9_move 28 = .ok (.bipush 60, 2) := by decide +kernel
theorem dX9_move_30 : decode cX9_move 30 = .ok (.imul, 1) := by decide +kernel
theorem dX9_move_31 : decode cX9_move 31 = .ok (.iload_n 2, 1) := by decide +kernel
theorem dX9_move_32 : decode cX9_move 32 = .ok (.iadd, 1) := by decide +kernel
theorem dX9_move_33 : decode cX9_move 33 = .ok (.aload_n 0, 1) := by decide +kernel
theorem dX9_move_34 : decode cX9_move 34 = .ok (.getfield 24, 3) := by decide +kernel
theorem dX9_move_37 : decode cX9_move 37 = .ok (.iload_n 3, 1) := by decide +kernel
theorem dX9_move_38 : decode cX9_move 38 = .ok (.bipush 60, 2) := by decide +kernel
theorem dX9_move_40 : decode cX9_move 40 = .ok (.imul, 1) := by decide +kernel
theorem dX9_move_41 : decode cX9_move 41 = .ok (.iload 4, 2) := by decide +kernel
theorem dX9_move_43 : decode cX9_move 43 = .ok (.iadd, 1) := by decide +kernel
theorem dX9_move_44 : decode cX9_move 44 = .ok (.iload 5, 2) := by decide +kernel
theorem dX9_move_46 : decode cX9_move 46 = .ok (.invokestatic 56, 3) := by decide +kernel
theorem dX9_move_49 : decode cX9_move 49 = .ok (.return_, 1) := by decide +kernel
theorem dX10_init_0 : decode cX10_init 0 = .ok (.aload_n 0, 1) := by decide +kernel
theorem dX10_init_1 : decode cX10_init 1 = .ok (.invokespecial 1, 3) := by decide +kernel
theorem dX10_init_4 : decode cX10_init 4 = .ok (.return_, 1) := by decide +kernel
theorem dX10_begin_0 : decode cX10_begin 0 = .ok (.aload_n 0, 1) := by decide +kernel
theorem dX10_begin_1 : decode cX10_begin 1 = .ok (.iload_n 1, 1) := by decide +kernel
theorem dX10_begin_2 : decode cX10_begin 2 = .ok (.putfield 7, 3) := by decide +kernel
theorem dX10_begin_5 : decode cX10_begin 5 = .ok (.aload_n 0, 1) := by decide +kernel
theorem dX10_begin_6 : decode cX10_begin 6 = .ok (.iload_n 2, 1) := by decide +kernel
theorem dX10_begin_7 : decode cX10_begin 7 = .ok (.putfield 13, 3) := by decide +kernel
theorem dX10_begin_10 : decode cX10_begin 10 = .ok (.aload_n 0, 1) := by decide +kernel
theorem dX10_begin_11 : decode cX10_begin 11 = .ok (.iload_n 3, 1) := by decide +kernel
theorem dX10_begin_12 : decode cX10_begin 12 = .ok (.putfield 16, 3) := by decide +kernel
theorem dX10_begin_15 : decode cX10_begin 15 = .ok (.aload_n 0, 1) := by decide +kernel
theorem dX10_begin_16 : decode cX10_begin 16 = .ok (.iconst 0, 1) := by decide +kernel
theorem dX10_begin_17 : decode cX10_begin 17 = .ok (.putfield 19, 3) := by decide +kernel
theorem dX10_begin_20 : decode cX10_begin 20 = .ok (.aload_n 0, 1) := by decide +kernel
theorem dX10_begin_21 : decode cX10_begin 21 = .ok (.iconst 0, 1) := by decide +kernel
theorem dX10_begin_22 : decode cX10_begin 22 = .ok (.putfield 22, 3) := by decide +kernel
theorem dX10_begin_25 : decode cX10_begin 25 = .ok (.aload_n 0, 1) := by decide +kernel
theorem dX10_begin_26 : decode cX10_begin 26 = .ok (.iconst 0, 1) := by decide +kernel
theorem dX10_begin_27 : decode cX10_begin 27 = .ok (.putfield 25, 3) := by decide +kernel
theorem dX10_begin_30 : decode cX10_begin 30 = .ok (.aload_n 0, 1) := by decide +kernel
theorem dX10_begin_31 : decode cX10_begin 31 = .ok (.iconst 0, 1) := by decide +kernel
theorem dX10_begin_32 : decode cX10_begin 32 = .ok (.putfield 28, 3) := by decide +kernel
theorem dX10_begin_35 : decode cX10_begin 35 = .ok (.aload_n 0, 1) := by decide +kernel
theorem dX10_begin_36 : decode cX10_begin 36 = .ok (.iconst 0, 1) := by decide +kernel
theorem dX10_begin_37 : decode cX10_begin 37 = .ok (.putfield 31, 3) := by decide +kernel
theorem dX10_begin_40 : decode cX10_begin 40 = .ok (.return_, 1) := by decide +kernel
theorem dX10_copy_0 : decode cX10_copy 0 = .ok (.aload_n 0, 1) := by decide +kernel
theorem dX10_copy_1 : decode cX10_copy 1 = .ok (.aload_n 1, 1) := by decide +kernel
theorem dX10_copy_2 : decode cX10_copy 2 = .ok (.getfield 7, 3) := by decide +kernel
theorem dX10_copy_5 : decode cX10_copy 5 = .ok (.aload_n 1, 1) := by decide +kernel
theorem dX10_copy_6 : decode cX10_copy 6 = .ok (.getfield 13, 3) := by decide +kernel
theorem dX10_copy_9 : decode cX10_copy 9 = .ok (.aload_n 1, 1) := by decide +kernel
theorem dX10_copy_10 : decode cX10_copy 10 = .ok (.getfield 16, 3) := by decide +kernel
theorem dX10_copy_13 : decode cX10_copy 13 = .ok (.invokevirtual 34, 3) := by decide +kernel
theorem dX10_copy_16 : decode cX10_copy 16 = .ok (.aload_n 0, 1) := by decide +kernel
theorem dX10_copy_17 : decode cX10_copy 17 = .ok (.aload_n 1, 1) := by decide +kernel
theorem dX10_copy_18 : decode cX10_copy 18 = .ok (.getfield 19, 3) := by decide +kernel
theorem dX10_copy_21 : decode cX10_copy 21 = .ok (.putfield 19, 3) := by decide +kernel
theorem dX10_copy_24 : decode cX10_copy 24 = .ok (.aload_n 0, 1) := by decide +kernel
theorem dX10_copy_25 : decode cX10_copy 25 = .ok (.aload_n 1, 1) := by decide +kernel
theorem dX10_copy_26 : decode cX10_copy 26 = .ok (.getfield 22, 3) := by decide +kernel
theorem dX10_copy_29 : decode cX10_copy 29 = .ok (.putfield 22, 3) := by decide +kernel
theorem dX10_copy_32 : decode cX10_copy 32 = .ok (.aload_n 0, 1) := by decide +kernel
theorem dX10_copy_33 : decode cX10_copy 33 = .ok (.aload_n 1, 1) := by decide +kernel
theorem dX10_copy_34 : decode cX10_copy 34 = .ok (.getfield 25, 3) := by decide +kernel
theorem dX10_copy_37 : decode cX10_copy 37 = .ok (.putfield 25, 3) := by decide +kernel
theorem dX10_copy_40 : decode cX10_copy 40 = .ok (.aload_n 0, 1) := by decide +kernel
theorem dX10_copy_41 : decode cX10_copy 41 = .ok (.aload_n 1, 1) := by decide +kernel
theorem dX10_copy_42 : decode cX10_copy 42 = .ok (.getfield 28, 3) := by decide +kernel
theorem dX10_copy_45 : decode cX10_copy 45 = .ok (.putfield 28, 3) := by decide +kernel
theorem dX10_copy_48 : decode cX10_copy 48 = .ok (.aload_n 0, 1) := by decide +kernel
theorem dX10_copy_49 : decode cX10_copy 49 = .ok (.aload_n 1, 1) := by decide +kernel
theorem dX10_copy_50 : decode cX10_copy 50 = .ok (.getfield 31, 3) := by decide +kernel
theorem dX10_copy_53 : decode cX10_copy 53 = .ok (.putfield 31, 3) := by decide +kernel
theorem dX10_copy_56 : decode cX10_copy 56 = .ok (.return_, 1) := by decide +kernel
theorem dX11_init_0 : decode cX11_init 0 = .ok (.aload_n 0, 1) := by decide +kernel
theorem dX11_init_1 : decode cX11_init 1 = .ok (.invokespecial 1, 3) := by decide +kernel
theorem dX11_init_4 : decode cX11_init 4 = .ok (.aload_n 0, 1) := by decide +kernel
theorem dX11_init_5 : decode cX11_init 5 = .ok (.new 7, 3) := by decide +kernel
theorem dX11_init_8 : decode cX11_init 8 = .ok (.dup, 1) := by decide +kernel
theorem dX11_init_9 : decode cX11_init 9 = .ok (.invokespecial 9, 3) := by decide +kernel
theorem dX11_init_12 : decode cX11_init 12 = .ok (.putfield 10, 3) := by decide +kernel
theorem dX11_init_15 : decode cX11_init 15 = .ok (.aload_n 0, 1) := by decide +kernel
theorem dX11_init_16 : decode cX11_init 16 = .ok (.new 16, 3) := by decide +kernel
theorem dX11_init_19 : decode cX11_init 19 = .ok (.dup, 1) := by decide +kernel
theorem dX11_init_20 : decode cX11_init 20 = .ok (.aload_n 0, 1) := by decide +kernel
theorem dX11_init_21 : decode cX11_init 21 = .ok (.getfield 10, 3) := by decide +kernel
theorem dX11_init_24 : decode cX11_init 24 = .ok (.invokespecial 18, 3) := by decide +kernel
theorem dX11_init_27 : decode cX11_init 27 = .ok (.putfield 21, 3) := by decide +kernel
theorem dX11_init_30 : decode cX11_init 30 = .ok (.aload_n 0, 1) := by decide +kernel
theorem dX11_init_31 : decode cX11_init 31 = .ok (.new 25, 3) := by decide +kernel
theorem dX11_init_34 : decode cX11_init 34 = .ok (.dup, 1) := by decide +kernel
theorem dX11_init_35 : decode cX11_init 35 = .ok (.invokespecial 27, 3) := by decide +kernel
theorem dX11_init_38 : decode cX11_init 38 = .ok (.putfield 28, 3) := by decide +kernel
theorem dX11_init_41 : decode cX11_init 41 = .ok (.aload_n 0, 1) := by decide +kernel
theorem dX11_init_42 : decode cX11_init 42 = .ok (.new 32, 3) := by decide +kernel
theorem dX11_init_45 : decode cX11_init 45 = .ok (.dup, 1) := by decide +kernel
theorem dX11_init_46 : decode cX11_init 46 = .ok (.aload_n 0, 1) := by decide +kernel
theorem dX11_init_47 : decode cX11_init 47 = .ok (.getfield 10, 3) := by decide +kernel
theorem dX11_init_50 : decode cX11_init 50 = .ok (.aload_n 0, 1) := by decide +kernel
theorem dX11_init_51 : decode cX11_init 51 = .ok (.getfield 28, 3) := by decide +kernel
theorem dX11_init_54 : decode cX11_init 54 = .ok (.invokespecial 34, 3) := by decide +kernel
theorem dX11_init_57 : decode cX11_init 57 = .ok (.putfield 37, 3) := by decide +kernel
theorem dX11_init_60 : decode cX11_init 60 = .ok (.aload_n 0, 1) := by decide +kernel
theorem dX11_init_61 : decode cX11_init 61 = .ok (.iconst 3, 1) := by decide +kernel
theorem dX11_init_62 : decode cX11_init 62 = .ok (.anewarray 41, 3) := by decide +kernel
theorem dX11_init_65 : decode cX11_init 65 = .ok (.putfield 43, 3) := by decide +kernel
theorem dX11_init_68 : decode cX11_init 68 = .ok (.iconst 0, 1) := by decide +kernel
theorem dX11_init_69 : decode cX11_init 69 = .ok (.istore_n 1, 1) := by decide +kernel
theorem dX11_init_70 : decode cX11_init 70 = .ok (.iload_n 1, 1) := by decide +kernel
theorem dX11_init_71 : decode cX11_init 71 = .ok (.iconst 3, 1) := by decide +kernel
theorem dX11_init_72 : decode cX11_init 72 = .ok (.if_icmp .ge 31, 3) := by decide +kernel
theorem dX11_init_75 : decode cX11_init 75 = .ok (.aload_n 0, 1) := by decide +kernel
theorem dX11_init_76 : decode cX11_init 76 = .ok (.getfield 43, 3) := by decide +kernel
theorem dX11_init_79 : decode cX11_init 79 = .ok (.iload_n 1, 1) := by decide +kernel
theorem dX11_init_80 : decode cX11_init 80 = .ok (.new 41, 3) := by decide +kernel
theorem dX11_init_83 : decode cX11_init 83 = .ok (.dup, 1) := by decide +kernel
theorem dX11_init_84 : decode cX11_init 84 = .ok (.aload_n 0, 1) := by decide +kernel
theorem dX11_init_85 : decode cX11_init 85 = .ok (.getfield 10, 3) := by decide +kernel
theorem dX11_init_88 : decode cX11_init 88 = .ok (.aload_n 0, 1) := by decide +kernel
theorem dX11_init_89 : decode cX11_init 89 = .ok (.getfield 37, 3) := by decide +kernel
theorem dX11_init_92 : decode cX11_init 92 = .ok (.iload_n 1, 1) := by decide +kernel
theorem dX11_init_93 : decode cX11_init 93 = .ok (.invokespecial 47, 3) := by decide +kernel
theorem dX11_init_96 : decode cX11_init 96 = .ok (.aastore, 1) := by decide +kernel
theorem dX11_init_97 : decode cX11_init 97 = .ok (.iinc 1 1, 3) := by decide +kernel
theorem dX11_init_100 : decode cX11_init 100 = .ok (.goto (-30), 3) := by decide +kernel
theorem dX11_init_103 : decode cX11_init 103 = .ok (.aload_n 0, 1) := by decide +kernel
theorem dX11_init_104 : decode cX11_init 104 = .ok (.new 50, 3) := by decide +kernel
theorem dX11_init_107 : decode cX11_init 107 = .ok (.dup, 1) := by decide +kernel
theorem dX11_init_108 : decode cX11_init 108 = .ok (.invokespecial 52, 3) := by decide +kernel
theorem dX11_init_111 : decode cX11_init 111 = .ok (.putfield 53, 3) := by decide +kernel
theorem dX11_init_114 : decode cX11_init 114 = .ok (.aload_n 0, 1) := by decide +kernel
theorem dX11_init_115 : decode cX11_init 115 = .ok (.new 57, 3) := by decide +kernel
theorem dX11_init_118 : decode cX11_init 118 = .ok (.dup, 1) := by decide +kernel
theorem dX11_init_119 : decode cX11_init 119 = .ok (.invokespecial 59, 3) := by decide +kernel
theorem dX11_init_122 : decode cX11_init 122 = .ok (.putfield 60, 3) := by decide +kernel
theorem dX11_init_125 : decode cX11_init 125 = .ok (.aload_n 0, 1) := by decide +kernel
theorem dX11_init_126 : decode cX11_init 126 = .ok (.new 64, 3) := by decide +kernel
theorem dX11_init_129 : decode cX11_init 129 = .ok (.dup, 1) := by decide +kernel
theorem dX11_init_130 : decode cX11_init 130 = .ok (.invokespecial 66, 3) := by decide +kernel
theorem dX11_init_133 : decode cX11_init 133 = .ok (.putfield 67, 3) := by decide +kernel
theorem dX11_init_136 : decode cX11_init 136 = .ok (.aload_n 0, 1) := by decide +kernel
theorem dX11_init_137 : decode cX11_init 137 = .ok (.new 64, 3) := by decide +kernel
theorem dX11_init_140 : decode cX11_init 140 = .ok (.dup, 1) := by decide +kernel
theorem dX11_init_141 : decode cX11_init 141 = .ok (.invokespecial 66, 3) := by decide +kernel
theorem dX11_init_144 : decode cX11_init 144 = .ok (.putfield 71, 3) := by decide +kernel
theorem dX11_init_147 : decode cX11_init 147 = .ok (.aload_n 0, 1) := by decide +kernel
theorem dX11_init_148 : decode cX11_init 148 = .ok (.new 74, 3) := by decide +kernel
theorem dX11_init_151 : decode cX11_init 151 = .ok (.dup, 1) := by decide +kernel
theorem dX11_init_152 : decode cX11_init 152 = .ok (.invokespecial 76, 3) := by decide +kernel
theorem dX11_init_155 : decode cX11_init 155 = .ok (.putfield 77, 3) := by decide +kernel
theorem dX11_init_158 : decode cX11_init 158 = .ok (.aload_n 0, 1) := by decide +kernel
theorem dX11_init_159 : decode cX11_init 159 = .ok (.new 81, 3) := by decide +kernel
theorem dX11_init_162 : decode cX11_init 162 = .ok (.dup, 1) := by decide +kernel
theorem dX11_init_163 : decode cX11_init 163 = .ok (.invokespecial 83, 3) := by decide +kernel
theorem dX11_init_166 : decode cX11_init 166 = .ok (.putfield 84, 3) := by decide +kernel
theorem dX11_init_169 : decode cX11_init 169 = .ok (.return_, 1) := by decide +kernel
theorem dX11_child_0 : decode cX11_child 0 = .ok (.aload_n 0, 1) := by decide +kernel
theorem dX11_child_1 : decode cX11_child 1 = .ok (.getfield 10, 3) := by decide +kernel
theorem dX11_child_4 : decode cX11_child 4 = .ok (.iload_n 1, 1) := by decide +kernel
theorem dX11_child_5 : decode cX11_child 5 = .ok (.bipush 10, 2) := by decide +kernel
theorem dX11_child_7 : decode cX11_child 7 = .ok (.idiv, 1) := by decide +kernel
theorem dX11_child_8 : decode cX11_child 8 = .ok (.iload_n 1, 1) := by decide +kernel
theorem dX11_child_9 : decode cX11_child 9 = .ok (.bipush 10, 2) := by decide +kernel
theorem dX11_child_11 : decode cX11_child 11 = .ok (.irem, 1) := by decide +kernel
theorem dX11_child_12 : decode cX11_child 12 = .ok (.iload_n 2, 1) := by decide +kernel
theorem dX11_child_13 : decode cX11_child 13 = .ok (.invokevirtual 88, 3) := by decide +kernel
theorem dX11_child_16 : decode cX11_child 16 = .ok (.ireturn, 1) := by decide +kernel
theorem dX11_children_0 : decode cX11_children 0 = .ok (.aload_n 0, 1) := by decide +kernel
theorem dX11_children_1 : decode cX11_children 1 = .ok (.getfield 84, 3) := by decide +kernel
theorem dX11_children_4 : decode cX11_children 4 = .ok (.iload_n 1, 1) := by decide +kernel
theorem dX11_children_5 : decode cX11_children 5 = .ok (.invokevirtual 92, 3) := by decide +kernel
theorem dX11_children_8 : decode cX11_children 8 = .ok (.ifCond .eq 14, 3) := by decide +kernel
theorem dX11_children_11 : decode cX11_children 11 = .ok (.iload_n 3, 1) := by decide +kernel
theorem dX11_children_12 : decode cX11_children 12 = .ok (.iconst 1, 1) := by decide +kernel
theorem dX11_children_13 : decode cX11_children 13 = .ok (.if_icmp .lt 9, 3) := by decide +kernel
theorem dX11_children_16 : decode cX11_children 16 = .ok (.iload_n 3, 1) := by decide +kernel
theorem dX11_children_17 : decode cX11_children 17 = .ok (.bipush 9, 2) := by decide +kernel
theorem dX11_children_19 : decode cX11_children 19 = .ok (.if_icmp .le 5, 3) := by decide +kernel
theorem dX11_children_22 : decode cX11_children 22 = .ok (.iconst (-1), 1) := by decide +kernel
theorem dX11_children_23 : decode cX11_children 23 = .ok (.ireturn, 1) := by decide +kernel
theorem dX11_children_24 : decode cX11_children 24 = .ok (.aload_n 0, 1) := by decide +kernel
theorem dX11_children_25 : decode cX11_children 25 = .ok (.getfield 84, 3) := by decide +kernel
theorem dX11_children_28 : decode cX11_children 28 = .ok (.iload_n 1, 1) := by decide +kernel
theorem dX11_children_29 : decode cX11_children 29 = .ok (.invokevirtual 96, 3) := by decide +kernel
theorem dX11_children_32 : decode cX11_children 32 = .ok (.istore 4, 2) := by decide +kernel
theorem dX11_children_34 : decode cX11_children 34 = .ok (.iload 4, 2) := by decide +kernel
theorem dX11_children_36 : decode cX11_children 36 = .ok (.bipush (-11), 2) := by decide +kernel
theorem dX11_children_38 : decode cX11_children 38 = .ok (.if_icmp .ne 5, 3) := by decide +kernel
theorem dX11_children_41 : decode cX11_children 41 = .ok (.iconst 0, 1) := by decide +kernel
theorem dX11_children_42 : decode cX11_children 42 = .ok (.ireturn, 1) := by decide +kernel
theorem dX11_children_43 : decode cX11_children 43 = .ok (.iload 4, 2) := by decide +kernel
theorem dX11_children_45 : decode cX11_children 45 = .ok (.ifCond .eq 6, 3) := by decide +kernel
theorem dX11_children_48 : decode cX11_children 48 = .ok (.iload 4, 2) := by decide +kernel
theorem dX11_children_50 : decode cX11_children 50 = .ok (.ireturn, 1) := by decide +kernel
theorem dX11_children_51 : decode cX11_children 51 = .ok (.iconst 0, 1) := by decide +kernel
theorem dX11_children_52 : decode cX11_children 52 = .ok (.istore 5, 2) := by decide +kernel
theorem dX11_children_54 : decode cX11_children 54 = .ok (.iload_n 2, 1) := by decide +kernel
theorem dX11_children_55 : decode cX11_children 55 = .ok (.istore 6, 2) := by decide +kernel
theorem dX11_children_57 : decode cX11_children 57 = .ok (.iload 5, 2) := by decide +kernel
theorem dX11_children_59 : decode cX11_children 59 = .ok (.iload_n 3, 1) := by decide +kernel
theorem dX11_children_60 : decode cX11_children 60 = .ok (.if_icmp .ge 88, 3) := by decide +kernel
theorem dX11_children_63 : decode cX11_children 63 = .ok (.aload_n 0, 1) := by decide +kernel
theorem dX11_children_64 : decode cX11_children 64 = .ok (.getfield 84, 3) := by decide +kernel
theorem dX11_children_67 : decode cX11_children 67 = .ok (.iload_n 1, 1) := by decide +kernel
theorem dX11_children_68 : decode cX11_children 68 = .ok (.iload 6, 2) := by decide +kernel
theorem dX11_children_70 : decode cX11_children 70 = .ok (.iconst 3, 1) := by decide +kernel
theorem dX11_children_71 : decode cX11_children 71 = .ok (.invokevirtual 100, 3) := by decide +kernel
theorem dX11_children_74 : decode cX11_children 74 = .ok (.ifCond .eq 74, 3) := by decide +kernel
theorem dX11_children_77 : decode cX11_children 77 = .ok (.aload_n 0, 1) := by decide +kernel
theorem dX11_children_78 : decode cX11_children 78 = .ok (.getfield 84, 3) := by decide +kernel
theorem dX11_children_81 : decode cX11_children 81 = .ok (.iload_n 1, 1) := by decide +kernel
theorem dX11_children_82 : decode cX11_children 82 = .ok (.iload 6, 2) := by decide +kernel
theorem dX11_children_84 : decode cX11_children 84 = .ok (.invokevirtual 104, 3) := by decide +kernel
theorem dX11_children_87 : decode cX11_children 87 = .ok (.l2i, 1) := by decide +kernel
theorem dX11_children_88 : decode cX11_children 88 = .ok (.istore 7, 2) := by decide +kernel
theorem dX11_children_90 : decode cX11_children 90 = .ok (.aload_n 0, 1) := by decide +kernel
theorem dX11_children_91 : decode cX11_children 91 = .ok (.getfield 84, 3) := by decide +kernel
theorem dX11_children_94 : decode cX11_children 94 = .ok (.iload_n 1, 1) := by decide +kernel
theorem dX11_children_95 : decode cX11_children 95 = .ok (.iload 6, 2) := by decide +kernel
theorem dX11_children_97 : decode cX11_children 97 = .ok (.iconst 1, 1) := by decide +kernel
theorem dX11_children_98 : decode cX11_children 98 = .ok (.iadd, 1) := by decide +kernel
theorem dX11_children_99 : decode cX11_children 99 = .ok (.invokevirtual 104, 3) := by decide +kernel
theorem dX11_children_102 : decode cX11_children 102 = .ok (.l2i, 1) := by decide +kernel
theorem dX11_children_103 : decode cX11_children 103 = .ok (.istore 8, 2) := by decide +kernel
theorem dX11_children_105 : decode cX11_children 105 = .ok (.aload_n 0, 1) := by decide +kernel
theorem dX11_children_106 : decode cX11_children 106 = .ok (.getfield 84, 3) := by decide +kernel
theorem dX11_children_109 : decode cX11_children 109 = .ok (.iload_n 1, 1) := by decide +kernel
theorem dX11_children_110 : decode cX11_children 110 = .ok (.iload 6, 2) := by decide +kernel
theorem dX11_children_112 : decode cX11_children 112 = .ok (.iconst 2, 1) := by decide +kernel
theorem dX11_children_113 : decode cX11_children 113 = .ok (.iadd, 1) := by decide +kernel
theorem dX11_children_114 : decode cX11_children 114 = .ok (.invokevirtual 104, 3) := by decide +kernel
theorem dX11_children_117 : decode cX11_children 117 = .ok (.l2i, 1) := by decide +kernel
theorem dX11_children_118 : decode cX11_children 118 = .ok (.istore 9, 2) := by decide +kernel
theorem dX11_children_120 : decode cX11_children 120 = .ok (.aload_n 0, 1) := by decide +kernel
theorem dX11_children_121 : decode cX11_children 121 = .ok (.getfield 10, 3) := by decide +kernel
theorem dX11_children_124 : decode cX11_children 124 = .ok (.iload 7, 2) := by decide +kernel
theorem dX11_children_126 : decode cX11_children 126 = .ok (.iload 8, 2) := by decide +kernel
theorem dX11_children_128 : decode cX11_children 128 = .ok (.iload 9, 2) := by decide +kernel
theorem dX11_children_130 : decode cX11_children 130 = .ok (.invokevirtual 88, 3) := by decide +kernel
theorem dX11_children_133 : decode cX11_children 133 = .ok (.ifCond .ge 6, 3) := by decide +kernel
theorem dX11_children_136 : decode cX11_children 136 = .ok (.goto 12, 3) := by decide +kernel
theorem dX11_children_139 : decode cX11_children 139 = .ok (.iinc 5 1, 3) := by decide +kernel
theorem dX11_children_142 : decode cX11_children 142 = .ok (.iinc 6 3, 3) := by decide +kernel
theorem dX11_children_145 : decode cX11_children 145 = .ok (.goto (-88), 3) := by decide +kernel
theorem dX11_children_148 : decode cX11_children 148 = .ok (.iload 5, 2) := by decide +kernel
theorem dX11_children_150 : decode cX11_children 150 = .ok (.ireturn, 1) := by decide +kernel
theorem dX11_mend_0 : decode cX11_mend 0 = .ok (.aload_n 0, 1) := by decide +kernel
theorem dX11_mend_1 : decode cX11_mend 1 = .ok (.getfield 10, 3) := by decide +kernel
theorem dX11_mend_4 : decode cX11_mend 4 = .ok (.iload_n 1, 1) := by decide +kernel
theorem dX11_mend_5 : decode cX11_mend 5 = .ok (.iload_n 2, 1) := by decide +kernel
theorem dX11_mend_6 : decode cX11_mend 6 = .ok (.invokevirtual 108, 3) := by decide +kernel
theorem dX11_mend_9 : decode cX11_mend 9 = .ok (.istore 4, 2) := by decide +kernel
theorem dX11_mend_11 : decode cX11_mend 11 = .ok (.iload 4, 2) := by decide +kernel
theorem dX11_mend_13 : decode cX11_mend 13 = .ok (.ifCond .lt 16, 3) := by decide +kernel
theorem dX11_mend_16 : decode cX11_mend 16 = .ok (.aload_n 0, 1) := by decide +kernel
theorem dX11_mend_17 : decode cX11_mend 17 = .ok (.getfield 10, 3) := by decide +kernel
theorem dX11_mend_20 : decode cX11_mend 20 = .ok (.iload_n 1, 1) := by decide +kernel
theorem dX11_mend_21 : decode cX11_mend 21 = .ok (.iload_n 2, 1) := by decide +kernel
theorem dX11_mend_22 : decode cX11_mend 22 = .ok (.iload_n 3, 1) := by decide +kernel
theorem dX11_mend_23 : decode cX11_mend 23 = .ok (.invokevirtual 112, 3) := by decide +kernel
theorem dX11_mend_26 : decode cX11_mend 26 = .ok (.ifCond .ne 5, 3) := by decide +kernel
theorem dX11_mend_29 : decode cX11_mend 29 = .ok (.iconst (-1), 1) := by decide +kernel
theorem dX11_mend_30 : decode cX11_mend 30 = .ok (.ireturn, 1) := by decide +kernel
theorem dX11_mend_31 : decode cX11_mend 31 = .ok (.aload_n 0, 1) := by decide +kernel
theorem dX11_mend_32 : decode cX11_mend 32 = .ok (.getfield 10, 3) := by decide +kernel
theorem dX11_mend_35 : decode cX11_mend 35 = .ok (.iload 4, 2) := by decide +kernel
theorem dX11_mend_37 : decode cX11_mend 37 = .ok (.invokevirtual 115, 3) := by decide +kernel
theorem dX11_mend_40 : decode cX11_mend 40 = .ok (.istore 5, 2) := by decide +kernel
theorem dX11_mend_42 : decode cX11_mend 42 = .ok (.iload 5, 2) := by decide +kernel
theorem dX11_mend_44 : decode cX11_mend 44 = .ok (.iload_n 3, 1) := by decide +kernel
theorem dX11_mend_45 : decode cX11_mend 45 = .ok (.if_icmp .eq 13, 3) := by decide +kernel
theorem dX11_mend_48 : decode cX11_mend 48 = .ok (.aload_n 0, 1) := by decide +kernel
theorem dX11_mend_49 : decode cX11_mend 49 = .ok (.getfield 21, 3) := by decide +kernel
theorem dX11_mend_52 : decode cX11_mend 52 = .ok (.iload 4, 2) := by decide +kernel
theorem dX11_mend_54 : decode cX11_mend 54 = .ok (.iload_n 3, 1) := by decide +kernel
theorem dX11_mend_55 : decode cX11_mend 55 = .ok (.invokevirtual 118, 3) := by decide +kernel
theorem dX11_mend_58 : decode cX11_mend 58 = .ok (.iload 5, 2) := by decide +kernel
theorem dX11_mend_60 : decode cX11_mend 60 = .ok (.ireturn, 1) := by decide +kernel
theorem dX11_of_0 : decode cX11_of 0 = .ok (.aload_n 0, 1) := by decide +kernel
theorem dX11_of_1 : decode cX11_of 1 = .ok (.getfield 10, 3) := by decide +kernel
theorem dX11_of_4 : decode cX11_of 4 = .ok (.iload_n 1, 1) := by decide +kernel
theorem dX11_of_5 : decode cX11_of 5 = .ok (.iload_n 2, 1) := by decide +kernel
theorem dX11_of_6 : decode cX11_of 6 = .ok (.invokevirtual 108, 3) := by decide +kernel
theorem dX11_of_9 : decode cX11_of 9 = .ok (.istore_n 3, 1) := by decide +kernel
theorem dX11_of_10 : decode cX11_of 10 = .ok (.iload_n 3, 1) := by decide +kernel
theorem dX11_of_11 : decode cX11_of 11 = .ok (.ifCond .ge 7, 3) := by decide +kernel
theorem dX11_of_14 : decode cX11_of 14 = .ok (.iconst (-1), 1) := by decide +kernel
theorem dX11_of_15 : decode cX11_of 15 = .ok (.goto 11, 3) := by decide +kernel
theorem dX11_of_18 : decode cX11_of 18 = .ok (.aload_n 0, 1) := by decide +kernel
theorem dX11_of_19 : decode cX11_of 19 = .ok (.getfield 10, 3) := by decide +kernel
theorem dX11_of_22 : decode cX11_of 22 = .ok (.iload_n 3, 1) := by decide +kernel
theorem dX11_of_23 : decode cX11_of 23 = .ok (.invokevirtual 115, 3) := by decide +kernel
theorem dX11_of_26 : decode cX11_of 26 = .ok (.ireturn, 1) := by decide +kernel
theorem dX11_feed_0 : decode cX11_feed 0 = .ok (.iload_n 1, 1) := by decide +kernel
theorem dX11_feed_1 : decode cX11_feed 1 = .ok (.ifCond .lt 10, 3) := by decide +kernel
theorem dX11_feed_4 : decode cX11_feed 4 = .ok (.iload_n 1, 1) := by decide +kernel
theorem dX11_feed_5 : decode cX11_feed 5 = .ok (.sipush 255, 3) := by decide +kernel
theorem dX11_feed_8 : decode cX11_feed 8 = .ok (.if_icmp .le 5, 3) := by decide +kernel
theorem dX11_feed_11 : decode cX11_feed 11 = .ok (.iconst (-1), 1) := by decide +kernel
theorem dX11_feed_12 : decode cX11_feed 12 = .ok (.ireturn, 1) := by decide +kernel
theorem dX11_feed_13 : decode cX11_feed 13 = .ok (.aload_n 0, 1) := by decide +kernel
theorem dX11_feed_14 : decode cX11_feed 14 = .ok (.getfield 28, 3) := by decide +kernel
theorem dX11_feed_17 : decode cX11_feed 17 = .ok (.iload_n 1, 1) := by decide +kernel
theorem dX11_feed_18 : decode cX11_feed 18 = .ok (.invokevirtual 122, 3) := by decide +kernel
theorem dX11_feed_21 : decode cX11_feed 21 = .ok (.ireturn, 1) := by decide +kernel
theorem dX11_law_0 : decode cX11_law 0 = .ok (.aload_n 0, 1) := by decide +kernel
theorem dX11_law_1 : decode cX11_law 1 = .ok (.getfield 28, 3) := by decide +kernel
theorem dX11_law_4 : decode cX11_law 4 = .ok (.invokevirtual 125, 3) := by decide +kernel
theorem dX11_law_7 : decode cX11_law 7 = .ok (.ireturn, 1) := by decide +kernel
theorem dX11_turn_0 : decode cX11_turn 0 = .ok (.aload_n 0, 1) := by decide +kernel
theorem dX11_turn_1 : decode cX11_turn 1 = .ok (.iload_n 1, 1) := by decide +kernel
theorem dX11_turn_2 : decode cX11_turn 2 = .ok (.iload_n 2, 1) := by decide +kernel
theorem dX11_turn_3 : decode cX11_turn 3 = .ok (.invokevirtual 129, 3) := by decide +kernel
theorem dX11_turn_6 : decode cX11_turn 6 = .ok (.ifCond .eq 12, 3) := by decide +kernel
theorem dX11_turn_9 : decode cX11_turn 9 = .ok (.iload_n 3, 1) := by decide +kernel
theorem dX11_turn_10 : decode cX11_turn 10 = .ok (.ifCond .lt 8, 3) := by decide +kernel
theorem dX11_turn_13 : decode cX11_turn 13 = .ok (.iload_n 3, 1) := by decide +kernel
theorem dX11_turn_14 : decode cX11_turn 14 = .ok (.iconst 3, 1) := by decide +kernel
theorem dX11_turn_15 : decode cX11_turn 15 = .ok (.if_icmp .le 5, 3) := by decide +kernel
theorem dX11_turn_18 : decode cX11_turn 18 = .ok (.iconst (-1), 1) := by decide +kernel
theorem dX11_turn_19 : decode cX11_turn 19 = .ok (.ireturn, 1) := by decide +kernel
theorem dX11_turn_20 : decode cX11_turn 20 = .ok (.aload_n 0, 1) := by decide +kernel
theorem dX11_turn_21 : decode cX11_turn 21 = .ok (.getfield 37, 3) := by decide +kernel
theorem dX11_turn_24 : decode cX11_turn 24 = .ok (.iload_n 1, 1) := by decide +kernel
theorem dX11_turn_25 : decode cX11_turn 25 = .ok (.invokestatic 133, 3) := by decide +kernel
theorem dX11_turn_28 : decode cX11_turn 28 = .ok (.iload_n 1, 1) := by decide +kernel
theorem dX11_turn_29 : decode cX11_turn 29 = .ok (.invokestatic 136, 3) := by decide +kernel
theorem dX11_turn_32 : decode cX11_turn 32 = .ok (.iload_n 1, 1) := by decide +kernel
theorem dX11_turn_33 : decode cX11_turn 33 = .ok (.bipush 10, 2) := by decide +kernel
theorem dX11_turn_35 : decode cX11_turn 35 = .ok (.irem, 1) := by decide +kernel
theorem dX11_turn_36 : decode cX11_turn 36 = .ok (.iload_n 2, 1) := by decide +kernel
theorem dX11_turn_37 : decode cX11_turn 37 = .ok (.invokevirtual 139, 3) := by decide +kernel
theorem dX11_turn_40 : decode cX11_turn 40 = .ok (.astore 4, 2) := by decide +kernel
theorem dX11_turn_42 : decode cX11_turn 42 = .ok (.iload_n 3, 1) := by decide +kernel
theorem dX11_turn_43 : decode cX11_turn 43 = .ok (.tableswitch 43 0 2 #[25, 31, 37], 25) := by decide +kernel
theorem dX11_turn_68 : decode cX11_turn 68 = .ok (.aload 4, 2) := by decide +kernel
theorem dX11_turn_70 : decode cX11_turn 70 = .ok (.getfield 143, 3) := by decide +kernel
theorem dX11_turn_73 : decode cX11_turn 73 = .ok (.ireturn, 1) := by decide +kernel
theorem dX11_turn_74 : decode cX11_turn 74 = .ok (.aload 4, 2) := by decide +kernel
theorem dX11_turn_76 : decode cX11_turn 76 = .ok (.getfield 149, 3) := by decide +kernel
theorem dX11_turn_79 : decode cX11_turn 79 = .ok (.ireturn, 1) := by decide +kernel
theorem dX11_turn_80 : decode cX11_turn 80 = .ok (.aload 4, 2) := by decide +kernel
theorem dX11_turn_82 : decode cX11_turn 82 = .ok (.getfield 152, 3) := by decide +kernel
theorem dX11_turn_85 : decode cX11_turn 85 = .ok (.ireturn, 1) := by decide +kernel
theorem dX11_turn_86 : decode cX11_turn 86 = .ok (.aload_n 0, 1) := by decide +kernel
theorem dX11_turn_87 : decode cX11_turn 87 = .ok (.getfield 37, 3) := by decide +kernel
theorem dX11_turn_90 : decode cX11_turn 90 = .ok (.aload 4, 2) := by decide +kernel
theorem dX11_turn_92 : decode cX11_turn 92 = .ok (.invokevirtual 155, 3) := by decide +kernel
theorem dX11_turn_95 : decode cX11_turn 95 = .ok (.ireturn, 1) := by decide +kernel
theorem dX11_longest_0 : decode cX11_longest 0 = .ok (.aload_n 0, 1) := by decide +kernel
theorem dX11_longest_1 : decode cX11_longest 1 = .ok (.iload_n 1, 1) := by decide +kernel
theorem dX11_longest_2 : decode cX11_longest 2 = .ok (.iload_n 2, 1) := by decide +kernel
theorem dX11_longest_3 : decode cX11_longest 3 = .ok (.invokevirtual 129, 3) := by decide +kernel
theorem dX11_longest_6 : decode cX11_longest 6 = .ok (.ifCond .ne 5, 3) := by decide +kernel
theorem dX11_longest_9 : decode cX11_longest 9 = .ok (.iconst (-1), 1) := by decide +kernel
theorem dX11_longest_10 : decode cX11_longest 10 = .ok (.ireturn, 1) := by decide +kernel
theorem dX11_longest_11 : decode cX11_longest 11 = .ok (.aload_n 0, 1) := by decide +kernel
theorem dX11_longest_12 : decode cX11_longest 12 = .ok (.getfield 10, 3) := by decide +kernel
theorem dX11_longest_15 : decode cX11_longest 15 = .ok (.iload_n 1, 1) := by decide +kernel
theorem dX11_longest_16 : decode cX11_longest 16 = .ok (.invokestatic 136, 3) := by decide +kernel
theorem dX11_longest_19 : decode cX11_longest 19 = .ok (.iconst 2, 1) := by decide +kernel
theorem dX11_longest_20 : decode cX11_longest 20 = .ok (.invokevirtual 108, 3) := by decide +kernel
theorem dX11_longest_23 : decode cX11_longest 23 = .ok (.istore_n 3, 1) := by decide +kernel
theorem dX11_longest_24 : decode cX11_longest 24 = .ok (.aload_n 0, 1) := by decide +kernel
theorem dX11_longest_25 : decode cX11_longest 25 = .ok (.getfield 10, 3) := by decide +kernel
theorem dX11_longest_28 : decode cX11_longest 28 = .ok (.iload_n 3, 1) := by decide +kernel
theorem dX11_longest_29 : decode cX11_longest 29 = .ok (.invokevirtual 115, 3) := by decide +kernel
theorem dX11_longest_32 : decode cX11_longest 32 = .ok (.istore 4, 2) := by decide +kernel
theorem dX11_longest_34 : decode cX11_longest 34 = .ok (.iconst 0, 1) := by decide +kernel
theorem dX11_longest_35 : decode cX11_longest 35 = .ok (.istore 5, 2) := by decide +kernel
theorem dX11_longest_37 : decode cX11_longest 37 = .ok (.iconst (-1), 1) := by decide +kernel
theorem dX11_longest_38 : decode cX11_longest 38 = .ok (.istore 6, 2) := by decide +kernel
theorem dX11_longest_40 : decode cX11_longest 40 = .ok (.iconst 0, 1) := by decide +kernel
theorem dX11_longest_41 : decode cX11_longest 41 = .ok (.istore 7, 2) := by decide +kernel
theorem dX11_longest_43 : decode cX11_longest 43 = .ok (.iload 7, 2) := by decide +kernel
theorem dX11_longest_45 : decode cX11_longest 45 = .ok (.bipush 9, 2) := by decide +kernel
theorem dX11_longest_47 : decode cX11_longest 47 = .ok (.if_icmp .gt 59, 3) := by decide +kernel
theorem dX11_longest_50 : decode cX11_longest 50 = .ok (.aload_n 0, 1) := by decide +kernel
theorem dX11_longest_51 : decode cX11_longest 51 = .ok (.getfield 10, 3) := by decide +kernel
theorem dX11_longest_54 : decode cX11_longest 54 = .ok (.iload_n 3, 1) := by decide +kernel
theorem dX11_longest_55 : decode cX11_longest 55 = .ok (.iload 7, 2) := by decide +kernel
theorem dX11_longest_57 : decode cX11_longest 57 = .ok (.invokevirtual 159, 3) := by decide +kernel
theorem dX11_longest_60 : decode cX11_longest 60 = .ok (.aload_n 0, 1) := by decide +kernel
theorem dX11_longest_61 : decode cX11_longest 61 = .ok (.getfield 37, 3) := by decide +kernel
theorem dX11_longest_64 : decode cX11_longest 64 = .ok (.iload_n 1, 1) := by decide +kernel
theorem dX11_longest_65 : decode cX11_longest 65 = .ok (.invokestatic 133, 3) := by decide +kernel
theorem dX11_longest_68 : decode cX11_longest 68 = .ok (.iload_n 1, 1) := by decide +kernel
theorem dX11_longest_69 : decode cX11_longest 69 = .ok (.invokestatic 136, 3) := by decide +kernel
theorem dX11_longest_72 : decode cX11_longest 72 = .ok (.iload_n 1, 1) := by decide +kernel
theorem dX11_longest_73 : decode cX11_longest 73 = .ok (.bipush 10, 2) := by decide +kernel
theorem dX11_longest_75 : decode cX11_longest 75 = .ok (.irem, 1) := by decide +kernel
theorem dX11_longest_76 : decode cX11_longest 76 = .ok (.iload_n 2, 1) := by decide +kernel
theorem dX11_longest_77 : decode cX11_longest 77 = .ok (.invokevirtual 139, 3) := by decide +kernel
theorem dX11_longest_80 : decode cX11_longest 80 = .ok (.getfield 149, 3) := by decide +kernel
theorem dX11_longest_83 : decode cX11_longest 83 = .ok (.istore 8, 2) := by decide +kernel
theorem dX11_longest_85 : decode cX11_longest 85 = .ok (.iload 8, 2) := by decide +kernel
theorem dX11_longest_87 : decode cX11_longest 87 = .ok (.iload 6, 2) := by decide +kernel
theorem dX11_longest_89 : decode cX11_longest 89 = .ok (.if_icmp .le 11, 3) := by decide +kernel
theorem dX11_longest_92 : decode cX11_longest 92 = .ok (.iload 8, 2) := by decide +kernel
theorem dX11_longest_94 : decode cX11_longest 94 = .ok (.istore 6, 2) := by decide +kernel
theorem dX11_longest_96 : decode cX11_longest 96 = .ok (.iload 7, 2) := by decide +kernel
theorem dX11_longest_98 : decode cX11_longest 98 = .ok (.istore 5, 2) := by decide +kernel
theorem dX11_longest_100 : decode cX11_longest 100 = .ok (.iinc 7 1, 3) := by decide +kernel
theorem dX11_longest_103 : decode cX11_longest 103 = .ok (.goto (-60), 3) := by decide +kernel
theorem dX11_longest_106 : decode cX11_longest 106 = .ok (.aload_n 0, 1) := by decide +kernel
theorem dX11_longest_107 : decode cX11_longest 107 = .ok (.getfield 10, 3) := by decide +kernel
theorem dX11_longest_110 : decode cX11_longest 110 = .ok (.iload_n 3, 1) := by decide +kernel
theorem dX11_longest_111 : decode cX11_longest 111 = .ok (.iload 4, 2) := by decide +kernel
theorem dX11_longest_113 : decode cX11_longest 113 = .ok (.invokevirtual 159, 3) := by decide +kernel
theorem dX11_longest_116 : decode cX11_longest 116 = .ok (.iload 5, 2) := by decide +kernel
theorem dX11_longest_118 : decode cX11_longest 118 = .ok (.ireturn, 1) := by decide +kernel
theorem dX11_counter_0 : decode cX11_counter 0 = .ok (.aload_n 0, 1) := by decide +kernel
theorem dX11_counter_1 : decode cX11_counter 1 = .ok (.iload_n 1, 1) := by decide +kernel
theorem dX11_counter_2 : decode cX11_counter 2 = .ok (.iload_n 2, 1) := by decide +kernel
theorem dX11_counter_3 : decode cX11_counter 3 = .ok (.invokevirtual 129, 3) := by decide +kernel
theorem dX11_counter_6 : decode cX11_counter 6 = .ok (.ifCond .ne 5, 3) := by decide +kernel
theorem dX11_counter_9 : decode cX11_counter 9 = .ok (.iconst (-1), 1) := by decide +kernel
theorem dX11_counter_10 : decode cX11_counter 10 = .ok (.ireturn, 1) := by decide +kernel
theorem dX11_counter_11 : decode cX11_counter 11 = .ok (.bipush 9, 2) := by decide +kernel
theorem dX11_counter_13 : decode cX11_counter 13 = .ok (.istore_n 3, 1) := by decide +kernel
theorem dX11_counter_14 : decode cX11_counter 14 = .ok (.iconst (-1), 1) := by decide +kernel
theorem dX11_counter_15 : decode cX11_counter 15 = .ok (.istore 4, 2) := by decide +kernel
theorem dX11_counter_17 : decode cX11_counter 17 = .ok (.iconst 0, 1) := by decide +kernel
theorem dX11_counter_18 : decode cX11_counter 18 = .ok (.istore 5, 2) := by decide +kernel
theorem dX11_counter_20 : decode cX11_counter 20 = .ok (.iload 5, 2) := by decide +kernel
theorem dX11_counter_22 : decode cX11_counter 22 = .ok (.bipush 9, 2) := by decide +kernel
theorem dX11_counter_24 : decode cX11_counter 24 = .ok (.if_icmp .gt 65, 3) := by decide +kernel
theorem dX11_counter_27 : decode cX11_counter 27 = .ok (.aload_n 0, 1) := by decide +kernel
theorem dX11_counter_28 : decode cX11_counter 28 = .ok (.getfield 10, 3) := by decide +kernel
theorem dX11_counter_31 : decode cX11_counter 31 = .ok (.iload 5, 2) := by decide +kernel
theorem dX11_counter_33 : decode cX11_counter 33 = .ok (.iload_n 1, 1) := by decide +kernel
theorem dX11_counter_34 : decode cX11_counter 34 = .ok (.invokestatic 136, 3) := by decide +kernel
theorem dX11_counter_37 : decode cX11_counter 37 = .ok (.invokevirtual 162, 3) := by decide +kernel
theorem dX11_counter_40 : decode cX11_counter 40 = .ok (.ifCond .ne 6, 3) := by decide +kernel
theorem dX11_counter_43 : decode cX11_counter 43 = .ok (.goto 40, 3) := by decide +kernel
theorem dX11_counter_46 : decode cX11_counter 46 = .ok (.aload_n 0, 1) := by decide +kernel
theorem dX11_counter_47 : decode cX11_counter 47 = .ok (.getfield 37, 3) := by decide +kernel
theorem dX11_counter_50 : decode cX11_counter 50 = .ok (.iload_n 1, 1) := by decide +kernel
theorem dX11_counter_51 : decode cX11_counter 51 = .ok (.invokestatic 133, 3) := by decide +kernel
theorem dX11_counter_54 : decode cX11_counter 54 = .ok (.iload_n 1, 1) := by decide +kernel
theorem dX11_counter_55 : decode cX11_counter 55 = .ok (.invokestatic 136, 3) := by decide +kernel
theorem dX11_counter_58 : decode cX11_counter 58 = .ok (.iload 5, 2) := by decide +kernel
theorem dX11_counter_60 : decode cX11_counter 60 = .ok (.iload_n 2, 1) := by decide +kernel
theorem dX11_counter_61 : decode cX11_counter 61 = .ok (.invokevirtual 139, 3) := by decide +kernel
theorem dX11_counter_64 : decode cX11_counter 64 = .ok (.getfield 149, 3) := by decide +kernel
theorem dX11_counter_67 : decode cX11_counter 67 = .ok (.istore 6, 2) := by decide +kernel
theorem dX11_counter_69 : decode cX11_counter 69 = .ok (.iload 6, 2) := by decide +kernel
theorem dX11_counter_71 : decode cX11_counter 71 = .ok (.iload 4, 2) := by decide +kernel
theorem dX11_counter_73 : decode cX11_counter 73 = .ok (.if_icmp .le 10, 3) := by decide +kernel
theorem dX11_counter_76 : decode cX11_counter 76 = .ok (.iload 6, 2) := by decide +kernel
theorem dX11_counter_78 : decode cX11_counter 78 = .ok (.istore 4, 2) := by decide +kernel
theorem dX11_counter_80 : decode cX11_counter 80 = .ok (.iload 5, 2) := by decide +kernel
theorem dX11_counter_82 : decode cX11_counter 82 = .ok (.istore_n 3, 1) := by decide +kernel
theorem dX11_counter_83 : decode cX11_counter 83 = .ok (.iinc 5 1, 3) := by decide +kernel
theorem dX11_counter_86 : decode cX11_counter 86 = .ok (.goto (-66), 3) := by decide +kernel
theorem dX11_counter_89 : decode cX11_counter 89 = .ok (.iload_n 3, 1) := by decide +kernel
theorem dX11_counter_90 : decode cX11_counter 90 = .ok (.ireturn, 1) := by decide +kernel
theorem dX11_unfair_0 : decode cX11_unfair 0 = .ok (.aload_n 0, 1) := by decide +kernel
theorem dX11_unfair_1 : decode cX11_unfair 1 = .ok (.iload_n 1, 1) := by decide +kernel
theorem dX11_unfair_2 : decode cX11_unfair 2 = .ok (.iload_n 2, 1) := by decide +kernel
theorem dX11_unfair_3 : decode cX11_unfair 3 = .ok (.invokevirtual 129, 3) := by decide +kernel
theorem dX11_unfair_6 : decode cX11_unfair 6 = .ok (.ifCond .ne 6, 3) := by decide +kernel
theorem dX11_unfair_9 : decode cX11_unfair 9 = .ok (.ldc 165, 2) := by decide +kernel
theorem dX11_unfair_11 : decode cX11_unfair 11 = .ok (.ireturn, 1) := by decide +kernel
theorem dX11_unfair_12 : decode cX11_unfair 12 = .ok (.aload_n 0, 1) := by decide +kernel
theorem dX11_unfair_13 : decode cX11_unfair 13 = .ok (.getfield 37, 3) := by decide +kernel
theorem dX11_unfair_16 : decode cX11_unfair 16 = .ok (.iload_n 1, 1) := by decide +kernel
theorem dX11_unfair_17 : decode cX11_unfair 17 = .ok (.invokestatic 133, 3) := by decide +kernel
theorem dX11_unfair_20 : decode cX11_unfair 20 = .ok (.iload_n 1, 1) := by decide +kernel
theorem dX11_unfair_21 : decode cX11_unfair 21 = .ok (.invokestatic 136, 3) := by decide +kernel
theorem dX11_unfair_24 : decode cX11_unfair 24 = .ok (.iload_n 1, 1) := by decide +kernel
theorem dX11_unfair_25 : decode cX11_unfair 25 = .ok (.bipush 10, 2) := by decide +kernel
theorem dX11_unfair_27 : decode cX11_unfair 27 = .ok (.irem, 1) := by decide +kernel
theorem dX11_unfair_28 : decode cX11_unfair 28 = .ok (.iload_n 2, 1) := by decide +kernel
theorem dX11_unfair_29 : decode cX11_unfair 29 = .ok (.invokevirtual 139, 3) := by decide +kernel
theorem dX11_unfair_32 : decode cX11_unfair 32 = .ok (.getfield 143, 3) := by decide +kernel
theorem dX11_unfair_35 : decode cX11_unfair 35 = .ok (.aload_n 0, 1) := by decide +kernel
theorem dX11_unfair_36 : decode cX11_unfair 36 = .ok (.getfield 10, 3) := by decide +kernel
theorem dX11_unfair_39 : decode cX11_unfair 39 = .ok (.iconst 0, 1) := by decide +kernel
theorem dX11_unfair_40 : decode cX11_unfair 40 = .ok (.bipush 8, 2) := by decide +kernel
theorem dX11_unfair_42 : decode cX11_unfair 42 = .ok (.invokevirtual 166, 3) := by decide +kernel
theorem dX11_unfair_45 : decode cX11_unfair 45 = .ok (.isub, 1) := by decide +kernel
theorem dX11_unfair_46 : decode cX11_unfair 46 = .ok (.ireturn, 1) := by decide +kernel
theorem dX11_afternoon_0 : decode cX11_afternoon 0 = .ok (.iload_n 1, 1) := by decide +kernel
theorem dX11_afternoon_1 : decode cX11_afternoon 1 = .ok (.invokestatic 169, 3) := by decide +kernel
theorem dX11_afternoon_4 : decode cX11_afternoon 4 = .ok (.ifCond .eq 23, 3) := by decide +kernel
theorem dX11_afternoon_7 : decode cX11_afternoon 7 = .ok (.aload_n 0, 1) := by decide +kernel
theorem dX11_afternoon_8 : decode cX11_afternoon 8 = .ok (.getfield 10, 3) := by decide +kernel
theorem dX11_afternoon_11 : decode cX11_afternoon 11 = .ok (.iload_n 2, 1) := by decide +kernel
theorem dX11_afternoon_12 : decode cX11_afternoon 12 = .ok (.invokevirtual 172, 3) := by decide +kernel
theorem dX11_afternoon_15 : decode cX11_afternoon 15 = .ok (.ifCond .eq 12, 3) := by decide +kernel
theorem dX11_afternoon_18 : decode cX11_afternoon 18 = .ok (.iload_n 3, 1) := by decide +kernel
theorem dX11_afternoon_19 : decode cX11_afternoon 19 = .ok (.ifCond .lt 8, 3) := by decide +kernel
theorem dX11_afternoon_22 : decode cX11_afternoon 22 = .ok (.iload_n 3, 1) := by decide +kernel
theorem dX11_afternoon_23 : decode cX11_afternoon 23 = .ok (.iconst 2, 1) := by decide +kernel
theorem dX11_afternoon_24 : decode cX11_afternoon 24 = .ok (.if_icmp .le 5, 3) := by decide +kernel
theorem dX11_afternoon_27 : decode cX11_afternoon 27 = .ok (.iconst (-1), 1) := by decide +kernel
theorem dX11_afternoon_28 : decode cX11_afternoon 28 = .ok (.ireturn, 1) := by decide +kernel
theorem dX11_afternoon_29 : decode cX11_afternoon 29 = .ok (.aload_n 0, 1) := by decide +kernel
theorem dX11_afternoon_30 : decode cX11_afternoon 30 = .ok (.getfield 10, 3) := by decide +kernel
theorem dX11_afternoon_33 : decode cX11_afternoon 33 = .ok (.iload_n 2, 1) := by decide +kernel
theorem dX11_afternoon_34 : decode cX11_afternoon 34 = .ok (.iconst 5, 1) := by decide +kernel
theorem dX11_afternoon_35 : decode cX11_afternoon 35 = .ok (.invokevirtual 166, 3) := by decide +kernel
theorem dX11_afternoon_38 : decode cX11_afternoon 38 = .ok (.istore 4, 2) := by decide +kernel
theorem dX11_afternoon_40 : decode cX11_afternoon 40 = .ok (.aload_n 0, 1) := by decide +kernel
theorem dX11_afternoon_41 : decode cX11_afternoon 41 = .ok (.getfield 10, 3) := by decide +kernel
theorem dX11_afternoon_44 : decode cX11_afternoon 44 = .ok (.iload 4, 2) := by decide +kernel
theorem dX11_afternoon_46 : decode cX11_afternoon 46 = .ok (.invokevirtual 175, 3) := by decide +kernel
theorem dX11_afternoon_49 : decode cX11_afternoon 49 = .ok (.ifCond .ne 15, 3) := by decide +kernel
theorem dX11_afternoon_52 : decode cX11_afternoon 52 = .ok (.iload_n 3, 1) := by decide +kernel
theorem dX11_afternoon_53 : decode cX11_afternoon 53 = .ok (.iconst 1, 1) := by decide +kernel
theorem dX11_afternoon_54 : decode cX11_afternoon 54 = .ok (.if_icmp .ne 8, 3) := by decide +kernel
theorem dX11_afternoon_57 : decode cX11_afternoon 57 = .ok (.bipush (-2), 2) := by decide +kernel
theorem dX11_afternoon_59 : decode cX11_afternoon 59 = .ok (.goto 4, 3) := by decide +kernel
theorem dX11_afternoon_62 : decode cX11_afternoon 62 = .ok (.iconst 0, 1) := by decide +kernel
theorem dX11_afternoon_63 : decode cX11_afternoon 63 = .ok (.ireturn, 1) := by decide +kernel
theorem dX11_afternoon_64 : decode cX11_afternoon 64 = .ok (.aload_n 0, 1) := by decide +kernel
theorem dX11_afternoon_65 : decode cX11_afternoon 65 = .ok (.getfield 43, 3) := by decide +kernel
theorem dX11_afternoon_68 : decode cX11_afternoon 68 = .ok (.iload 4, 2) := by decide +kernel
theorem dX11_afternoon_70 : decode cX11_afternoon 70 = .ok (.aaload, 1) := by decide +kernel
theorem dX11_afternoon_71 : decode cX11_afternoon 71 = .ok (.astore 5, 2) := by decide +kernel
theorem dX11_afternoon_73 : decode cX11_afternoon 73 = .ok (.aload 5, 2) := by decide +kernel
theorem dX11_afternoon_75 : decode cX11_afternoon 75 = .ok (.invokevirtual 178, 3) := by decide +kernel
theorem dX11_afternoon_78 : decode cX11_afternoon 78 = .ok (.aload 5, 2) := by decide +kernel
theorem dX11_afternoon_80 : decode cX11_afternoon 80 = .ok (.invokevirtual 181, 3) := by decide +kernel
theorem dX11_afternoon_83 : decode cX11_afternoon 83 = .ok (.iload_n 3, 1) := by decide +kernel
theorem dX11_afternoon_84 : decode cX11_afternoon 84 = .ok (.iconst 1, 1) := by decide +kernel
theorem dX11_afternoon_85 : decode cX11_afternoon 85 = .ok (.if_icmp .ne 11, 3) := by decide +kernel
theorem dX11_afternoon_88 : decode cX11_afternoon 88 = .ok (.aload 5, 2) := by decide +kernel
theorem dX11_afternoon_90 : decode cX11_afternoon 90 = .ok (.iload_n 2, 1) := by decide +kernel
theorem dX11_afternoon_91 : decode cX11_afternoon 91 = .ok (.iload_n 1, 1) := by decide +kernel
theorem dX11_afternoon_92 : decode cX11_afternoon 92 = .ok (.invokevirtual 184, 3) := by decide +kernel
theorem dX11_afternoon_95 : decode cX11_afternoon 95 = .ok (.ireturn, 1) := by decide +kernel
theorem dX11_afternoon_96 : decode cX11_afternoon 96 = .ok (.aload 5, 2) := by decide +kernel
theorem dX11_afternoon_98 : decode cX11_afternoon 98 = .ok (.iload_n 1, 1) := by decide +kernel
theorem dX11_afternoon_99 : decode cX11_afternoon 99 = .ok (.aconst_null, 1) := by decide +kernel
theorem dX11_afternoon_100 : decode cX11_afternoon 100 = .ok (.invokevirtual 187, 3) := by decide +kernel
theorem dX11_afternoon_103 : decode cX11_afternoon 103 = .ok (.aload 5, 2) := by decide +kernel
theorem dX11_afternoon_105 : decode cX11_afternoon 105 = .ok (.iload_n 2, 1) := by decide +kernel
theorem dX11_afternoon_106 : decode cX11_afternoon 106 = .ok (.invokevirtual 191, 3) := by decide +kernel
theorem dX11_afternoon_109 : decode cX11_afternoon 109 = .ok (.istore 6, 2) := by decide +kernel
theorem dX11_afternoon_111 : decode cX11_afternoon 111 = .ok (.iload_n 3, 1) := by decide +kernel
theorem dX11_afternoon_112 : decode cX11_afternoon 112 = .ok (.ifCond .ne 8, 3) := by decide +kernel
theorem dX11_afternoon_115 : decode cX11_afternoon 115 = .ok (.iload 6, 2) := by decide +kernel
theorem dX11_afternoon_117 : decode cX11_afternoon 117 = .ok (.goto 12, 3) := by decide +kernel
theorem dX11_afternoon_120 : decode cX11_afternoon 120 = .ok (.iload 6, 2) := by decide +kernel
theorem dX11_afternoon_122 : decode cX11_afternoon 122 = .ok (.aload 5, 2) := by decide +kernel
theorem dX11_afternoon_124 : decode cX11_afternoon 124 = .ok (.iload_n 2, 1) := by decide +kernel
theorem dX11_afternoon_125 : decode cX11_afternoon 125 = .ok (.invokevirtual 194, 3) := by decide +kernel
theorem dX11_afternoon_128 : decode cX11_afternoon 128 = .ok (.imul, 1) := by decide +kernel
theorem dX11_afternoon_129 : decode cX11_afternoon 129 = .ok (.ireturn, 1) := by decide +kernel
theorem dX11_been_0 : decode cX11_been 0 = .ok (.iload_n 1, 1) := by decide +kernel
theorem dX11_been_1 : decode cX11_been 1 = .ok (.invokestatic 169, 3) := by decide +kernel
theorem dX11_been_4 : decode cX11_been 4 = .ok (.ifCond .eq 13, 3) := by decide +kernel
theorem dX11_been_7 : decode cX11_been 7 = .ok (.iload_n 2, 1) := by decide +kernel
theorem dX11_been_8 : decode cX11_been 8 = .ok (.iconst (-1), 1) := by decide +kernel
theorem dX11_been_9 : decode cX11_been 9 = .ok (.if_icmp .lt 8, 3) := by decide +kernel
theorem dX11_been_12 : decode cX11_been 12 = .ok (.iload_n 2, 1) := by decide +kernel
theorem dX11_been_13 : decode cX11_been 13 = .ok (.iconst 3, 1) := by decide +kernel
theorem dX11_been_14 : decode cX11_been 14 = .ok (.if_icmp .lt 5, 3) := by decide +kernel
theorem dX11_been_17 : decode cX11_been 17 = .ok (.iconst (-1), 1) := by decide +kernel
theorem dX11_been_18 : decode cX11_been 18 = .ok (.ireturn, 1) := by decide +kernel
theorem dX11_been_19 : decode cX11_been 19 = .ok (.iconst 0, 1) := by decide +kernel
theorem dX11_been_20 : decode cX11_been 20 = .ok (.istore_n 3, 1) := by decide +kernel
theorem dX11_been_21 : decode cX11_been 21 = .ok (.iload_n 3, 1) := by decide +kernel
theorem dX11_been_22 : decode cX11_been 22 = .ok (.iconst 3, 1) := by decide +kernel
theorem dX11_been_23 : decode cX11_been 23 = .ok (.if_icmp .ge 38, 3) := by decide +kernel
theorem dX11_been_26 : decode cX11_been 26 = .ok (.aload_n 0, 1) := by decide +kernel
theorem dX11_been_27 : decode cX11_been 27 = .ok (.getfield 43, 3) := by decide +kernel
theorem dX11_been_30 : decode cX11_been 30 = .ok (.iload_n 3, 1) := by decide +kernel
theorem dX11_been_31 : decode cX11_been 31 = .ok (.aaload, 1) := by decide +kernel
theorem dX11_been_32 : decode cX11_been 32 = .ok (.invokevirtual 178, 3) := by decide +kernel
theorem dX11_been_35 : decode cX11_been 35 = .ok (.aload_n 0, 1) := by decide +kernel
theorem dX11_been_36 : decode cX11_been 36 = .ok (.getfield 43, 3) := by decide +kernel
theorem dX11_been_39 : decode cX11_been 39 = .ok (.iload_n 3, 1) := by decide +kernel
theorem dX11_been_40 : decode cX11_been 40 = .ok (.aaload, 1) := by decide +kernel
theorem dX11_been_41 : decode cX11_been 41 = .ok (.invokevirtual 181, 3) := by decide +kernel
theorem dX11_been_44 : decode cX11_been 44 = .ok (.aload_n 0, 1) := by decide +kernel
theorem dX11_been_45 : decode cX11_been 45 = .ok (.getfield 43, 3) := by decide +kernel
theorem dX11_been_48 : decode cX11_been 48 = .ok (.iload_n 3, 1) := by decide +kernel
theorem dX11_been_49 : decode cX11_been 49 = .ok (.aaload, 1) := by decide +kernel
theorem dX11_been_50 : decode cX11_been 50 = .ok (.iload_n 1, 1) := by decide +kernel
theorem dX11_been_51 : decode cX11_been 51 = .ok (.aconst_null, 1) := by decide +kernel
theorem dX11_been_52 : decode cX11_been 52 = .ok (.invokevirtual 187, 3) := by decide +kernel
theorem dX11_been_55 : decode cX11_been 55 = .ok (.iinc 3 1, 3) := by decide +kernel
theorem dX11_been_58 : decode cX11_been 58 = .ok (.goto (-37), 3) := by decide +kernel
theorem dX11_been_61 : decode cX11_been 61 = .ok (.iload_n 2, 1) := by decide +kernel
theorem dX11_been_62 : decode cX11_been 62 = .ok (.ifCond .lt 13, 3) := by decide +kernel
theorem dX11_been_65 : decode cX11_been 65 = .ok (.aload_n 0, 1) := by decide +kernel
theorem dX11_been_66 : decode cX11_been 66 = .ok (.getfield 43, 3) := by decide +kernel
theorem dX11_been_69 : decode cX11_been 69 = .ok (.iload_n 2, 1) := by decide +kernel
theorem dX11_been_70 : decode cX11_been 70 = .ok (.aaload, 1) := by decide +kernel
theorem dX11_been_71 : decode cX11_been 71 = .ok (.getfield 197, 3) := by decide +kernel
theorem dX11_been_74 : decode cX11_been 74 = .ok (.ireturn, 1) := by decide +kernel
theorem dX11_been_75 : decode cX11_been 75 = .ok (.iconst 0, 1) := by decide +kernel
theorem dX11_been_76 : decode cX11_been 76 = .ok (.istore_n 3, 1) := by decide +kernel
theorem dX11_been_77 : decode cX11_been 77 = .ok (.iconst 0, 1) := by decide +kernel
theorem dX11_been_78 : decode cX11_been 78 = .ok (.istore 4, 2) := by decide +kernel
theorem dX11_been_80 : decode cX11_been 80 = .ok (.iload 4, 2) := by decide +kernel
theorem dX11_been_82 : decode cX11_been 82 = .ok (.aload_n 0, 1) := by decide +kernel
theorem dX11_been_83 : decode cX11_been 83 = .ok (.getfield 10, 3) := by decide +kernel
theorem dX11_been_86 : decode cX11_been 86 = .ok (.getfield 200, 3) := by decide +kernel
theorem dX11_been_89 : decode cX11_been 89 = .ok (.if_icmp .ge 25, 3) := by decide +kernel
theorem dX11_been_92 : decode cX11_been 92 = .ok (.aload_n 0, 1) := by decide +kernel
theorem dX11_been_93 : decode cX11_been 93 = .ok (.iload 4, 2) := by decide +kernel
theorem dX11_been_95 : decode cX11_been 95 = .ok (.invokevirtual 203, 3) := by decide +kernel
theorem dX11_been_98 : decode cX11_been 98 = .ok (.ifCond .ne 10, 3) := by decide +kernel
theorem dX11_been_101 : decode cX11_been 101 = .ok (.iload_n 3, 1) := by decide +kernel
theorem dX11_been_102 : decode cX11_been 102 = .ok (.iconst 1, 1) := by decide +kernel
theorem dX11_been_103 : decode cX11_been 103 = .ok (.iload 4, 2) := by decide +kernel
theorem dX11_been_105 : decode cX11_been 105 = .ok (.ishl, 1) := by decide +kernel
theorem dX11_been_106 : decode cX11_been 106 = .ok (.ior, 1) := by decide +kernel
theorem dX11_been_107 : decode cX11_been 107 = .ok (.istore_n 3, 1) := by decide +kernel
theorem dX11_been_108 : decode cX11_been 108 = .ok (.iinc 4 1, 3) := by decide +kernel
theorem dX11_been_111 : decode cX11_been 111 = .ok (.goto (-31), 3) := by decide +kernel
theorem dX11_been_114 : decode cX11_been 114 = .ok (.iload_n 3, 1) := by decide +kernel
theorem dX11_been_115 : decode cX11_been 115 = .ok (.ireturn, 1) := by decide +kernel
theorem dX11_join_0 : decode cX11_join 0 = .ok (.iload_n 1, 1) := by decide +kernel
theorem dX11_join_1 : decode cX11_join 1 = .ok (.invokestatic 169, 3) := by decide +kernel
theorem dX11_join_4 : decode cX11_join 4 = .ok (.ifCond .eq 23, 3) := by decide +kernel
theorem dX11_join_7 : decode cX11_join 7 = .ok (.aload_n 0, 1) := by decide +kernel
theorem dX11_join_8 : decode cX11_join 8 = .ok (.getfield 10, 3) := by decide +kernel
theorem dX11_join_11 : decode cX11_join 11 = .ok (.iload_n 2, 1) := by decide +kernel
theorem dX11_join_12 : decode cX11_join 12 = .ok (.invokevirtual 172, 3) := by decide +kernel
theorem dX11_join_15 : decode cX11_join 15 = .ok (.ifCond .eq 12, 3) := by decide +kernel
theorem dX11_join_18 : decode cX11_join 18 = .ok (.iload_n 3, 1) := by decide +kernel
theorem dX11_join_19 : decode cX11_join 19 = .ok (.ifCond .lt 8, 3) := by decide +kernel
theorem dX11_join_22 : decode cX11_join 22 = .ok (.iload_n 3, 1) := by decide +kernel
theorem dX11_join_23 : decode cX11_join 23 = .ok (.iconst 1, 1) := by decide +kernel
theorem dX11_join_24 : decode cX11_join 24 = .ok (.if_icmp .le 5, 3) := by decide +kernel
theorem dX11_join_27 : decode cX11_join 27 = .ok (.iconst (-1), 1) := by decide +kernel
theorem dX11_join_28 : decode cX11_join 28 = .ok (.ireturn, 1) := by decide +kernel
theorem dX11_join_29 : decode cX11_join 29 = .ok (.aload_n 0, 1) := by decide +kernel
theorem dX11_join_30 : decode cX11_join 30 = .ok (.getfield 10, 3) := by decide +kernel
theorem dX11_join_33 : decode cX11_join 33 = .ok (.iload_n 2, 1) := by decide +kernel
theorem dX11_join_34 : decode cX11_join 34 = .ok (.iconst 5, 1) := by decide +kernel
theorem dX11_join_35 : decode cX11_join 35 = .ok (.invokevirtual 108, 3) := by decide +kernel
theorem dX11_join_38 : decode cX11_join 38 = .ok (.istore 4, 2) := by decide +kernel
theorem dX11_join_40 : decode cX11_join 40 = .ok (.aload_n 0, 1) := by decide +kernel
theorem dX11_join_41 : decode cX11_join 41 = .ok (.getfield 10, 3) := by decide +kernel
theorem dX11_join_44 : decode cX11_join 44 = .ok (.iload 4, 2) := by decide +kernel
theorem dX11_join_46 : decode cX11_join 46 = .ok (.invokevirtual 115, 3) := by decide +kernel
theorem dX11_join_49 : decode cX11_join 49 = .ok (.istore 5, 2) := by decide +kernel
theorem dX11_join_51 : decode cX11_join 51 = .ok (.bipush (-2), 2) := by decide +kernel
theorem dX11_join_53 : decode cX11_join 53 = .ok (.istore 6, 2) := by decide +kernel
theorem dX11_join_55 : decode cX11_join 55 = .ok (.bipush (-2), 2) := by decide +kernel
theorem dX11_join_57 : decode cX11_join 57 = .ok (.istore 7, 2) := by decide +kernel
theorem dX11_join_59 : decode cX11_join 59 = .ok (.iconst 0, 1) := by decide +kernel
theorem dX11_join_60 : decode cX11_join 60 = .ok (.istore 8, 2) := by decide +kernel
theorem dX11_join_62 : decode cX11_join 62 = .ok (.iload 8, 2) := by decide +kernel
theorem dX11_join_64 : decode cX11_join 64 = .ok (.iconst 3, 1) := by decide +kernel
theorem dX11_join_65 : decode cX11_join 65 = .ok (.if_icmp .ge 81, 3) := by decide +kernel
theorem dX11_join_68 : decode cX11_join 68 = .ok (.aload_n 0, 1) := by decide +kernel
theorem dX11_join_69 : decode cX11_join 69 = .ok (.getfield 10, 3) := by decide +kernel
theorem dX11_join_72 : decode cX11_join 72 = .ok (.iload 4, 2) := by decide +kernel
theorem dX11_join_74 : decode cX11_join 74 = .ok (.iload 8, 2) := by decide +kernel
theorem dX11_join_76 : decode cX11_join 76 = .ok (.invokevirtual 159, 3) := by decide +kernel
theorem dX11_join_79 : decode cX11_join 79 = .ok (.aload_n 0, 1) := by decide +kernel
theorem dX11_join_80 : decode cX11_join 80 = .ok (.getfield 43, 3) := by decide +kernel
theorem dX11_join_83 : decode cX11_join 83 = .ok (.iload 8, 2) := by decide +kernel
theorem dX11_join_85 : decode cX11_join 85 = .ok (.aaload, 1) := by decide +kernel
theorem dX11_join_86 : decode cX11_join 86 = .ok (.invokevirtual 178, 3) := by decide +kernel
theorem dX11_join_89 : decode cX11_join 89 = .ok (.aload_n 0, 1) := by decide +kernel
theorem dX11_join_90 : decode cX11_join 90 = .ok (.getfield 43, 3) := by decide +kernel
theorem dX11_join_93 : decode cX11_join 93 = .ok (.iload 8, 2) := by decide +kernel
theorem dX11_join_95 : decode cX11_join 95 = .ok (.aaload, 1) := by decide +kernel
theorem dX11_join_96 : decode cX11_join 96 = .ok (.invokevirtual 181, 3) := by decide +kernel
theorem dX11_join_99 : decode cX11_join 99 = .ok (.aload_n 0, 1) := by decide +kernel
theorem dX11_join_100 : decode cX11_join 100 = .ok (.getfield 43, 3) := by decide +kernel
theorem dX11_join_103 : decode cX11_join 103 = .ok (.iload 8, 2) := by decide +kernel
theorem dX11_join_105 : decode cX11_join 105 = .ok (.aaload, 1) := by decide +kernel
theorem dX11_join_106 : decode cX11_join 106 = .ok (.iload_n 2, 1) := by decide +kernel
theorem dX11_join_107 : decode cX11_join 107 = .ok (.iload_n 1, 1) := by decide +kernel
theorem dX11_join_108 : decode cX11_join 108 = .ok (.invokevirtual 184, 3) := by decide +kernel
theorem dX11_join_111 : decode cX11_join 111 = .ok (.istore 9, 2) := by decide +kernel
theorem dX11_join_113 : decode cX11_join 113 = .ok (.iload 9, 2) := by decide +kernel
theorem dX11_join_115 : decode cX11_join 115 = .ok (.ifCond .lt 25, 3) := by decide +kernel
theorem dX11_join_118 : decode cX11_join 118 = .ok (.iload 6, 2) := by decide +kernel
theorem dX11_join_120 : decode cX11_join 120 = .ok (.bipush (-2), 2) := by decide +kernel
theorem dX11_join_122 : decode cX11_join 122 = .ok (.if_icmp .eq 10, 3) := by decide +kernel
theorem dX11_join_125 : decode cX11_join 125 = .ok (.iload 9, 2) := by decide +kernel
theorem dX11_join_127 : decode cX11_join 127 = .ok (.iload 7, 2) := by decide +kernel
theorem dX11_join_129 : decode cX11_join 129 = .ok (.if_icmp .ge 11, 3) := by decide +kernel
theorem dX11_join_132 : decode cX11_join 132 = .ok (.iload 8, 2) := by decide +kernel
theorem dX11_join_134 : decode cX11_join 134 = .ok (.istore 6, 2) := by decide +kernel
theorem dX11_join_136 : decode cX11_join 136 = .ok (.iload 9, 2) := by decide +kernel
theorem dX11_join_138 : decode cX11_join 138 = .ok (.istore 7, 2) := by decide +kernel
theorem dX11_join_140 : decode cX11_join 140 = .ok (.iinc 8 1, 3) := by decide +kernel
theorem dX11_join_143 : decode cX11_join 143 = .ok (.goto (-81), 3) := by decide +kernel
theorem dX11_join_146 : decode cX11_join 146 = .ok (.aload_n 0, 1) := by decide +kernel
theorem dX11_join_147 : decode cX11_join 147 = .ok (.getfield 10, 3) := by decide +kernel
theorem dX11_join_150 : decode cX11_join 150 = .ok (.iload 4, 2) := by decide +kernel
theorem dX11_join_152 : decode cX11_join 152 = .ok (.iload 5, 2) := by decide +kernel
theorem dX11_join_154 : decode cX11_join 154 = .ok (.invokevirtual 159, 3) := by decide +kernel
theorem dX11_join_157 : decode cX11_join 157 = .ok (.iload_n 3, 1) := by decide +kernel
theorem dX11_join_158 : decode cX11_join 158 = .ok (.ifCond .ne 8, 3) := by decide +kernel
theorem dX11_join_161 : decode cX11_join 161 = .ok (.iload 6, 2) := by decide +kernel
theorem dX11_join_163 : decode cX11_join 163 = .ok (.goto 5, 3) := by decide +kernel
theorem dX11_join_166 : decode cX11_join 166 = .ok (.iload 7, 2) := by decide +kernel
theorem dX11_join_168 : decode cX11_join 168 = .ok (.ireturn, 1) := by decide +kernel
theorem dX11_each_0 : decode cX11_each 0 = .ok (.iload_n 1, 1) := by decide +kernel
theorem dX11_each_1 : decode cX11_each 1 = .ok (.invokestatic 169, 3) := by decide +kernel
theorem dX11_each_4 : decode cX11_each 4 = .ok (.ifCond .ne 5, 3) := by decide +kernel
theorem dX11_each_7 : decode cX11_each 7 = .ok (.iconst (-1), 1) := by decide +kernel
theorem dX11_each_8 : decode cX11_each 8 = .ok (.ireturn, 1) := by decide +kernel
theorem dX11_each_9 : decode cX11_each 9 = .ok (.aload_n 0, 1) := by decide +kernel
theorem dX11_each_10 : decode cX11_each 10 = .ok (.getfield 10, 3) := by decide +kernel
theorem dX11_each_13 : decode cX11_each 13 = .ok (.iconst 0, 1) := by decide +kernel
theorem dX11_each_14 : decode cX11_each 14 = .ok (.bipush 8, 2) := by decide +kernel
theorem dX11_each_16 : decode cX11_each 16 = .ok (.invokevirtual 108, 3) := by decide +kernel
theorem dX11_each_19 : decode cX11_each 19 = .ok (.istore_n 2, 1) := by decide +kernel
theorem dX11_each_20 : decode cX11_each 20 = .ok (.aload_n 0, 1) := by decide +kernel
theorem dX11_each_21 : decode cX11_each 21 = .ok (.getfield 10, 3) := by decide +kernel
theorem dX11_each_24 : decode cX11_each 24 = .ok (.iload_n 2, 1) := by decide +kernel
theorem dX11_each_25 : decode cX11_each 25 = .ok (.invokevirtual 115, 3) := by decide +kernel
theorem dX11_each_28 : decode cX11_each 28 = .ok (.istore_n 3, 1) := by decide +kernel
theorem dX11_each_29 : decode cX11_each 29 = .ok (.bipush (-2), 2) := by decide +kernel
theorem dX11_each_31 : decode cX11_each 31 = .ok (.istore 4, 2) := by decide +kernel
theorem dX11_each_33 : decode cX11_each 33 = .ok (.bipush 30, 2) := by decide +kernel
theorem dX11_each_35 : decode cX11_each 35 = .ok (.istore 5, 2) := by decide +kernel
theorem dX11_each_37 : decode cX11_each 37 = .ok (.iload 5, 2) := by decide +kernel
theorem dX11_each_39 : decode cX11_each 39 = .ok (.iconst 1, 1) := by decide +kernel
theorem dX11_each_40 : decode cX11_each 40 = .ok (.if_icmp .lt 96, 3) := by decide +kernel
theorem dX11_each_43 : decode cX11_each 43 = .ok (.iload 4, 2) := by decide +kernel
theorem dX11_each_45 : decode cX11_each 45 = .ok (.bipush (-2), 2) := by decide +kernel
theorem dX11_each_47 : decode cX11_each 47 = .ok (.if_icmp .ne 89, 3) := by decide +kernel
theorem dX11_each_50 : decode cX11_each 50 = .ok (.aload_n 0, 1) := by decide +kernel
theorem dX11_each_51 : decode cX11_each 51 = .ok (.getfield 10, 3) := by decide +kernel
theorem dX11_each_54 : decode cX11_each 54 = .ok (.iload_n 2, 1) := by decide +kernel
theorem dX11_each_55 : decode cX11_each 55 = .ok (.iload 5, 2) := by decide +kernel
theorem dX11_each_57 : decode cX11_each 57 = .ok (.invokevirtual 159, 3) := by decide +kernel
theorem dX11_each_60 : decode cX11_each 60 = .ok (.iconst 1, 1) := by decide +kernel
theorem dX11_each_61 : decode cX11_each 61 = .ok (.istore 6, 2) := by decide +kernel
theorem dX11_each_63 : decode cX11_each 63 = .ok (.iconst 0, 1) := by decide +kernel
theorem dX11_each_64 : decode cX11_each 64 = .ok (.istore 7, 2) := by decide +kernel
theorem dX11_each_66 : decode cX11_each 66 = .ok (.iload 7, 2) := by decide +kernel
theorem dX11_each_68 : decode cX11_each 68 = .ok (.iconst 3, 1) := by decide +kernel
theorem dX11_each_69 : decode cX11_each 69 = .ok (.if_icmp .ge 47, 3) := by decide +kernel
theorem dX11_each_72 : decode cX11_each 72 = .ok (.iload 6, 2) := by decide +kernel
theorem dX11_each_74 : decode cX11_each 74 = .ok (.ifCond .eq 42, 3) := by decide +kernel
theorem dX11_each_77 : decode cX11_each 77 = .ok (.aload_n 0, 1) := by decide +kernel
theorem dX11_each_78 : decode cX11_each 78 = .ok (.getfield 43, 3) := by decide +kernel
theorem dX11_each_81 : decode cX11_each 81 = .ok (.iload 7, 2) := by decide +kernel
theorem dX11_each_83 : decode cX11_each 83 = .ok (.aaload, 1) := by decide +kernel
theorem dX11_each_84 : decode cX11_each 84 = .ok (.invokevirtual 178, 3) := by decide +kernel
theorem dX11_each_87 : decode cX11_each 87 = .ok (.aload_n 0, 1) := by decide +kernel
theorem dX11_each_88 : decode cX11_each 88 = .ok (.getfield 43, 3) := by decide +kernel
theorem dX11_each_91 : decode cX11_each 91 = .ok (.iload 7, 2) := by decide +kernel
theorem dX11_each_93 : decode cX11_each 93 = .ok (.aaload, 1) := by decide +kernel
theorem dX11_each_94 : decode cX11_each 94 = .ok (.invokevirtual 181, 3) := by decide +kernel
theorem dX11_each_97 : decode cX11_each 97 = .ok (.aload_n 0, 1) := by decide +kernel
theorem dX11_each_98 : decode cX11_each 98 = .ok (.getfield 43, 3) := by decide +kernel
theorem dX11_each_101 : decode cX11_each 101 = .ok (.iload 7, 2) := by decide +kernel
theorem dX11_each_103 : decode cX11_each 103 = .ok (.aaload, 1) := by decide +kernel
theorem dX11_each_104 : decode cX11_each 104 = .ok (.iload_n 1, 1) := by decide +kernel
theorem dX11_each_105 : decode cX11_each 105 = .ok (.invokevirtual 206, 3) := by decide +kernel
theorem dX11_each_108 : decode cX11_each 108 = .ok (.istore 6, 2) := by decide +kernel
theorem dX11_each_110 : decode cX11_each 110 = .ok (.iinc 7 1, 3) := by decide +kernel
theorem dX11_each_113 : decode cX11_each 113 = .ok (.goto (-47), 3) := by decide +kernel
theorem dX11_each_116 : decode cX11_each 116 = .ok (.iload 6, 2) := by decide +kernel
theorem dX11_each_118 : decode cX11_each 118 = .ok (.ifCond .eq 8, 3) := by decide +kernel
theorem dX11_each_121 : decode cX11_each 121 = .ok (.iload 5, 2) := by decide +kernel
theorem dX11_each_123 : decode cX11_each 123 = .ok (.goto 5, 3) := by decide +kernel
theorem dX11_each_126 : decode cX11_each 126 = .ok (.bipush (-2), 2) := by decide +kernel
theorem dX11_each_128 : decode cX11_each 128 = .ok (.istore 4, 2) := by decide +kernel
theorem dX11_each_130 : decode cX11_each 130 = .ok (.iinc 5 (-1), 3) := by decide +kernel
theorem dX11_each_133 : decode cX11_each 133 = .ok (.goto (-96), 3) := by decide +kernel
theorem dX11_each_136 : decode cX11_each 136 = .ok (.aload_n 0, 1) := by decide +kernel
theorem dX11_each_137 : decode cX11_each 137 = .ok (.getfield 10, 3) := by decide +kernel
theorem dX11_each_140 : decode cX11_each 140 = .ok (.iload_n 2, 1) := by decide +kernel
theorem dX11_each_141 : decode cX11_each 141 = .ok (.iload_n 3, 1) := by decide +kernel
theorem dX11_each_142 : decode cX11_each 142 = .ok (.invokevirtual 159, 3) := by decide +kernel
theorem dX11_each_145 : decode cX11_each 145 = .ok (.iload 4, 2) := by decide +kernel
theorem dX11_each_147 : decode cX11_each 147 = .ok (.ireturn, 1) := by decide +kernel
theorem dX11_order_0 : decode cX11_order 0 = .ok (.aload_n 0, 1) := by decide +kernel
theorem dX11_order_1 : decode cX11_order 1 = .ok (.getfield 10, 3) := by decide +kernel
theorem dX11_order_4 : decode cX11_order 4 = .ok (.iload_n 1, 1) := by decide +kernel
theorem dX11_order_5 : decode cX11_order 5 = .ok (.invokevirtual 175, 3) := by decide +kernel
theorem dX11_order_8 : decode cX11_order 8 = .ok (.ifCond .eq 8, 3) := by decide +kernel
theorem dX11_order_11 : decode cX11_order 11 = .ok (.iload_n 2, 1) := by decide +kernel
theorem dX11_order_12 : decode cX11_order 12 = .ok (.iconst (-1), 1) := by decide +kernel
theorem dX11_order_13 : decode cX11_order 13 = .ok (.if_icmp .ge 5, 3) := by decide +kernel
theorem dX11_order_16 : decode cX11_order 16 = .ok (.iconst (-1), 1) := by decide +kernel
theorem dX11_order_17 : decode cX11_order 17 = .ok (.ireturn, 1) := by decide +kernel
theorem dX11_order_18 : decode cX11_order 18 = .ok (.aload_n 0, 1) := by decide +kernel
theorem dX11_order_19 : decode cX11_order 19 = .ok (.getfield 43, 3) := by decide +kernel
theorem dX11_order_22 : decode cX11_order 22 = .ok (.iload_n 1, 1) := by decide +kernel
theorem dX11_order_23 : decode cX11_order 23 = .ok (.aaload, 1) := by decide +kernel
theorem dX11_order_24 : decode cX11_order 24 = .ok (.astore_n 3, 1) := by decide +kernel
theorem dX11_order_25 : decode cX11_order 25 = .ok (.aload_n 3, 1) := by decide +kernel
theorem dX11_order_26 : decode cX11_order 26 = .ok (.invokevirtual 178, 3) := by decide +kernel
theorem dX11_order_29 : decode cX11_order 29 = .ok (.iload_n 2, 1) := by decide +kernel
theorem dX11_order_30 : decode cX11_order 30 = .ok (.aload_n 3, 1) := by decide +kernel
theorem dX11_order_31 : decode cX11_order 31 = .ok (.getfield 209, 3) := by decide +kernel
theorem dX11_order_34 : decode cX11_order 34 = .ok (.if_icmp .lt 5, 3) := by decide +kernel
theorem dX11_order_37 : decode cX11_order 37 = .ok (.iconst (-1), 1) := by decide +kernel
theorem dX11_order_38 : decode cX11_order 38 = .ok (.ireturn, 1) := by decide +kernel
theorem dX11_order_39 : decode cX11_order 39 = .ok (.aload_n 3, 1) := by decide +kernel
theorem dX11_order_40 : decode cX11_order 40 = .ok (.getfield 209, 3) := by decide +kernel
theorem dX11_order_43 : decode cX11_order 43 = .ok (.iconst 5, 1) := by decide +kernel
theorem dX11_order_44 : decode cX11_order 44 = .ok (.if_icmp .le 6, 3) := by decide +kernel
theorem dX11_order_47 : decode cX11_order 47 = .ok (.bipush (-5), 2) := by decide +kernel
theorem dX11_order_49 : decode cX11_order 49 = .ok (.ireturn, 1) := by decide +kernel
theorem dX11_order_50 : decode cX11_order 50 = .ok (.aload_n 0, 1) := by decide +kernel
theorem dX11_order_51 : decode cX11_order 51 = .ok (.getfield 53, 3) := by decide +kernel
theorem dX11_order_54 : decode cX11_order 54 = .ok (.aload_n 3, 1) := by decide +kernel
theorem dX11_order_55 : decode cX11_order 55 = .ok (.getfield 209, 3) := by decide +kernel
theorem dX11_order_58 : decode cX11_order 58 = .ok (.invokevirtual 212, 3) := by decide +kernel
theorem dX11_order_61 : decode cX11_order 61 = .ok (.aload_n 3, 1) := by decide +kernel
theorem dX11_order_62 : decode cX11_order 62 = .ok (.aload_n 0, 1) := by decide +kernel
theorem dX11_order_63 : decode cX11_order 63 = .ok (.getfield 53, 3) := by decide +kernel
theorem dX11_order_66 : decode cX11_order 66 = .ok (.getfield 216, 3) := by decide +kernel
theorem dX11_order_69 : decode cX11_order 69 = .ok (.iconst 5, 1) := by decide +kernel
theorem dX11_order_70 : decode cX11_order 70 = .ok (.invokevirtual 220, 3) := by decide +kernel
theorem dX11_order_73 : decode cX11_order 73 = .ok (.aload_n 0, 1) := by decide +kernel
theorem dX11_order_74 : decode cX11_order 74 = .ok (.getfield 53, 3) := by decide +kernel
theorem dX11_order_77 : decode cX11_order 77 = .ok (.invokevirtual 224, 3) := by decide +kernel
theorem dX11_order_80 : decode cX11_order 80 = .ok (.iload_n 2, 1) := by decide +kernel
theorem dX11_order_81 : decode cX11_order 81 = .ok (.ifCond .ge 13, 3) := by decide +kernel
theorem dX11_order_84 : decode cX11_order 84 = .ok (.aload_n 0, 1) := by decide +kernel
theorem dX11_order_85 : decode cX11_order 85 = .ok (.getfield 53, 3) := by decide +kernel
theorem dX11_order_88 : decode cX11_order 88 = .ok (.getfield 227, 3) := by decide +kernel
theorem dX11_order_91 : decode cX11_order 91 = .ok (.goto 15, 3) := by decide +kernel
theorem dX11_order_94 : decode cX11_order 94 = .ok (.aload_n 3, 1) := by decide +kernel
theorem dX11_order_95 : decode cX11_order 95 = .ok (.aload_n 0, 1) := by decide +kernel
theorem dX11_order_96 : decode cX11_order 96 = .ok (.getfield 53, 3) := by decide +kernel
theorem dX11_order_99 : decode cX11_order 99 = .ok (.iload_n 2, 1) := by decide +kernel
theorem dX11_order_100 : decode cX11_order 100 = .ok (.invokevirtual 230, 3) := by decide +kernel
theorem dX11_order_103 : decode cX11_order 103 = .ok (.invokevirtual 233, 3) := by decide +kernel
theorem dX11_order_106 : decode cX11_order 106 = .ok (.ireturn, 1) := by decide +kernel
theorem dX11_held_0 : decode cX11_held 0 = .ok (.iload_n 2, 1) := by decide +kernel
theorem dX11_held_1 : decode cX11_held 1 = .ok (.bipush 10, 2) := by decide +kernel
theorem dX11_held_3 : decode cX11_held 3 = .ok (.idiv, 1) := by decide +kernel
theorem dX11_held_4 : decode cX11_held 4 = .ok (.istore_n 3, 1) := by decide +kernel
theorem dX11_held_5 : decode cX11_held 5 = .ok (.iload_n 1, 1) := by decide +kernel
theorem dX11_held_6 : decode cX11_held 6 = .ok (.invokestatic 169, 3) := by decide +kernel
theorem dX11_held_9 : decode cX11_held 9 = .ok (.ifCond .eq 18, 3) := by decide +kernel
theorem dX11_held_12 : decode cX11_held 12 = .ok (.iload_n 2, 1) := by decide +kernel
theorem dX11_held_13 : decode cX11_held 13 = .ok (.ifCond .lt 14, 3) := by decide +kernel
theorem dX11_held_16 : decode cX11_held 16 = .ok (.aload_n 0, 1) := by decide +kernel
theorem dX11_held_17 : decode cX11_held 17 = .ok (.getfield 10, 3) := by decide +kernel
theorem dX11_held_20 : decode cX11_held 20 = .ok (.iload_n 3, 1) := by decide +kernel
theorem dX11_held_21 : decode cX11_held 21 = .ok (.invokevirtual 172, 3) := by decide +kernel
theorem dX11_held_24 : decode cX11_held 24 = .ok (.ifCond .ne 5, 3) := by decide +kernel
theorem dX11_held_27 : decode cX11_held 27 = .ok (.iconst (-1), 1) := by decide +kernel
theorem dX11_held_28 : decode cX11_held 28 = .ok (.ireturn, 1) := by decide +kernel
theorem dX11_held_29 : decode cX11_held 29 = .ok (.aload_n 0, 1) := by decide +kernel
theorem dX11_held_30 : decode cX11_held 30 = .ok (.getfield 10, 3) := by decide +kernel
theorem dX11_held_33 : decode cX11_held 33 = .ok (.iload_n 3, 1) := by decide +kernel
theorem dX11_held_34 : decode cX11_held 34 = .ok (.iconst 5, 1) := by decide +kernel
theorem dX11_held_35 : decode cX11_held 35 = .ok (.invokevirtual 166, 3) := by decide +kernel
theorem dX11_held_38 : decode cX11_held 38 = .ok (.istore 4, 2) := by decide +kernel
theorem dX11_held_40 : decode cX11_held 40 = .ok (.aload_n 0, 1) := by decide +kernel
theorem dX11_held_41 : decode cX11_held 41 = .ok (.getfield 10, 3) := by decide +kernel
theorem dX11_held_44 : decode cX11_held 44 = .ok (.iload 4, 2) := by decide +kernel
theorem dX11_held_46 : decode cX11_held 46 = .ok (.invokevirtual 175, 3) := by decide +kernel
theorem dX11_held_49 : decode cX11_held 49 = .ok (.ifCond .ne 6, 3) := by decide +kernel
theorem dX11_held_52 : decode cX11_held 52 = .ok (.bipush (-5), 2) := by decide +kernel
theorem dX11_held_54 : decode cX11_held 54 = .ok (.ireturn, 1) := by decide +kernel
theorem dX11_held_55 : decode cX11_held 55 = .ok (.aload_n 0, 1) := by decide +kernel
theorem dX11_held_56 : decode cX11_held 56 = .ok (.getfield 43, 3) := by decide +kernel
theorem dX11_held_59 : decode cX11_held 59 = .ok (.iload 4, 2) := by decide +kernel
theorem dX11_held_61 : decode cX11_held 61 = .ok (.aaload, 1) := by decide +kernel
theorem dX11_held_62 : decode cX11_held 62 = .ok (.invokevirtual 178, 3) := by decide +kernel
theorem dX11_held_65 : decode cX11_held 65 = .ok (.aload_n 0, 1) := by decide +kernel
theorem dX11_held_66 : decode cX11_held 66 = .ok (.getfield 43, 3) := by decide +kernel
theorem dX11_held_69 : decode cX11_held 69 = .ok (.iload 4, 2) := by decide +kernel
theorem dX11_held_71 : decode cX11_held 71 = .ok (.aaload, 1) := by decide +kernel
theorem dX11_held_72 : decode cX11_held 72 = .ok (.iload_n 3, 1) := by decide +kernel
theorem dX11_held_73 : decode cX11_held 73 = .ok (.iload_n 2, 1) := by decide +kernel
theorem dX11_held_74 : decode cX11_held 74 = .ok (.bipush 10, 2) := by decide +kernel
theorem dX11_held_76 : decode cX11_held 76 = .ok (.irem, 1) := by decide +kernel
theorem dX11_held_77 : decode cX11_held 77 = .ok (.iload_n 1, 1) := by decide +kernel
theorem dX11_held_78 : decode cX11_held 78 = .ok (.invokevirtual 236, 3) := by decide +kernel
theorem dX11_held_81 : decode cX11_held 81 = .ok (.ireturn, 1) := by decide +kernel
theorem dX11_trade_0 : decode cX11_trade 0 = .ok (.iload_n 2, 1) := by decide +kernel
theorem dX11_trade_1 : decode cX11_trade 1 = .ok (.bipush 10, 2) := by decide +kernel
theorem dX11_trade_3 : decode cX11_trade 3 = .ok (.idiv, 1) := by decide +kernel
theorem dX11_trade_4 : decode cX11_trade 4 = .ok (.istore_n 3, 1) := by decide +kernel
theorem dX11_trade_5 : decode cX11_trade 5 = .ok (.iload_n 2, 1) := by decide +kernel
theorem dX11_trade_6 : decode cX11_trade 6 = .ok (.bipush 10, 2) := by decide +kernel
theorem dX11_trade_8 : decode cX11_trade 8 = .ok (.irem, 1) := by decide +kernel
theorem dX11_trade_9 : decode cX11_trade 9 = .ok (.istore 4, 2) := by decide +kernel
theorem dX11_trade_11 : decode cX11_trade 11 = .ok (.iload_n 1, 1) := by decide +kernel
theorem dX11_trade_12 : decode cX11_trade 12 = .ok (.invokestatic 169, 3) := by decide +kernel
theorem dX11_trade_15 : decode cX11_trade 15 = .ok (.ifCond .eq 36, 3) := by decide +kernel
theorem dX11_trade_18 : decode cX11_trade 18 = .ok (.iload_n 2, 1) := by decide +kernel
theorem dX11_trade_19 : decode cX11_trade 19 = .ok (.ifCond .lt 32, 3) := by decide +kernel
theorem dX11_trade_22 : decode cX11_trade 22 = .ok (.iload_n 3, 1) := by decide +kernel
theorem dX11_trade_23 : decode cX11_trade 23 = .ok (.iload 4, 2) := by decide +kernel
theorem dX11_trade_25 : decode cX11_trade 25 = .ok (.if_icmp .eq 26, 3) := by decide +kernel
theorem dX11_trade_28 : decode cX11_trade 28 = .ok (.aload_n 0, 1) := by decide +kernel
theorem dX11_trade_29 : decode cX11_trade 29 = .ok (.getfield 10, 3) := by decide +kernel
theorem dX11_trade_32 : decode cX11_trade 32 = .ok (.iload_n 3, 1) := by decide +kernel
theorem dX11_trade_33 : decode cX11_trade 33 = .ok (.invokevirtual 172, 3) := by decide +kernel
theorem dX11_trade_36 : decode cX11_trade 36 = .ok (.ifCond .eq 15, 3) := by decide +kernel
theorem dX11_trade_39 : decode cX11_trade 39 = .ok (.aload_n 0, 1) := by decide +kernel
theorem dX11_trade_40 : decode cX11_trade 40 = .ok (.getfield 10, 3) := by decide +kernel
theorem dX11_trade_43 : decode cX11_trade 43 = .ok (.iload 4, 2) := by decide +kernel
theorem dX11_trade_45 : decode cX11_trade 45 = .ok (.invokevirtual 172, 3) := by decide +kernel
theorem dX11_trade_48 : decode cX11_trade 48 = .ok (.ifCond .ne 6, 3) := by decide +kernel
theorem dX11_trade_51 : decode cX11_trade 51 = .ok (.ldc 165, 2) := by decide +kernel
theorem dX11_trade_53 : decode cX11_trade 53 = .ok (.ireturn, 1) := by decide +kernel
theorem dX11_trade_54 : decode cX11_trade 54 = .ok (.aload_n 0, 1) := by decide +kernel
theorem dX11_trade_55 : decode cX11_trade 55 = .ok (.getfield 10, 3) := by decide +kernel
theorem dX11_trade_58 : decode cX11_trade 58 = .ok (.iload_n 3, 1) := by decide +kernel
theorem dX11_trade_59 : decode cX11_trade 59 = .ok (.iconst 5, 1) := by decide +kernel
theorem dX11_trade_60 : decode cX11_trade 60 = .ok (.invokevirtual 166, 3) := by decide +kernel
theorem dX11_trade_63 : decode cX11_trade 63 = .ok (.istore 5, 2) := by decide +kernel
theorem dX11_trade_65 : decode cX11_trade 65 = .ok (.aload_n 0, 1) := by decide +kernel
theorem dX11_trade_66 : decode cX11_trade 66 = .ok (.getfield 10, 3) := by decide +kernel
theorem dX11_trade_69 : decode cX11_trade 69 = .ok (.iload 5, 2) := by decide +kernel
theorem dX11_trade_71 : decode cX11_trade 71 = .ok (.invokevirtual 175, 3) := by decide +kernel
theorem dX11_trade_74 : decode cX11_trade 74 = .ok (.ifCond .eq 18, 3) := by decide +kernel
theorem dX11_trade_77 : decode cX11_trade 77 = .ok (.aload_n 0, 1) := by decide +kernel
theorem dX11_trade_78 : decode cX11_trade 78 = .ok (.getfield 10, 3) := by decide +kernel
theorem dX11_trade_81 : decode cX11_trade 81 = .ok (.iload 4, 2) := by decide +kernel
theorem dX11_trade_83 : decode cX11_trade 83 = .ok (.iconst 5, 1) := by decide +kernel
theorem dX11_trade_84 : decode cX11_trade 84 = .ok (.invokevirtual 166, 3) := by decide +kernel
theorem dX11_trade_87 : decode cX11_trade 87 = .ok (.iload 5, 2) := by decide +kernel
theorem dX11_trade_89 : decode cX11_trade 89 = .ok (.if_icmp .eq 6, 3) := by decide +kernel
theorem dX11_trade_92 : decode cX11_trade 92 = .ok (.bipush (-5), 2) := by decide +kernel
theorem dX11_trade_94 : decode cX11_trade 94 = .ok (.ireturn, 1) := by decide +kernel
theorem dX11_trade_95 : decode cX11_trade 95 = .ok (.aload_n 0, 1) := by decide +kernel
theorem dX11_trade_96 : decode cX11_trade 96 = .ok (.getfield 43, 3) := by decide +kernel
theorem dX11_trade_99 : decode cX11_trade 99 = .ok (.iload 5, 2) := by decide +kernel
theorem dX11_trade_101 : decode cX11_trade 101 = .ok (.aaload, 1) := by decide +kernel
theorem dX11_trade_102 : decode cX11_trade 102 = .ok (.astore 6, 2) := by decide +kernel
theorem dX11_trade_104 : decode cX11_trade 104 = .ok (.aload 6, 2) := by decide +kernel
theorem dX11_trade_106 : decode cX11_trade 106 = .ok (.invokevirtual 178, 3) := by decide +kernel
theorem dX11_trade_109 : decode cX11_trade 109 = .ok (.aload 6, 2) := by decide +kernel
theorem dX11_trade_111 : decode cX11_trade 111 = .ok (.invokevirtual 181, 3) := by decide +kernel
theorem dX11_trade_114 : decode cX11_trade 114 = .ok (.aload 6, 2) := by decide +kernel
theorem dX11_trade_116 : decode cX11_trade 116 = .ok (.iload_n 3, 1) := by decide +kernel
theorem dX11_trade_117 : decode cX11_trade 117 = .ok (.iload_n 1, 1) := by decide +kernel
theorem dX11_trade_118 : decode cX11_trade 118 = .ok (.invokevirtual 184, 3) := by decide +kernel
theorem dX11_trade_121 : decode cX11_trade 121 = .ok (.istore 7, 2) := by decide +kernel
theorem dX11_trade_123 : decode cX11_trade 123 = .ok (.aload 6, 2) := by decide +kernel
theorem dX11_trade_125 : decode cX11_trade 125 = .ok (.iload_n 3, 1) := by decide +kernel
theorem dX11_trade_126 : decode cX11_trade 126 = .ok (.iload 4, 2) := by decide +kernel
theorem dX11_trade_128 : decode cX11_trade 128 = .ok (.invokevirtual 239, 3) := by decide +kernel
theorem dX11_trade_131 : decode cX11_trade 131 = .ok (.aload 6, 2) := by decide +kernel
theorem dX11_trade_133 : decode cX11_trade 133 = .ok (.invokevirtual 181, 3) := by decide +kernel
theorem dX11_trade_136 : decode cX11_trade 136 = .ok (.aload 6, 2) := by decide +kernel
theorem dX11_trade_138 : decode cX11_trade 138 = .ok (.iload_n 3, 1) := by decide +kernel
theorem dX11_trade_139 : decode cX11_trade 139 = .ok (.iload_n 1, 1) := by decide +kernel
theorem dX11_trade_140 : decode cX11_trade 140 = .ok (.invokevirtual 184, 3) := by decide +kernel
theorem dX11_trade_143 : decode cX11_trade 143 = .ok (.istore 8, 2) := by decide +kernel
theorem dX11_trade_145 : decode cX11_trade 145 = .ok (.iload 7, 2) := by decide +kernel
theorem dX11_trade_147 : decode cX11_trade 147 = .ok (.ifCond .lt 8, 3) := by decide +kernel
theorem dX11_trade_150 : decode cX11_trade 150 = .ok (.iload 8, 2) := by decide +kernel
theorem dX11_trade_152 : decode cX11_trade 152 = .ok (.ifCond .ge 8, 3) := by decide +kernel
theorem dX11_trade_155 : decode cX11_trade 155 = .ok (.bipush (-2), 2) := by decide +kernel
theorem dX11_trade_157 : decode cX11_trade 157 = .ok (.goto 8, 3) := by decide +kernel
theorem dX11_trade_160 : decode cX11_trade 160 = .ok (.iload 7, 2) := by decide +kernel
theorem dX11_trade_162 : decode cX11_trade 162 = .ok (.iload 8, 2) := by decide +kernel
theorem dX11_trade_164 : decode cX11_trade 164 = .ok (.isub, 1) := by decide +kernel
theorem dX11_trade_165 : decode cX11_trade 165 = .ok (.ireturn, 1) := by decide +kernel
theorem dX11_drawn_0 : decode cX11_drawn 0 = .ok (.iload_n 2, 1) := by decide +kernel
theorem dX11_drawn_1 : decode cX11_drawn 1 = .ok (.iconst 1, 1) := by decide +kernel
theorem dX11_drawn_2 : decode cX11_drawn 2 = .ok (.if_icmp .lt 34, 3) := by decide +kernel
theorem dX11_drawn_5 : decode cX11_drawn 5 = .ok (.iload_n 2, 1) := by decide +kernel
theorem dX11_drawn_6 : decode cX11_drawn 6 = .ok (.bipush 10, 2) := by decide +kernel
theorem dX11_drawn_8 : decode cX11_drawn 8 = .ok (.if_icmp .gt 28, 3) := by decide +kernel
theorem dX11_drawn_11 : decode cX11_drawn 11 = .ok (.iload_n 3, 1) := by decide +kernel
theorem dX11_drawn_12 : decode cX11_drawn 12 = .ok (.invokestatic 169, 3) := by decide +kernel
theorem dX11_drawn_15 : decode cX11_drawn 15 = .ok (.ifCond .eq 21, 3) := by decide +kernel
theorem dX11_drawn_18 : decode cX11_drawn 18 = .ok (.iload 4, 2) := by decide +kernel
theorem dX11_drawn_20 : decode cX11_drawn 20 = .ok (.iconst (-1), 1) := by decide +kernel
theorem dX11_drawn_21 : decode cX11_drawn 21 = .ok (.if_icmp .lt 15, 3) := by decide +kernel
theorem dX11_drawn_24 : decode cX11_drawn 24 = .ok (.iload 4, 2) := by decide +kernel
theorem dX11_drawn_26 : decode cX11_drawn 26 = .ok (.aload_n 0, 1) := by decide +kernel
theorem dX11_drawn_27 : decode cX11_drawn 27 = .ok (.getfield 10, 3) := by decide +kernel
theorem dX11_drawn_30 : decode cX11_drawn 30 = .ok (.getfield 200, 3) := by decide +kernel
theorem dX11_drawn_33 : decode cX11_drawn 33 = .ok (.if_icmp .lt 5, 3) := by decide +kernel
theorem dX11_drawn_36 : decode cX11_drawn 36 = .ok (.iconst (-1), 1) := by decide +kernel
theorem dX11_drawn_37 : decode cX11_drawn 37 = .ok (.ireturn, 1) := by decide +kernel
theorem dX11_drawn_38 : decode cX11_drawn 38 = .ok (.aload_n 0, 1) := by decide +kernel
theorem dX11_drawn_39 : decode cX11_drawn 39 = .ok (.getfield 60, 3) := by decide +kernel
theorem dX11_drawn_42 : decode cX11_drawn 42 = .ok (.iload_n 1, 1) := by decide +kernel
theorem dX11_drawn_43 : decode cX11_drawn 43 = .ok (.aload_n 0, 1) := by decide +kernel
theorem dX11_drawn_44 : decode cX11_drawn 44 = .ok (.getfield 10, 3) := by decide +kernel
theorem dX11_drawn_47 : decode cX11_drawn 47 = .ok (.iconst 0, 1) := by decide +kernel
theorem dX11_drawn_48 : decode cX11_drawn 48 = .ok (.bipush 10, 2) := by decide +kernel
theorem dX11_drawn_50 : decode cX11_drawn 50 = .ok (.invokevirtual 166, 3) := by decide +kernel
theorem dX11_drawn_53 : decode cX11_drawn 53 = .ok (.invokevirtual 242, 3) := by decide +kernel
theorem dX11_drawn_56 : decode cX11_drawn 56 = .ok (.iconst 0, 1) := by decide +kernel
theorem dX11_drawn_57 : decode cX11_drawn 57 = .ok (.istore 5, 2) := by decide +kernel
theorem dX11_drawn_59 : decode cX11_drawn 59 = .ok (.iload 5, 2) := by decide +kernel
theorem dX11_drawn_61 : decode cX11_drawn 61 = .ok (.iconst 3, 1) := by decide +kernel
theorem dX11_drawn_62 : decode cX11_drawn 62 = .ok (.if_icmp .ge 29, 3) := by decide +kernel
theorem dX11_drawn_65 : decode cX11_drawn 65 = .ok (.aload_n 0, 1) := by decide +kernel
theorem dX11_drawn_66 : decode cX11_drawn 66 = .ok (.getfield 43, 3) := by decide +kernel
theorem dX11_drawn_69 : decode cX11_drawn 69 = .ok (.iload 5, 2) := by decide +kernel
theorem dX11_drawn_71 : decode cX11_drawn 71 = .ok (.aaload, 1) := by decide +kernel
theorem dX11_drawn_72 : decode cX11_drawn 72 = .ok (.invokevirtual 178, 3) := by decide +kernel
theorem dX11_drawn_75 : decode cX11_drawn 75 = .ok (.aload_n 0, 1) := by decide +kernel
theorem dX11_drawn_76 : decode cX11_drawn 76 = .ok (.getfield 43, 3) := by decide +kernel
theorem dX11_drawn_79 : decode cX11_drawn 79 = .ok (.iload 5, 2) := by decide +kernel
theorem dX11_drawn_81 : decode cX11_drawn 81 = .ok (.aaload, 1) := by decide +kernel
theorem dX11_drawn_82 : decode cX11_drawn 82 = .ok (.invokevirtual 181, 3) := by decide +kernel
theorem dX11_drawn_85 : decode cX11_drawn 85 = .ok (.iinc 5 1, 3) := by decide +kernel
theorem dX11_drawn_88 : decode cX11_drawn 88 = .ok (.goto (-29), 3) := by decide +kernel
theorem dX11_drawn_91 : decode cX11_drawn 91 = .ok (.iconst 0, 1) := by decide +kernel
theorem dX11_drawn_92 : decode cX11_drawn 92 = .ok (.istore 5, 2) := by decide +kernel
theorem dX11_drawn_94 : decode cX11_drawn 94 = .ok (.iload 5, 2) := by decide +kernel
theorem dX11_drawn_96 : decode cX11_drawn 96 = .ok (.iload_n 2, 1) := by decide +kernel
theorem dX11_drawn_97 : decode cX11_drawn 97 = .ok (.if_icmp .ge 39, 3) := by decide +kernel
theorem dX11_drawn_100 : decode cX11_drawn 100 = .ok (.iconst 0, 1) := by decide +kernel
theorem dX11_drawn_101 : decode cX11_drawn 101 = .ok (.istore 6, 2) := by decide +kernel
theorem dX11_drawn_103 : decode cX11_drawn 103 = .ok (.iload 6, 2) := by decide +kernel
theorem dX11_drawn_105 : decode cX11_drawn 105 = .ok (.iconst 3, 1) := by decide +kernel
theorem dX11_drawn_106 : decode cX11_drawn 106 = .ok (.if_icmp .ge 24, 3) := by decide +kernel
theorem dX11_drawn_109 : decode cX11_drawn 109 = .ok (.aload_n 0, 1) := by decide +kernel
theorem dX11_drawn_110 : decode cX11_drawn 110 = .ok (.getfield 43, 3) := by decide +kernel
theorem dX11_drawn_113 : decode cX11_drawn 113 = .ok (.iload 6, 2) := by decide +kernel
theorem dX11_drawn_115 : decode cX11_drawn 115 = .ok (.aaload, 1) := by decide +kernel
theorem dX11_drawn_116 : decode cX11_drawn 116 = .ok (.iload_n 3, 1) := by decide +kernel
theorem dX11_drawn_117 : decode cX11_drawn 117 = .ok (.aload_n 0, 1) := by decide +kernel
theorem dX11_drawn_118 : decode cX11_drawn 118 = .ok (.getfield 60, 3) := by decide +kernel
theorem dX11_drawn_121 : decode cX11_drawn 121 = .ok (.invokevirtual 187, 3) := by decide +kernel
theorem dX11_drawn_124 : decode cX11_drawn 124 = .ok (.iinc 6 1, 3) := by decide +kernel
theorem dX11_drawn_127 : decode cX11_drawn 127 = .ok (.goto (-24), 3) := by decide +kernel
theorem dX11_drawn_130 : decode cX11_drawn 130 = .ok (.iinc 5 1, 3) := by decide +kernel
theorem dX11_drawn_133 : decode cX11_drawn 133 = .ok (.goto (-39), 3) := by decide +kernel
theorem dX11_drawn_136 : decode cX11_drawn 136 = .ok (.iload 4, 2) := by decide +kernel
theorem dX11_drawn_138 : decode cX11_drawn 138 = .ok (.ifCond .ge 10, 3) := by decide +kernel
theorem dX11_drawn_141 : decode cX11_drawn 141 = .ok (.aload_n 0, 1) := by decide +kernel
theorem dX11_drawn_142 : decode cX11_drawn 142 = .ok (.invokevirtual 244, 3) := by decide +kernel
theorem dX11_drawn_145 : decode cX11_drawn 145 = .ok (.goto 9, 3) := by decide +kernel
theorem dX11_drawn_148 : decode cX11_drawn 148 = .ok (.aload_n 0, 1) := by decide +kernel
theorem dX11_drawn_149 : decode cX11_drawn 149 = .ok (.iload 4, 2) := by decide +kernel
theorem dX11_drawn_151 : decode cX11_drawn 151 = .ok (.invokevirtual 203, 3) := by decide +kernel
theorem dX11_drawn_154 : decode cX11_drawn 154 = .ok (.ireturn, 1) := by decide +kernel
theorem dX11_judge_0 : decode cX11_judge 0 = .ok (.aload_n 0, 1) := by decide +kernel
theorem dX11_judge_1 : decode cX11_judge 1 = .ok (.getfield 84, 3) := by decide +kernel
theorem dX11_judge_4 : decode cX11_judge 4 = .ok (.iload_n 1, 1) := by decide +kernel
theorem dX11_judge_5 : decode cX11_judge 5 = .ok (.invokevirtual 92, 3) := by decide +kernel
theorem dX11_judge_8 : decode cX11_judge 8 = .ok (.ifCond .eq 12, 3) := by decide +kernel
theorem dX11_judge_11 : decode cX11_judge 11 = .ok (.aload_n 0, 1) := by decide +kernel
theorem dX11_judge_12 : decode cX11_judge 12 = .ok (.iload_n 2, 1) := by decide +kernel
theorem dX11_judge_13 : decode cX11_judge 13 = .ok (.iload_n 3, 1) := by decide +kernel
theorem dX11_judge_14 : decode cX11_judge 14 = .ok (.invokevirtual 129, 3) := by decide +kernel
theorem dX11_judge_17 : decode cX11_judge 17 = .ok (.ifCond .ne 5, 3) := by decide +kernel
theorem dX11_judge_20 : decode cX11_judge 20 = .ok (.iconst (-1), 1) := by decide +kernel
theorem dX11_judge_21 : decode cX11_judge 21 = .ok (.ireturn, 1) := by decide +kernel
theorem dX11_judge_22 : decode cX11_judge 22 = .ok (.aload_n 0, 1) := by decide +kernel
theorem dX11_judge_23 : decode cX11_judge 23 = .ok (.getfield 84, 3) := by decide +kernel
theorem dX11_judge_26 : decode cX11_judge 26 = .ok (.iload_n 1, 1) := by decide +kernel
theorem dX11_judge_27 : decode cX11_judge 27 = .ok (.invokevirtual 96, 3) := by decide +kernel
theorem dX11_judge_30 : decode cX11_judge 30 = .ok (.istore 4, 2) := by decide +kernel
theorem dX11_judge_32 : decode cX11_judge 32 = .ok (.iload 4, 2) := by decide +kernel
theorem dX11_judge_34 : decode cX11_judge 34 = .ok (.ifCond .eq 6, 3) := by decide +kernel
theorem dX11_judge_37 : decode cX11_judge 37 = .ok (.iload 4, 2) := by decide +kernel
theorem dX11_judge_39 : decode cX11_judge 39 = .ok (.ireturn, 1) := by decide +kernel
theorem dX11_judge_40 : decode cX11_judge 40 = .ok (.aload_n 0, 1) := by decide +kernel
theorem dX11_judge_41 : decode cX11_judge 41 = .ok (.iload_n 1, 1) := by decide +kernel
theorem dX11_judge_42 : decode cX11_judge 42 = .ok (.iload_n 2, 1) := by decide +kernel
theorem dX11_judge_43 : decode cX11_judge 43 = .ok (.invokestatic 133, 3) := by decide +kernel
theorem dX11_judge_46 : decode cX11_judge 46 = .ok (.bipush 10, 2) := by decide +kernel
theorem dX11_judge_48 : decode cX11_judge 48 = .ok (.imul, 1) := by decide +kernel
theorem dX11_judge_49 : decode cX11_judge 49 = .ok (.iload_n 2, 1) := by decide +kernel
theorem dX11_judge_50 : decode cX11_judge 50 = .ok (.bipush 10, 2) := by decide +kernel
theorem dX11_judge_52 : decode cX11_judge 52 = .ok (.irem, 1) := by decide +kernel
theorem dX11_judge_53 : decode cX11_judge 53 = .ok (.iadd, 1) := by decide +kernel
theorem dX11_judge_54 : decode cX11_judge 54 = .ok (.iload_n 2, 1) := by decide +kernel
theorem dX11_judge_55 : decode cX11_judge 55 = .ok (.invokestatic 136, 3) := by decide +kernel
theorem dX11_judge_58 : decode cX11_judge 58 = .ok (.iload_n 3, 1) := by decide +kernel
theorem dX11_judge_59 : decode cX11_judge 59 = .ok (.invokevirtual 247, 3) := by decide +kernel
theorem dX11_judge_62 : decode cX11_judge 62 = .ok (.ireturn, 1) := by decide +kernel
theorem dX11_who_0 : decode cX11_who 0 = .ok (.aload_n 0, 1) := by decide +kernel
theorem dX11_who_1 : decode cX11_who 1 = .ok (.getfield 84, 3) := by decide +kernel
theorem dX11_who_4 : decode cX11_who 4 = .ok (.iload_n 1, 1) := by decide +kernel
theorem dX11_who_5 : decode cX11_who 5 = .ok (.invokevirtual 92, 3) := by decide +kernel
theorem dX11_who_8 : decode cX11_who 8 = .ok (.ifCond .eq 28, 3) := by decide +kernel
theorem dX11_who_11 : decode cX11_who 11 = .ok (.iload_n 2, 1) := by decide +kernel
theorem dX11_who_12 : decode cX11_who 12 = .ok (.ifCond .lt 24, 3) := by decide +kernel
theorem dX11_who_15 : decode cX11_who 15 = .ok (.aload_n 0, 1) := by decide +kernel
theorem dX11_who_16 : decode cX11_who 16 = .ok (.getfield 10, 3) := by decide +kernel
theorem dX11_who_19 : decode cX11_who 19 = .ok (.iload_n 2, 1) := by decide +kernel
theorem dX11_who_20 : decode cX11_who 20 = .ok (.bipush 10, 2) := by decide +kernel
theorem dX11_who_22 : decode cX11_who 22 = .ok (.idiv, 1) := by decide +kernel
theorem dX11_who_23 : decode cX11_who 23 = .ok (.invokevirtual 175, 3) := by decide +kernel
theorem dX11_who_26 : decode cX11_who 26 = .ok (.ifCond .eq 10, 3) := by decide +kernel
theorem dX11_who_29 : decode cX11_who 29 = .ok (.iload_n 3, 1) := by decide +kernel
theorem dX11_who_30 : decode cX11_who 30 = .ok (.invokestatic 251, 3) := by decide +kernel
theorem dX11_who_33 : decode cX11_who 33 = .ok (.ifCond .ne 5, 3) := by decide +kernel
theorem dX11_who_36 : decode cX11_who 36 = .ok (.iconst (-1), 1) := by decide +kernel
theorem dX11_who_37 : decode cX11_who 37 = .ok (.ireturn, 1) := by decide +kernel
theorem dX11_who_38 : decode cX11_who 38 = .ok (.iload_n 2, 1) := by decide +kernel
theorem dX11_who_39 : decode cX11_who 39 = .ok (.bipush 10, 2) := by decide +kernel
theorem dX11_who_41 : decode cX11_who 41 = .ok (.irem, 1) := by decide +kernel
theorem dX11_who_42 : decode cX11_who 42 = .ok (.istore 4, 2) := by decide +kernel
theorem dX11_who_44 : decode cX11_who 44 = .ok (.iload 4, 2) := by decide +kernel
theorem dX11_who_46 : decode cX11_who 46 = .ok (.bipush 9, 2) := by decide +kernel
theorem dX11_who_48 : decode cX11_who 48 = .ok (.if_icmp .eq 17, 3) := by decide +kernel
theorem dX11_who_51 : decode cX11_who 51 = .ok (.aload_n 0, 1) := by decide +kernel
theorem dX11_who_52 : decode cX11_who 52 = .ok (.getfield 10, 3) := by decide +kernel
theorem dX11_who_55 : decode cX11_who 55 = .ok (.iload 4, 2) := by decide +kernel
theorem dX11_who_57 : decode cX11_who 57 = .ok (.invokevirtual 172, 3) := by decide +kernel
theorem dX11_who_60 : decode cX11_who 60 = .ok (.ifCond .ne 5, 3) := by decide +kernel
theorem dX11_who_63 : decode cX11_who 63 = .ok (.iconst (-1), 1) := by decide +kernel
theorem dX11_who_64 : decode cX11_who 64 = .ok (.ireturn, 1) := by decide +kernel
theorem dX11_who_65 : decode cX11_who 65 = .ok (.aload_n 0, 1) := by decide +kernel
theorem dX11_who_66 : decode cX11_who 66 = .ok (.getfield 84, 3) := by decide +kernel
theorem dX11_who_69 : decode cX11_who 69 = .ok (.iload_n 1, 1) := by decide +kernel
theorem dX11_who_70 : decode cX11_who 70 = .ok (.invokevirtual 96, 3) := by decide +kernel
theorem dX11_who_73 : decode cX11_who 73 = .ok (.istore 5, 2) := by decide +kernel
theorem dX11_who_75 : decode cX11_who 75 = .ok (.iload 5, 2) := by decide +kernel
theorem dX11_who_77 : decode cX11_who 77 = .ok (.ifCond .eq 6, 3) := by decide +kernel
theorem dX11_who_80 : decode cX11_who 80 = .ok (.iload 5, 2) := by decide +kernel
theorem dX11_who_82 : decode cX11_who 82 = .ok (.ireturn, 1) := by decide +kernel
theorem dX11_who_83 : decode cX11_who 83 = .ok (.iconst 0, 1) := by decide +kernel
theorem dX11_who_84 : decode cX11_who 84 = .ok (.istore 6, 2) := by decide +kernel
theorem dX11_who_86 : decode cX11_who 86 = .ok (.iconst 0, 1) := by decide +kernel
theorem dX11_who_87 : decode cX11_who 87 = .ok (.istore 7, 2) := by decide +kernel
theorem dX11_who_89 : decode cX11_who 89 = .ok (.iload 7, 2) := by decide +kernel
theorem dX11_who_91 : decode cX11_who 91 = .ok (.aload_n 0, 1) := by decide +kernel
theorem dX11_who_92 : decode cX11_who 92 = .ok (.getfield 10, 3) := by decide +kernel
theorem dX11_who_95 : decode cX11_who 95 = .ok (.getfield 200, 3) := by decide +kernel
theorem dX11_who_98 : decode cX11_who 98 = .ok (.if_icmp .ge 39, 3) := by decide +kernel
theorem dX11_who_101 : decode cX11_who 101 = .ok (.iload 7, 2) := by decide +kernel
theorem dX11_who_103 : decode cX11_who 103 = .ok (.iload 4, 2) := by decide +kernel
theorem dX11_who_105 : decode cX11_who 105 = .ok (.if_icmp .eq 26, 3) := by decide +kernel
theorem dX11_who_108 : decode cX11_who 108 = .ok (.aload_n 0, 1) := by decide +kernel
theorem dX11_who_109 : decode cX11_who 109 = .ok (.iload_n 1, 1) := by decide +kernel
theorem dX11_who_110 : decode cX11_who 110 = .ok (.iload_n 2, 1) := by decide +kernel
theorem dX11_who_111 : decode cX11_who 111 = .ok (.iload 7, 2) := by decide +kernel
theorem dX11_who_113 : decode cX11_who 113 = .ok (.iload_n 3, 1) := by decide +kernel
theorem dX11_who_114 : decode cX11_who 114 = .ok (.invokevirtual 247, 3) := by decide +kernel
theorem dX11_who_117 : decode cX11_who 117 = .ok (.bipush (-2), 2) := by decide +kernel
theorem dX11_who_119 : decode cX11_who 119 = .ok (.if_icmp .ne 12, 3) := by decide +kernel
theorem dX11_who_122 : decode cX11_who 122 = .ok (.iload 6, 2) := by decide +kernel
theorem dX11_who_124 : decode cX11_who 124 = .ok (.iconst 1, 1) := by decide +kernel
theorem dX11_who_125 : decode cX11_who 125 = .ok (.iload 7, 2) := by decide +kernel
theorem dX11_who_127 : decode cX11_who 127 = .ok (.ishl, 1) := by decide +kernel
theorem dX11_who_128 : decode cX11_who 128 = .ok (.ior, 1) := by decide +kernel
theorem dX11_who_129 : decode cX11_who 129 = .ok (.istore 6, 2) := by decide +kernel
theorem dX11_who_131 : decode cX11_who 131 = .ok (.iinc 7 1, 3) := by decide +kernel
theorem dX11_who_134 : decode cX11_who 134 = .ok (.goto (-45), 3) := by decide +kernel
theorem dX11_who_137 : decode cX11_who 137 = .ok (.iload 6, 2) := by decide +kernel
theorem dX11_who_139 : decode cX11_who 139 = .ok (.ireturn, 1) := by decide +kernel
theorem dX11_sure_0 : decode cX11_sure 0 = .ok (.aload_n 0, 1) := by decide +kernel
theorem dX11_sure_1 : decode cX11_sure 1 = .ok (.getfield 84, 3) := by decide +kernel
theorem dX11_sure_4 : decode cX11_sure 4 = .ok (.iload_n 1, 1) := by decide +kernel
theorem dX11_sure_5 : decode cX11_sure 5 = .ok (.invokevirtual 92, 3) := by decide +kernel
theorem dX11_sure_8 : decode cX11_sure 8 = .ok (.ifCond .eq 12, 3) := by decide +kernel
theorem dX11_sure_11 : decode cX11_sure 11 = .ok (.aload_n 0, 1) := by decide +kernel
theorem dX11_sure_12 : decode cX11_sure 12 = .ok (.iload_n 2, 1) := by decide +kernel
theorem dX11_sure_13 : decode cX11_sure 13 = .ok (.iload_n 3, 1) := by decide +kernel
theorem dX11_sure_14 : decode cX11_sure 14 = .ok (.invokevirtual 129, 3) := by decide +kernel
theorem dX11_sure_17 : decode cX11_sure 17 = .ok (.ifCond .ne 5, 3) := by decide +kernel
theorem dX11_sure_20 : decode cX11_sure 20 = .ok (.iconst (-1), 1) := by decide +kernel
theorem dX11_sure_21 : decode cX11_sure 21 = .ok (.ireturn, 1) := by decide +kernel
theorem dX11_sure_22 : decode cX11_sure 22 = .ok (.aload_n 0, 1) := by decide +kernel
theorem dX11_sure_23 : decode cX11_sure 23 = .ok (.getfield 84, 3) := by decide +kernel
theorem dX11_sure_26 : decode cX11_sure 26 = .ok (.iload_n 1, 1) := by decide +kernel
theorem dX11_sure_27 : decode cX11_sure 27 = .ok (.invokevirtual 96, 3) := by decide +kernel
theorem dX11_sure_30 : decode cX11_sure 30 = .ok (.istore 4, 2) := by decide +kernel
theorem dX11_sure_32 : decode cX11_sure 32 = .ok (.iload 4, 2) := by decide +kernel
theorem dX11_sure_34 : decode cX11_sure 34 = .ok (.ifCond .eq 6, 3) := by decide +kernel
theorem dX11_sure_37 : decode cX11_sure 37 = .ok (.iload 4, 2) := by decide +kernel
theorem dX11_sure_39 : decode cX11_sure 39 = .ok (.ireturn, 1) := by decide +kernel
theorem dX11_sure_40 : decode cX11_sure 40 = .ok (.iconst 0, 1) := by decide +kernel
theorem dX11_sure_41 : decode cX11_sure 41 = .ok (.istore 5, 2) := by decide +kernel
theorem dX11_sure_43 : decode cX11_sure 43 = .ok (.iconst 0, 1) := by decide +kernel
theorem dX11_sure_44 : decode cX11_sure 44 = .ok (.istore 6, 2) := by decide +kernel
theorem dX11_sure_46 : decode cX11_sure 46 = .ok (.iload 6, 2) := by decide +kernel
theorem dX11_sure_48 : decode cX11_sure 48 = .ok (.bipush 9, 2) := by decide +kernel
theorem dX11_sure_50 : decode cX11_sure 50 = .ok (.if_icmp .gt 59, 3) := by decide +kernel
theorem dX11_sure_53 : decode cX11_sure 53 = .ok (.aload_n 0, 1) := by decide +kernel
theorem dX11_sure_54 : decode cX11_sure 54 = .ok (.getfield 10, 3) := by decide +kernel
theorem dX11_sure_57 : decode cX11_sure 57 = .ok (.iload 6, 2) := by decide +kernel
theorem dX11_sure_59 : decode cX11_sure 59 = .ok (.iload_n 2, 1) := by decide +kernel
theorem dX11_sure_60 : decode cX11_sure 60 = .ok (.invokestatic 136, 3) := by decide +kernel
theorem dX11_sure_63 : decode cX11_sure 63 = .ok (.invokevirtual 162, 3) := by decide +kernel
theorem dX11_sure_66 : decode cX11_sure 66 = .ok (.ifCond .eq 37, 3) := by decide +kernel
theorem dX11_sure_69 : decode cX11_sure 69 = .ok (.aload_n 0, 1) := by decide +kernel
theorem dX11_sure_70 : decode cX11_sure 70 = .ok (.iload_n 1, 1) := by decide +kernel
theorem dX11_sure_71 : decode cX11_sure 71 = .ok (.iload_n 2, 1) := by decide +kernel
theorem dX11_sure_72 : decode cX11_sure 72 = .ok (.invokestatic 133, 3) := by decide +kernel
theorem dX11_sure_75 : decode cX11_sure 75 = .ok (.bipush 10, 2) := by decide +kernel
theorem dX11_sure_77 : decode cX11_sure 77 = .ok (.imul, 1) := by decide +kernel
theorem dX11_sure_78 : decode cX11_sure 78 = .ok (.iload 6, 2) := by decide +kernel
theorem dX11_sure_80 : decode cX11_sure 80 = .ok (.iadd, 1) := by decide +kernel
theorem dX11_sure_81 : decode cX11_sure 81 = .ok (.iload_n 2, 1) := by decide +kernel
theorem dX11_sure_82 : decode cX11_sure 82 = .ok (.invokestatic 136, 3) := by decide +kernel
theorem dX11_sure_85 : decode cX11_sure 85 = .ok (.iload_n 3, 1) := by decide +kernel
theorem dX11_sure_86 : decode cX11_sure 86 = .ok (.invokevirtual 247, 3) := by decide +kernel
theorem dX11_sure_89 : decode cX11_sure 89 = .ok (.bipush (-2), 2) := by decide +kernel
theorem dX11_sure_91 : decode cX11_sure 91 = .ok (.if_icmp .ne 12, 3) := by decide +kernel
theorem dX11_sure_94 : decode cX11_sure 94 = .ok (.iload 5, 2) := by decide +kernel
theorem dX11_sure_96 : decode cX11_sure 96 = .ok (.iconst 1, 1) := by decide +kernel
theorem dX11_sure_97 : decode cX11_sure 97 = .ok (.iload 6, 2) := by decide +kernel
theorem dX11_sure_99 : decode cX11_sure 99 = .ok (.ishl, 1) := by decide +kernel
theorem dX11_sure_100 : decode cX11_sure 100 = .ok (.ior, 1) := by decide +kernel
theorem dX11_sure_101 : decode cX11_sure 101 = .ok (.istore 5, 2) := by decide +kernel
theorem dX11_sure_103 : decode cX11_sure 103 = .ok (.iinc 6 1, 3) := by decide +kernel
theorem dX11_sure_106 : decode cX11_sure 106 = .ok (.goto (-60), 3) := by decide +kernel
theorem dX11_sure_109 : decode cX11_sure 109 = .ok (.iload 5, 2) := by decide +kernel
theorem dX11_sure_111 : decode cX11_sure 111 = .ok (.ireturn, 1) := by decide +kernel
theorem dX11_on_0 : decode cX11_on 0 = .ok (.aload_n 0, 1) := by decide +kernel
theorem dX11_on_1 : decode cX11_on 1 = .ok (.iload_n 1, 1) := by decide +kernel
theorem dX11_on_2 : decode cX11_on 2 = .ok (.iconst 0, 1) := by decide +kernel
theorem dX11_on_3 : decode cX11_on 3 = .ok (.invokevirtual 129, 3) := by decide +kernel
theorem dX11_on_6 : decode cX11_on 6 = .ok (.ifCond .ne 5, 3) := by decide +kernel
theorem dX11_on_9 : decode cX11_on 9 = .ok (.iconst (-1), 1) := by decide +kernel
theorem dX11_on_10 : decode cX11_on 10 = .ok (.ireturn, 1) := by decide +kernel
theorem dX11_on_11 : decode cX11_on 11 = .ok (.aload_n 0, 1) := by decide +kernel
theorem dX11_on_12 : decode cX11_on 12 = .ok (.getfield 67, 3) := by decide +kernel
theorem dX11_on_15 : decode cX11_on 15 = .ok (.getfield 254, 3) := by decide +kernel
theorem dX11_on_18 : decode cX11_on 18 = .ok (.ifCond .eq 6, 3) := by decide +kernel
theorem dX11_on_21 : decode cX11_on 21 = .ok (.bipush (-5), 2) := by decide +kernel
theorem dX11_on_23 : decode cX11_on 23 = .ok (.ireturn, 1) := by decide +kernel
theorem dX11_on_24 : decode cX11_on 24 = .ok (.aload_n 0, 1) := by decide +kernel
theorem dX11_on_25 : decode cX11_on 25 = .ok (.getfield 67, 3) := by decide +kernel
theorem dX11_on_28 : decode cX11_on 28 = .ok (.iconst 1, 1) := by decide +kernel
theorem dX11_on_29 : decode cX11_on 29 = .ok (.putfield 254, 3) := by decide +kernel
theorem dX11_on_32 : decode cX11_on 32 = .ok (.aload_n 0, 1) := by decide +kernel
theorem dX11_on_33 : decode cX11_on 33 = .ok (.getfield 67, 3) := by decide +kernel
theorem dX11_on_36 : decode cX11_on 36 = .ok (.getfield 258, 3) := by decide +kernel
theorem dX11_on_39 : decode cX11_on 39 = .ok (.iload_n 1, 1) := by decide +kernel
theorem dX11_on_40 : decode cX11_on 40 = .ok (.invokestatic 133, 3) := by decide +kernel
theorem dX11_on_43 : decode cX11_on 43 = .ok (.iload_n 1, 1) := by decide +kernel
theorem dX11_on_44 : decode cX11_on 44 = .ok (.invokestatic 136, 3) := by decide +kernel
theorem dX11_on_47 : decode cX11_on 47 = .ok (.iload_n 1, 1) := by decide +kernel
theorem dX11_on_48 : decode cX11_on 48 = .ok (.bipush 10, 2) := by decide +kernel
theorem dX11_on_50 : decode cX11_on 50 = .ok (.irem, 1) := by decide +kernel
theorem dX11_on_51 : decode cX11_on 51 = .ok (.invokevirtual 262, 3) := by decide +kernel
theorem dX11_on_54 : decode cX11_on 54 = .ok (.aload_n 0, 1) := by decide +kernel
theorem dX11_on_55 : decode cX11_on 55 = .ok (.getfield 67, 3) := by decide +kernel
theorem dX11_on_58 : decode cX11_on 58 = .ok (.getfield 258, 3) := by decide +kernel
theorem dX11_on_61 : decode cX11_on 61 = .ok (.getfield 265, 3) := by decide +kernel
theorem dX11_on_64 : decode cX11_on 64 = .ok (.ireturn, 1) := by decide +kernel
theorem dX11_push_0 : decode cX11_push 0 = .ok (.aload_n 0, 1) := by decide +kernel
theorem dX11_push_1 : decode cX11_push 1 = .ok (.getfield 67, 3) := by decide +kernel
theorem dX11_push_4 : decode cX11_push 4 = .ok (.getfield 254, 3) := by decide +kernel
theorem dX11_push_7 : decode cX11_push 7 = .ok (.ifCond .ne 6, 3) := by decide +kernel
theorem dX11_push_10 : decode cX11_push 10 = .ok (.bipush (-5), 2) := by decide +kernel
theorem dX11_push_12 : decode cX11_push 12 = .ok (.ireturn, 1) := by decide +kernel
theorem dX11_push_13 : decode cX11_push 13 = .ok (.aload_n 0, 1) := by decide +kernel
theorem dX11_push_14 : decode cX11_push 14 = .ok (.getfield 67, 3) := by decide +kernel
theorem dX11_push_17 : decode cX11_push 17 = .ok (.getfield 258, 3) := by decide +kernel
theorem dX11_push_20 : decode cX11_push 20 = .ok (.astore_n 1, 1) := by decide +kernel
theorem dX11_push_21 : decode cX11_push 21 = .ok (.aload_n 0, 1) := by decide +kernel
theorem dX11_push_22 : decode cX11_push 22 = .ok (.getfield 37, 3) := by decide +kernel
theorem dX11_push_25 : decode cX11_push 25 = .ok (.aload_n 1, 1) := by decide +kernel
theorem dX11_push_26 : decode cX11_push 26 = .ok (.aload_n 0, 1) := by decide +kernel
theorem dX11_push_27 : decode cX11_push 27 = .ok (.getfield 10, 3) := by decide +kernel
theorem dX11_push_30 : decode cX11_push 30 = .ok (.aload_n 1, 1) := by decide +kernel
theorem dX11_push_31 : decode cX11_push 31 = .ok (.getfield 268, 3) := by decide +kernel
theorem dX11_push_34 : decode cX11_push 34 = .ok (.aload_n 1, 1) := by decide +kernel
theorem dX11_push_35 : decode cX11_push 35 = .ok (.getfield 265, 3) := by decide +kernel
theorem dX11_push_38 : decode cX11_push 38 = .ok (.invokevirtual 271, 3) := by decide +kernel
theorem dX11_push_41 : decode cX11_push 41 = .ok (.invokevirtual 274, 3) := by decide +kernel
theorem dX11_push_44 : decode cX11_push 44 = .ok (.aload_n 0, 1) := by decide +kernel
theorem dX11_push_45 : decode cX11_push 45 = .ok (.getfield 67, 3) := by decide +kernel
theorem dX11_push_48 : decode cX11_push 48 = .ok (.aload_n 0, 1) := by decide +kernel
theorem dX11_push_49 : decode cX11_push 49 = .ok (.getfield 37, 3) := by decide +kernel
theorem dX11_push_52 : decode cX11_push 52 = .ok (.aload_n 1, 1) := by decide +kernel
theorem dX11_push_53 : decode cX11_push 53 = .ok (.invokevirtual 278, 3) := by decide +kernel
theorem dX11_push_56 : decode cX11_push 56 = .ok (.invokevirtual 282, 3) := by decide +kernel
theorem dX11_push_59 : decode cX11_push 59 = .ok (.aload_n 1, 1) := by decide +kernel
theorem dX11_push_60 : decode cX11_push 60 = .ok (.getfield 286, 3) := by decide +kernel
theorem dX11_push_63 : decode cX11_push 63 = .ok (.ireturn, 1) := by decide +kernel
theorem dX11_off_0 : decode cX11_off 0 = .ok (.aload_n 0, 1) := by decide +kernel
theorem dX11_off_1 : decode cX11_off 1 = .ok (.getfield 67, 3) := by decide +kernel
theorem dX11_off_4 : decode cX11_off 4 = .ok (.getfield 254, 3) := by decide +kernel
theorem dX11_off_7 : decode cX11_off 7 = .ok (.ifCond .ne 6, 3) := by decide +kernel
theorem dX11_off_10 : decode cX11_off 10 = .ok (.bipush (-5), 2) := by decide +kernel
theorem dX11_off_12 : decode cX11_off 12 = .ok (.ireturn, 1) := by decide +kernel
theorem dX11_off_13 : decode cX11_off 13 = .ok (.aload_n 0, 1) := by decide +kernel
theorem dX11_off_14 : decode cX11_off 14 = .ok (.getfield 67, 3) := by decide +kernel
theorem dX11_off_17 : decode cX11_off 17 = .ok (.iconst 0, 1) := by decide +kernel
theorem dX11_off_18 : decode cX11_off 18 = .ok (.putfield 254, 3) := by decide +kernel
theorem dX11_off_21 : decode cX11_off 21 = .ok (.aload_n 0, 1) := by decide +kernel
theorem dX11_off_22 : decode cX11_off 22 = .ok (.getfield 67, 3) := by decide +kernel
theorem dX11_off_25 : decode cX11_off 25 = .ok (.dup, 1) := by decide +kernel
theorem dX11_off_26 : decode cX11_off 26 = .ok (.getfield 289, 3) := by decide +kernel
theorem dX11_off_29 : decode cX11_off 29 = .ok (.iconst 1, 1) := by decide +kernel
theorem dX11_off_30 : decode cX11_off 30 = .ok (.iadd, 1) := by decide +kernel
theorem dX11_off_31 : decode cX11_off 31 = .ok (.putfield 289, 3) := by decide +kernel
theorem dX11_off_34 : decode cX11_off 34 = .ok (.aload_n 0, 1) := by decide +kernel
theorem dX11_off_35 : decode cX11_off 35 = .ok (.getfield 67, 3) := by decide +kernel
theorem dX11_off_38 : decode cX11_off 38 = .ok (.getfield 258, 3) := by decide +kernel
theorem dX11_off_41 : decode cX11_off 41 = .ok (.getfield 143, 3) := by decide +kernel
theorem dX11_off_44 : decode cX11_off 44 = .ok (.ireturn, 1) := by decide +kernel
theorem dX11_led_0 : decode cX11_led 0 = .ok (.iload_n 1, 1) := by decide +kernel
theorem dX11_led_1 : decode cX11_led 1 = .ok (.tableswitch 151 0 7 #[47, 55, 63, 71, 79, 87, 95, 121], 47) := by decide +kernel
theorem dX11_led_48 : decode cX11_led 48 = .ok (.aload_n 0, 1) := by decide +kernel
theorem dX11_led_49 : decode cX11_led 49 = .ok (.getfield 67, 3) := by decide +kernel
theorem dX11_led_52 : decode cX11_led 52 = .ok (.getfield 292, 3) := by decide +kernel
theorem dX11_led_55 : decode cX11_led 55 = .ok (.ireturn, 1) := by decide +kernel
theorem dX11_led_56 : decode cX11_led 56 = .ok (.aload_n 0, 1) := by decide +kernel
theorem dX11_led_57 : decode cX11_led 57 = .ok (.getfield 67, 3) := by decide +kernel
theorem dX11_led_60 : decode cX11_led 60 = .ok (.getfield 295, 3) := by decide +kernel
theorem dX11_led_63 : decode cX11_led 63 = .ok (.ireturn, 1) := by decide +kernel
theorem dX11_led_64 : decode cX11_led 64 = .ok (.aload_n 0, 1) := by decide +kernel
theorem dX11_led_65 : decode cX11_led 65 = .ok (.getfield 67, 3) := by decide +kernel
theorem dX11_led_68 : decode cX11_led 68 = .ok (.getfield 296, 3) := by decide +kernel
theorem dX11_led_71 : decode cX11_led 71 = .ok (.ireturn, 1) := by decide +kernel
theorem dX11_led_72 : decode cX11_led 72 = .ok (.aload_n 0, 1) := by decide +kernel
theorem dX11_led_73 : decode cX11_led 73 = .ok (.getfield 67, 3) := by decide +kernel
theorem dX11_led_76 : decode cX11_led 76 = .ok (.getfield 289, 3) := by decide +kernel
theorem dX11_led_79 : decode cX11_led 79 = .ok (.ireturn, 1) := by decide +kernel
theorem dX11_led_80 : decode cX11_led 80 = .ok (.aload_n 0, 1) := by decide +kernel
theorem dX11_led_81 : decode cX11_led 81 = .ok (.getfield 67, 3) := by decide +kernel
theorem dX11_led_84 : decode cX11_led 84 = .ok (.getfield 297, 3) := by decide +kernel
theorem dX11_led_87 : decode cX11_led 87 = .ok (.ireturn, 1) := by decide +kernel
theorem dX11_led_88 : decode cX11_led 88 = .ok (.aload_n 0, 1) := by decide +kernel
theorem dX11_led_89 : decode cX11_led 89 = .ok (.getfield 67, 3) := by decide +kernel
theorem dX11_led_92 : decode cX11_led 92 = .ok (.getfield 298, 3) := by decide +kernel
theorem dX11_led_95 : decode cX11_led 95 = .ok (.ireturn, 1) := by decide +kernel
theorem dX11_led_96 : decode cX11_led 96 = .ok (.aload_n 0, 1) := by decide +kernel
theorem dX11_led_97 : decode cX11_led 97 = .ok (.getfield 67, 3) := by decide +kernel
theorem dX11_led_100 : decode cX11_led 100 = .ok (.getfield 254, 3) := by decide +kernel
theorem dX11_led_103 : decode cX11_led 103 = .ok (.ifCond .eq 16, 3) := by decide +kernel
theorem dX11_led_106 : decode cX11_led 106 = .ok (.aload_n 0, 1) := by decide +kernel
theorem dX11_led_107 : decode cX11_led 107 = .ok (.getfield 67, 3) := by decide +kernel
theorem dX11_led_110 : decode cX11_led 110 = .ok (.getfield 258, 3) := by decide +kernel
theorem dX11_led_113 : decode cX11_led 113 = .ok (.getfield 143, 3) := by decide +kernel
theorem dX11_led_116 : decode cX11_led 116 = .ok (.goto 5, 3) := by decide +kernel
theorem dX11_led_119 : decode cX11_led 119 = .ok (.bipush (-5), 2) := by decide +kernel
theorem dX11_led_121 : decode cX11_led 121 = .ok (.ireturn, 1) := by decide +kernel
theorem dX11_led_122 : decode cX11_led 122 = .ok (.aload_n 0, 1) := by decide +kernel
theorem dX11_led_123 : decode cX11_led 123 = .ok (.getfield 67, 3) := by decide +kernel
theorem dX11_led_126 : decode cX11_led 126 = .ok (.getfield 254, 3) := by decide +kernel
theorem dX11_led_129 : decode cX11_led 129 = .ok (.ifCond .eq 20, 3) := by decide +kernel
theorem dX11_led_132 : decode cX11_led 132 = .ok (.aload_n 0, 1) := by decide +kernel
theorem dX11_led_133 : decode cX11_led 133 = .ok (.getfield 37, 3) := by decide +kernel
theorem dX11_led_136 : decode cX11_led 136 = .ok (.aload_n 0, 1) := by decide +kernel
theorem dX11_led_137 : decode cX11_led 137 = .ok (.getfield 67, 3) := by decide +kernel
theorem dX11_led_140 : decode cX11_led 140 = .ok (.getfield 258, 3) := by decide +kernel
theorem dX11_led_143 : decode cX11_led 143 = .ok (.invokevirtual 155, 3) := by decide +kernel
theorem dX11_led_146 : decode cX11_led 146 = .ok (.goto 5, 3) := by decide +kernel
theorem dX11_led_149 : decode cX11_led 149 = .ok (.bipush (-5), 2) := by decide +kernel
theorem dX11_led_151 : decode cX11_led 151 = .ok (.ireturn, 1) := by decide +kernel
theorem dX11_led_152 : decode cX11_led 152 = .ok (.iconst (-1), 1) := by decide +kernel
theorem dX11_led_153 : decode cX11_led 153 = .ok (.ireturn, 1) := by decide +kernel
theorem dX11_image_0 : decode cX11_image 0 = .ok (.aload_n 0, 1) := by decide +kernel
theorem dX11_image_1 : decode cX11_image 1 = .ok (.getfield 71, 3) := by decide +kernel
theorem dX11_image_4 : decode cX11_image 4 = .ok (.aload_n 0, 1) := by decide +kernel
theorem dX11_image_5 : decode cX11_image 5 = .ok (.getfield 67, 3) := by decide +kernel
theorem dX11_image_8 : decode cX11_image 8 = .ok (.invokevirtual 301, 3) := by decide +kernel
theorem dX11_image_11 : decode cX11_image 11 = .ok (.aload_n 0, 1) := by decide +kernel
theorem dX11_image_12 : decode cX11_image 12 = .ok (.iconst 1, 1) := by decide +kernel
theorem dX11_image_13 : decode cX11_image 13 = .ok (.putfield 305, 3) := by decide +kernel
theorem dX11_image_16 : decode cX11_image 16 = .ok (.aload_n 0, 1) := by decide +kernel
theorem dX11_image_17 : decode cX11_image 17 = .ok (.getfield 67, 3) := by decide +kernel
theorem dX11_image_20 : decode cX11_image 20 = .ok (.getfield 292, 3) := by decide +kernel
theorem dX11_image_23 : decode cX11_image 23 = .ok (.ireturn, 1) := by decide +kernel
theorem dX11_back_0 : decode cX11_back 0 = .ok (.aload_n 0, 1) := by decide +kernel
theorem dX11_back_1 : decode cX11_back 1 = .ok (.getfield 305, 3) := by decide +kernel
theorem dX11_back_4 : decode cX11_back 4 = .ok (.ifCond .ne 6, 3) := by decide +kernel
theorem dX11_back_7 : decode cX11_back 7 = .ok (.bipush (-5), 2) := by decide +kernel
theorem dX11_back_9 : decode cX11_back 9 = .ok (.ireturn, 1) := by decide +kernel
theorem dX11_back_10 : decode cX11_back 10 = .ok (.aload_n 0, 1) := by decide +kernel
theorem dX11_back_11 : decode cX11_back 11 = .ok (.getfield 67, 3) := by decide +kernel
theorem dX11_back_14 : decode cX11_back 14 = .ok (.aload_n 0, 1) := by decide +kernel
theorem dX11_back_15 : decode cX11_back 15 = .ok (.getfield 71, 3) := by decide +kernel
theorem dX11_back_18 : decode cX11_back 18 = .ok (.invokevirtual 301, 3) := by decide +kernel
theorem dX11_back_21 : decode cX11_back 21 = .ok (.aload_n 0, 1) := by decide +kernel
theorem dX11_back_22 : decode cX11_back 22 = .ok (.getfield 67, 3) := by decide +kernel
theorem dX11_back_25 : decode cX11_back 25 = .ok (.getfield 292, 3) := by decide +kernel
theorem dX11_back_28 : decode cX11_back 28 = .ok (.ireturn, 1) := by decide +kernel
theorem dX11_undo_0 : decode cX11_undo 0 = .ok (.aload_n 0, 1) := by decide +kernel
theorem dX11_undo_1 : decode cX11_undo 1 = .ok (.getfield 21, 3) := by decide +kernel
theorem dX11_undo_4 : decode cX11_undo 4 = .ok (.invokevirtual 308, 3) := by decide +kernel
theorem dX11_undo_7 : decode cX11_undo 7 = .ok (.ireturn, 1) := by decide +kernel
theorem dX11_redo_0 : decode cX11_redo 0 = .ok (.aload_n 0, 1) := by decide +kernel
theorem dX11_redo_1 : decode cX11_redo 1 = .ok (.getfield 21, 3) := by decide +kernel
theorem dX11_redo_4 : decode cX11_redo 4 = .ok (.invokevirtual 311, 3) := by decide +kernel
theorem dX11_redo_7 : decode cX11_redo 7 = .ok (.ireturn, 1) := by decide +kernel
theorem dX11_body_0 : decode cX11_body 0 = .ok (.aload_n 0, 1) := by decide +kernel
theorem dX11_body_1 : decode cX11_body 1 = .ok (.getfield 77, 3) := by decide +kernel
theorem dX11_body_4 : decode cX11_body 4 = .ok (.iload_n 1, 1) := by decide +kernel
theorem dX11_body_5 : decode cX11_body 5 = .ok (.invokevirtual 314, 3) := by decide +kernel
theorem dX11_body_8 : decode cX11_body 8 = .ok (.ireturn, 1) := by decide +kernel
theorem dX11_act_0 : decode cX11_act 0 = .ok (.aload_n 0, 1) := by decide +kernel
theorem dX11_act_1 : decode cX11_act 1 = .ok (.getfield 77, 3) := by decide +kernel
theorem dX11_act_4 : decode cX11_act 4 = .ok (.iload_n 1, 1) := by decide +kernel
theorem dX11_act_5 : decode cX11_act 5 = .ok (.iload_n 2, 1) := by decide +kernel
theorem dX11_act_6 : decode cX11_act 6 = .ok (.iload_n 3, 1) := by decide +kernel
theorem dX11_act_7 : decode cX11_act 7 = .ok (.invokevirtual 317, 3) := by decide +kernel
theorem dX11_act_10 : decode cX11_act 10 = .ok (.ireturn, 1) := by decide +kernel
theorem dX11_trace_0 : decode cX11_trace 0 = .ok (.aload_n 0, 1) := by decide +kernel
theorem dX11_trace_1 : decode cX11_trace 1 = .ok (.getfield 77, 3) := by decide +kernel
theorem dX11_trace_4 : decode cX11_trace 4 = .ok (.iload_n 1, 1) := by decide +kernel
theorem dX11_trace_5 : decode cX11_trace 5 = .ok (.invokevirtual 320, 3) := by decide +kernel
theorem dX11_trace_8 : decode cX11_trace 8 = .ok (.ireturn, 1) := by decide +kernel
theorem dX11_keep_0 : decode cX11_keep 0 = .ok (.aload_n 0, 1) := by decide +kernel
theorem dX11_keep_1 : decode cX11_keep 1 = .ok (.getfield 84, 3) := by decide +kernel
theorem dX11_keep_4 : decode cX11_keep 4 = .ok (.iload_n 1, 1) := by decide +kernel
theorem dX11_keep_5 : decode cX11_keep 5 = .ok (.invokevirtual 92, 3) := by decide +kernel
theorem dX11_keep_8 : decode cX11_keep 8 = .ok (.ifCond .eq 19, 3) := by decide +kernel
theorem dX11_keep_11 : decode cX11_keep 11 = .ok (.iload_n 2, 1) := by decide +kernel
theorem dX11_keep_12 : decode cX11_keep 12 = .ok (.iconst (-1), 1) := by decide +kernel
theorem dX11_keep_13 : decode cX11_keep 13 = .ok (.if_icmp .eq 16, 3) := by decide +kernel
theorem dX11_keep_16 : decode cX11_keep 16 = .ok (.aload_n 0, 1) := by decide +kernel
theorem dX11_keep_17 : decode cX11_keep 17 = .ok (.getfield 77, 3) := by decide +kernel
theorem dX11_keep_20 : decode cX11_keep 20 = .ok (.iload_n 2, 1) := by decide +kernel
theorem dX11_keep_21 : decode cX11_keep 21 = .ok (.invokevirtual 323, 3) := by decide +kernel
theorem dX11_keep_24 : decode cX11_keep 24 = .ok (.ifCond .ne 5, 3) := by decide +kernel
theorem dX11_keep_27 : decode cX11_keep 27 = .ok (.iconst (-1), 1) := by decide +kernel
theorem dX11_keep_28 : decode cX11_keep 28 = .ok (.ireturn, 1) := by decide +kernel
theorem dX11_keep_29 : decode cX11_keep 29 = .ok (.aload_n 0, 1) := by decide +kernel
theorem dX11_keep_30 : decode cX11_keep 30 = .ok (.getfield 84, 3) := by decide +kernel
theorem dX11_keep_33 : decode cX11_keep 33 = .ok (.iload_n 1, 1) := by decide +kernel
theorem dX11_keep_34 : decode cX11_keep 34 = .ok (.iload_n 2, 1) := by decide +kernel
theorem dX11_keep_35 : decode cX11_keep 35 = .ok (.invokevirtual 326, 3) := by decide +kernel
theorem dX11_keep_38 : decode cX11_keep 38 = .ok (.iconst 1, 1) := by decide +kernel
theorem dX11_keep_39 : decode cX11_keep 39 = .ok (.ireturn, 1) := by decide +kernel
theorem dX11_row_0 : decode cX11_row 0 = .ok (.aload_n 0, 1) := by decide +kernel
theorem dX11_row_1 : decode cX11_row 1 = .ok (.getfield 84, 3) := by decide +kernel
theorem dX11_row_4 : decode cX11_row 4 = .ok (.iload_n 1, 1) := by decide +kernel
theorem dX11_row_5 : decode cX11_row 5 = .ok (.invokevirtual 92, 3) := by decide +kernel
theorem dX11_row_8 : decode cX11_row 8 = .ok (.ifCond .eq 18, 3) := by decide +kernel
theorem dX11_row_11 : decode cX11_row 11 = .ok (.iload_n 2, 1) := by decide +kernel
theorem dX11_row_12 : decode cX11_row 12 = .ok (.ifCond .lt 14, 3) := by decide +kernel
theorem dX11_row_15 : decode cX11_row 15 = .ok (.iload_n 2, 1) := by decide +kernel
theorem dX11_row_16 : decode cX11_row 16 = .ok (.iconst 5, 1) := by decide +kernel
theorem dX11_row_17 : decode cX11_row 17 = .ok (.if_icmp .ge 9, 3) := by decide +kernel
theorem dX11_row_20 : decode cX11_row 20 = .ok (.iload_n 3, 1) := by decide +kernel
theorem dX11_row_21 : decode cX11_row 21 = .ok (.bipush 60, 2) := by decide +kernel
theorem dX11_row_23 : decode cX11_row 23 = .ok (.if_icmp .le 5, 3) := by decide +kernel
theorem dX11_row_26 : decode cX11_row 26 = .ok (.iconst (-1), 1) := by decide +kernel
theorem dX11_row_27 : decode cX11_row 27 = .ok (.ireturn, 1) := by decide +kernel
theorem dX11_row_28 : decode cX11_row 28 = .ok (.iload_n 3, 1) := by decide +kernel
theorem dX11_row_29 : decode cX11_row 29 = .ok (.ifCond .ge 6, 3) := by decide +kernel
theorem dX11_row_32 : decode cX11_row 32 = .ok (.bipush (-14), 2) := by decide +kernel
theorem dX11_row_34 : decode cX11_row 34 = .ok (.ireturn, 1) := by decide +kernel
theorem dX11_row_35 : decode cX11_row 35 = .ok (.aload_n 0, 1) := by decide +kernel
theorem dX11_row_36 : decode cX11_row 36 = .ok (.getfield 84, 3) := by decide +kernel
theorem dX11_row_39 : decode cX11_row 39 = .ok (.iload_n 1, 1) := by decide +kernel
theorem dX11_row_40 : decode cX11_row 40 = .ok (.iload_n 2, 1) := by decide +kernel
theorem dX11_row_41 : decode cX11_row 41 = .ok (.iload_n 3, 1) := by decide +kernel
theorem dX11_row_42 : decode cX11_row 42 = .ok (.invokevirtual 329, 3) := by decide +kernel
theorem dX11_row_45 : decode cX11_row 45 = .ok (.iconst 1, 1) := by decide +kernel
theorem dX11_row_46 : decode cX11_row 46 = .ok (.ireturn, 1) := by decide +kernel
theorem dX11_put_0 : decode cX11_put 0 = .ok (.aload_n 0, 1) := by decide +kernel
theorem dX11_put_1 : decode cX11_put 1 = .ok (.getfield 84, 3) := by decide +kernel
theorem dX11_put_4 : decode cX11_put 4 = .ok (.iload_n 1, 1) := by decide +kernel
theorem dX11_put_5 : decode cX11_put 5 = .ok (.iload_n 2, 1) := by decide +kernel
theorem dX11_put_6 : decode cX11_put 6 = .ok (.invokevirtual 332, 3) := by decide +kernel
theorem dX11_put_9 : decode cX11_put 9 = .ok (.istore 5, 2) := by decide +kernel
theorem dX11_put_11 : decode cX11_put 11 = .ok (.iload 5, 2) := by decide +kernel
theorem dX11_put_13 : decode cX11_put 13 = .ok (.ifCond .eq 6, 3) := by decide +kernel
theorem dX11_put_16 : decode cX11_put 16 = .ok (.iload 5, 2) := by decide +kernel
theorem dX11_put_18 : decode cX11_put 18 = .ok (.ireturn, 1) := by decide +kernel
theorem dX11_put_19 : decode cX11_put 19 = .ok (.aload_n 0, 1) := by decide +kernel
theorem dX11_put_20 : decode cX11_put 20 = .ok (.getfield 84, 3) := by decide +kernel
theorem dX11_put_23 : decode cX11_put 23 = .ok (.iload_n 1, 1) := by decide +kernel
theorem dX11_put_24 : decode cX11_put 24 = .ok (.iload_n 2, 1) := by decide +kernel
theorem dX11_put_25 : decode cX11_put 25 = .ok (.lload_n 3, 1) := by decide +kernel
theorem dX11_put_26 : decode cX11_put 26 = .ok (.invokevirtual 335, 3) := by decide +kernel
theorem dX11_put_29 : decode cX11_put 29 = .ok (.iconst 1, 1) := by decide +kernel
theorem dX11_put_30 : decode cX11_put 30 = .ok (.ireturn, 1) := by decide +kernel
theorem dX11_element_0 : decode cX11_element 0 = .ok (.aload_n 0, 1) := by decide +kernel
theorem dX11_element_1 : decode cX11_element 1 = .ok (.getfield 84, 3) := by decide +kernel
theorem dX11_element_4 : decode cX11_element 4 = .ok (.iload_n 1, 1) := by decide +kernel
theorem dX11_element_5 : decode cX11_element 5 = .ok (.iload_n 2, 1) := by decide +kernel
theorem dX11_element_6 : decode cX11_element 6 = .ok (.invokevirtual 332, 3) := by decide +kernel
theorem dX11_element_9 : decode cX11_element 9 = .ok (.ifCond .eq 9, 3) := by decide +kernel
theorem dX11_element_12 : decode cX11_element 12 = .ok (.ldc2_w 339, 3) := by decide +kernel
theorem dX11_element_15 : decode cX11_element 15 = .ok (.goto 12, 3) := by decide +kernel
theorem dX11_element_18 : decode cX11_element 18 = .ok (.aload_n 0, 1) := by decide +kernel
theorem dX11_element_19 : decode cX11_element 19 = .ok (.getfield 84, 3) := by decide +kernel
theorem dX11_element_22 : decode cX11_element 22 = .ok (.iload_n 1, 1) := by decide +kernel
theorem dX11_element_23 : decode cX11_element 23 = .ok (.iload_n 2, 1) := by decide +kernel
theorem dX11_element_24 : decode cX11_element 24 = .ok (.invokevirtual 104, 3) := by decide +kernel
theorem dX11_element_27 : decode cX11_element 27 = .ok (.lreturn, 1) := by decide +kernel
theorem dX11_shift_0 : decode cX11_shift 0 = .ok (.aload_n 0, 1) := by decide +kernel
theorem dX11_shift_1 : decode cX11_shift 1 = .ok (.getfield 84, 3) := by decide +kernel
theorem dX11_shift_4 : decode cX11_shift 4 = .ok (.iload_n 1, 1) := by decide +kernel
theorem dX11_shift_5 : decode cX11_shift 5 = .ok (.invokevirtual 92, 3) := by decide +kernel
theorem dX11_shift_8 : decode cX11_shift 8 = .ok (.ifCond .eq 14, 3) := by decide +kernel
theorem dX11_shift_11 : decode cX11_shift 11 = .ok (.aload_n 0, 1) := by decide +kernel
theorem dX11_shift_12 : decode cX11_shift 12 = .ok (.getfield 84, 3) := by decide +kernel
theorem dX11_shift_15 : decode cX11_shift 15 = .ok (.iload_n 3, 1) := by decide +kernel
theorem dX11_shift_16 : decode cX11_shift 16 = .ok (.invokevirtual 92, 3) := by decide +kernel
theorem dX11_shift_19 : decode cX11_shift 19 = .ok (.ifCond .ne 5, 3) := by decide +kernel
theorem dX11_shift_22 : decode cX11_shift 22 = .ok (.iconst (-1), 1) := by decide +kernel
theorem dX11_shift_23 : decode cX11_shift 23 = .ok (.ireturn, 1) := by decide +kernel
theorem dX11_shift_24 : decode cX11_shift 24 = .ok (.aload_n 0, 1) := by decide +kernel
theorem dX11_shift_25 : decode cX11_shift 25 = .ok (.getfield 84, 3) := by decide +kernel
theorem dX11_shift_28 : decode cX11_shift 28 = .ok (.iload_n 1, 1) := by decide +kernel
theorem dX11_shift_29 : decode cX11_shift 29 = .ok (.invokevirtual 341, 3) := by decide +kernel
theorem dX11_shift_32 : decode cX11_shift 32 = .ok (.ifCond .ne 14, 3) := by decide +kernel
theorem dX11_shift_35 : decode cX11_shift 35 = .ok (.aload_n 0, 1) := by decide +kernel
theorem dX11_shift_36 : decode cX11_shift 36 = .ok (.getfield 84, 3) := by decide +kernel
theorem dX11_shift_39 : decode cX11_shift 39 = .ok (.iload_n 3, 1) := by decide +kernel
theorem dX11_shift_40 : decode cX11_shift 40 = .ok (.invokevirtual 341, 3) := by decide +kernel
theorem dX11_shift_43 : decode cX11_shift 43 = .ok (.ifCond .eq 6, 3) := by decide +kernel
theorem dX11_shift_46 : decode cX11_shift 46 = .ok (.bipush (-11), 2) := by decide +kernel
theorem dX11_shift_48 : decode cX11_shift 48 = .ok (.ireturn, 1) := by decide +kernel
theorem dX11_shift_49 : decode cX11_shift 49 = .ok (.aload_n 0, 1) := by decide +kernel
theorem dX11_shift_50 : decode cX11_shift 50 = .ok (.getfield 84, 3) := by decide +kernel
theorem dX11_shift_53 : decode cX11_shift 53 = .ok (.iload_n 1, 1) := by decide +kernel
theorem dX11_shift_54 : decode cX11_shift 54 = .ok (.iload_n 3, 1) := by decide +kernel
theorem dX11_shift_55 : decode cX11_shift 55 = .ok (.invokevirtual 344, 3) := by decide +kernel
theorem dX11_shift_58 : decode cX11_shift 58 = .ok (.ifCond .ne 6, 3) := by decide +kernel
theorem dX11_shift_61 : decode cX11_shift 61 = .ok (.bipush (-12), 2) := by decide +kernel
theorem dX11_shift_63 : decode cX11_shift 63 = .ok (.ireturn, 1) := by decide +kernel
theorem dX11_shift_64 : decode cX11_shift 64 = .ok (.aload_n 0, 1) := by decide +kernel
theorem dX11_shift_65 : decode cX11_shift 65 = .ok (.getfield 84, 3) := by decide +kernel
theorem dX11_shift_68 : decode cX11_shift 68 = .ok (.iload_n 1, 1) := by decide +kernel
theorem dX11_shift_69 : decode cX11_shift 69 = .ok (.iload_n 2, 1) := by decide +kernel
theorem dX11_shift_70 : decode cX11_shift 70 = .ok (.iload 5, 2) := by decide +kernel
theorem dX11_shift_72 : decode cX11_shift 72 = .ok (.invokevirtual 100, 3) := by decide +kernel
theorem dX11_shift_75 : decode cX11_shift 75 = .ok (.ifCond .eq 18, 3) := by decide +kernel
theorem dX11_shift_78 : decode cX11_shift 78 = .ok (.aload_n 0, 1) := by decide +kernel
theorem dX11_shift_79 : decode cX11_shift 79 = .ok (.getfield 84, 3) := by decide +kernel
theorem dX11_shift_82 : decode cX11_shift 82 = .ok (.iload_n 3, 1) := by decide +kernel
theorem dX11_shift_83 : decode cX11_shift 83 = .ok (.iload 4, 2) := by decide +kernel
theorem dX11_shift_85 : decode cX11_shift 85 = .ok (.iload 5, 2) := by decide +kernel
theorem dX11_shift_87 : decode cX11_shift 87 = .ok (.invokevirtual 100, 3) := by decide +kernel
theorem dX11_shift_90 : decode cX11_shift 90 = .ok (.ifCond .ne 6, 3) := by decide +kernel
theorem dX11_shift_93 : decode cX11_shift 93 = .ok (.bipush (-13), 2) := by decide +kernel
theorem dX11_shift_95 : decode cX11_shift 95 = .ok (.ireturn, 1) := by decide +kernel
theorem dX11_shift_96 : decode cX11_shift 96 = .ok (.aload_n 0, 1) := by decide +kernel
theorem dX11_shift_97 : decode cX11_shift 97 = .ok (.getfield 84, 3) := by decide +kernel
theorem dX11_shift_100 : decode cX11_shift 100 = .ok (.iload_n 1, 1) := by decide +kernel
theorem dX11_shift_101 : decode cX11_shift 101 = .ok (.iload_n 2, 1) := by decide +kernel
theorem dX11_shift_102 : decode cX11_shift 102 = .ok (.iload_n 3, 1) := by decide +kernel
theorem dX11_shift_103 : decode cX11_shift 103 = .ok (.iload 4, 2) := by decide +kernel
theorem dX11_shift_105 : decode cX11_shift 105 = .ok (.iload 5, 2) := by decide +kernel
theorem dX11_shift_107 : decode cX11_shift 107 = .ok (.invokevirtual 347, 3) := by decide +kernel
theorem dX11_shift_110 : decode cX11_shift 110 = .ok (.iload 5, 2) := by decide +kernel
theorem dX11_shift_112 : decode cX11_shift 112 = .ok (.ireturn, 1) := by decide +kernel
theorem dX11_taken_0 : decode cX11_taken 0 = .ok (.aload_n 0, 1) := by decide +kernel
theorem dX11_taken_1 : decode cX11_taken 1 = .ok (.getfield 84, 3) := by decide +kernel
theorem dX11_taken_4 : decode cX11_taken 4 = .ok (.iload_n 1, 1) := by decide +kernel
theorem dX11_taken_5 : decode cX11_taken 5 = .ok (.invokevirtual 92, 3) := by decide +kernel
theorem dX11_taken_8 : decode cX11_taken 8 = .ok (.ifCond .eq 13, 3) := by decide +kernel
theorem dX11_taken_11 : decode cX11_taken 11 = .ok (.iload_n 2, 1) := by decide +kernel
theorem dX11_taken_12 : decode cX11_taken 12 = .ok (.ifCond .lt 9, 3) := by decide +kernel
theorem dX11_taken_15 : decode cX11_taken 15 = .ok (.iload_n 2, 1) := by decide +kernel
theorem dX11_taken_16 : decode cX11_taken 16 = .ok (.bipush 8, 2) := by decide +kernel
theorem dX11_taken_18 : decode cX11_taken 18 = .ok (.if_icmp .lt 5, 3) := by decide +kernel
theorem dX11_taken_21 : decode cX11_taken 21 = .ok (.iconst (-1), 1) := by decide +kernel
theorem dX11_taken_22 : decode cX11_taken 22 = .ok (.ireturn, 1) := by decide +kernel
theorem dX11_taken_23 : decode cX11_taken 23 = .ok (.aload_n 0, 1) := by decide +kernel
theorem dX11_taken_24 : decode cX11_taken 24 = .ok (.getfield 84, 3) := by decide +kernel
theorem dX11_taken_27 : decode cX11_taken 27 = .ok (.iload_n 1, 1) := by decide +kernel
theorem dX11_taken_28 : decode cX11_taken 28 = .ok (.invokevirtual 341, 3) := by decide +kernel
theorem dX11_taken_31 : decode cX11_taken 31 = .ok (.ifCond .eq 6, 3) := by decide +kernel
theorem dX11_taken_34 : decode cX11_taken 34 = .ok (.bipush (-11), 2) := by decide +kernel
theorem dX11_taken_36 : decode cX11_taken 36 = .ok (.ireturn, 1) := by decide +kernel
theorem dX11_taken_37 : decode cX11_taken 37 = .ok (.aload_n 0, 1) := by decide +kernel
theorem dX11_taken_38 : decode cX11_taken 38 = .ok (.getfield 77, 3) := by decide +kernel
theorem dX11_taken_41 : decode cX11_taken 41 = .ok (.aload_n 0, 1) := by decide +kernel
theorem dX11_taken_42 : decode cX11_taken 42 = .ok (.getfield 84, 3) := by decide +kernel
theorem dX11_taken_45 : decode cX11_taken 45 = .ok (.iload_n 1, 1) := by decide +kernel
theorem dX11_taken_46 : decode cX11_taken 46 = .ok (.invokevirtual 351, 3) := by decide +kernel
theorem dX11_taken_49 : decode cX11_taken 49 = .ok (.invokevirtual 354, 3) := by decide +kernel
theorem dX11_taken_52 : decode cX11_taken 52 = .ok (.istore_n 3, 1) := by decide +kernel
theorem dX11_taken_53 : decode cX11_taken 53 = .ok (.aload_n 0, 1) := by decide +kernel
theorem dX11_taken_54 : decode cX11_taken 54 = .ok (.getfield 77, 3) := by decide +kernel
theorem dX11_taken_57 : decode cX11_taken 57 = .ok (.iload_n 3, 1) := by decide +kernel
theorem dX11_taken_58 : decode cX11_taken 58 = .ok (.iload_n 2, 1) := by decide +kernel
theorem dX11_taken_59 : decode cX11_taken 59 = .ok (.invokevirtual 357, 3) := by decide +kernel
theorem dX11_taken_62 : decode cX11_taken 62 = .ok (.ifCond .eq 7, 3) := by decide +kernel
theorem dX11_taken_65 : decode cX11_taken 65 = .ok (.iload_n 3, 1) := by decide +kernel
theorem dX11_taken_66 : decode cX11_taken 66 = .ok (.goto 5, 3) := by decide +kernel
theorem dX11_taken_69 : decode cX11_taken 69 = .ok (.bipush (-12), 2) := by decide +kernel
theorem dX11_taken_71 : decode cX11_taken 71 = .ok (.ireturn, 1) := by decide +kernel
theorem dX11_count_0 : decode cX11_count 0 = .ok (.iload_n 1, 1) := by decide +kernel
theorem dX11_count_1 : decode cX11_count 1 = .ok (.tableswitch 75 0 4 #[35, 43, 51, 59, 67], 35) := by decide +kernel
theorem dX11_count_36 : decode cX11_count 36 = .ok (.aload_n 0, 1) := by decide +kernel
theorem dX11_count_37 : decode cX11_count 37 = .ok (.getfield 10, 3) := by decide +kernel
theorem dX11_count_40 : decode cX11_count 40 = .ok (.getfield 200, 3) := by decide +kernel
theorem dX11_count_43 : decode cX11_count 43 = .ok (.ireturn, 1) := by decide +kernel
theorem dX11_count_44 : decode cX11_count 44 = .ok (.aload_n 0, 1) := by decide +kernel
theorem dX11_count_45 : decode cX11_count 45 = .ok (.getfield 28, 3) := by decide +kernel
theorem dX11_count_48 : decode cX11_count 48 = .ok (.getfield 360, 3) := by decide +kernel
theorem dX11_count_51 : decode cX11_count 51 = .ok (.ireturn, 1) := by decide +kernel
theorem dX11_count_52 : decode cX11_count 52 = .ok (.aload_n 0, 1) := by decide +kernel
theorem dX11_count_53 : decode cX11_count 53 = .ok (.getfield 21, 3) := by decide +kernel
theorem dX11_count_56 : decode cX11_count 56 = .ok (.getfield 363, 3) := by decide +kernel
theorem dX11_count_59 : decode cX11_count 59 = .ok (.ireturn, 1) := by decide +kernel
theorem dX11_count_60 : decode cX11_count 60 = .ok (.aload_n 0, 1) := by decide +kernel
theorem dX11_count_61 : decode cX11_count 61 = .ok (.getfield 77, 3) := by decide +kernel
theorem dX11_count_64 : decode cX11_count 64 = .ok (.getfield 366, 3) := by decide +kernel
theorem dX11_count_67 : decode cX11_count 67 = .ok (.ireturn, 1) := by decide +kernel
theorem dX11_count_68 : decode cX11_count 68 = .ok (.aload_n 0, 1) := by decide +kernel
theorem dX11_count_69 : decode cX11_count 69 = .ok (.getfield 77, 3) := by decide +kernel
theorem dX11_count_72 : decode cX11_count 72 = .ok (.getfield 367, 3) := by decide +kernel
theorem dX11_count_75 : decode cX11_count 75 = .ok (.ireturn, 1) := by decide +kernel
theorem dX11_count_76 : decode cX11_count 76 = .ok (.iconst (-1), 1) := by decide +kernel
theorem dX11_count_77 : decode cX11_count 77 = .ok (.ireturn, 1) := by decide +kernel
theorem dX11_swingOf_0 : decode cX11_swingOf 0 = .ok (.iload_n 0, 1) := by decide +kernel
theorem dX11_swingOf_1 : decode cX11_swingOf 1 = .ok (.bipush 100, 2) := by decide +kernel
theorem dX11_swingOf_3 : decode cX11_swingOf 3 = .ok (.idiv, 1) := by decide +kernel
theorem dX11_swingOf_4 : decode cX11_swingOf 4 = .ok (.ireturn, 1) := by decide +kernel
theorem dX11_childOf_0 : decode cX11_childOf 0 = .ok (.iload_n 0, 1) := by decide +kernel
theorem dX11_childOf_1 : decode cX11_childOf 1 = .ok (.bipush 10, 2) := by decide +kernel
theorem dX11_childOf_3 : decode cX11_childOf 3 = .ok (.idiv, 1) := by decide +kernel
theorem dX11_childOf_4 : decode cX11_childOf 4 = .ok (.bipush 10, 2) := by decide +kernel
theorem dX11_childOf_6 : decode cX11_childOf 6 = .ok (.irem, 1) := by decide +kernel
theorem dX11_childOf_7 : decode cX11_childOf 7 = .ok (.ireturn, 1) := by decide +kernel
theorem dX11_isBell_0 : decode cX11_isBell 0 = .ok (.iload_n 0, 1) := by decide +kernel
theorem dX11_isBell_1 : decode cX11_isBell 1 = .ok (.iconst 1, 1) := by decide +kernel
theorem dX11_isBell_2 : decode cX11_isBell 2 = .ok (.if_icmp .lt 14, 3) := by decide +kernel
theorem dX11_isBell_5 : decode cX11_isBell 5 = .ok (.iload_n 0, 1) := by decide +kernel
theorem dX11_isBell_6 : decode cX11_isBell 6 = .ok (.sipush 3600, 3) := by decide +kernel
theorem dX11_isBell_9 : decode cX11_isBell 9 = .ok (.if_icmp .gt 7, 3) := by decide +kernel
theorem dX11_isBell_12 : decode cX11_isBell 12 = .ok (.iconst 1, 1) := by decide +kernel
theorem dX11_isBell_13 : decode cX11_isBell 13 = .ok (.goto 4, 3) := by decide +kernel
theorem dX11_isBell_16 : decode cX11_isBell 16 = .ok (.iconst 0, 1) := by decide +kernel
theorem dX11_isBell_17 : decode cX11_isBell 17 = .ok (.ireturn, 1) := by decide +kernel
theorem dX11_isWaiting_0 : decode cX11_isWaiting 0 = .ok (.iload_n 0, 1) := by decide +kernel
theorem dX11_isWaiting_1 : decode cX11_isWaiting 1 = .ok (.ifCond .lt 13, 3) := by decide +kernel
theorem dX11_isWaiting_4 : decode cX11_isWaiting 4 = .ok (.iload_n 0, 1) := by decide +kernel
theorem dX11_isWaiting_5 : decode cX11_isWaiting 5 = .ok (.bipush 8, 2) := by decide +kernel
theorem dX11_isWaiting_7 : decode cX11_isWaiting 7 = .ok (.if_icmp .gt 7, 3) := by decide +kernel
theorem dX11_isWaiting_10 : decode cX11_isWaiting 10 = .ok (.iconst 1, 1) := by decide +kernel
theorem dX11_isWaiting_11 : decode cX11_isWaiting 11 = .ok (.goto 4, 3) := by decide +kernel
theorem dX11_isWaiting_14 : decode cX11_isWaiting 14 = .ok (.iconst 0, 1) := by decide +kernel
theorem dX11_isWaiting_15 : decode cX11_isWaiting 15 = .ok (.ireturn, 1) := by decide +kernel
theorem dX11_isTold_0 : decode cX11_isTold 0 = .ok (.iload_n 1, 1) := by decide +kernel
theorem dX11_isTold_1 : decode cX11_isTold 1 = .ok (.ifCond .lt 60, 3) := by decide +kernel
theorem dX11_isTold_4 : decode cX11_isTold 4 = .ok (.aload_n 0, 1) := by decide +kernel
theorem dX11_isTold_5 : decode cX11_isTold 5 = .ok (.getfield 10, 3) := by decide +kernel
theorem dX11_isTold_8 : decode cX11_isTold 8 = .ok (.iload_n 1, 1) := by decide +kernel
theorem dX11_isTold_9 : decode cX11_isTold 9 = .ok (.invokestatic 133, 3) := by decide +kernel
theorem dX11_isTold_12 : decode cX11_isTold 12 = .ok (.invokevirtual 175, 3) := by decide +kernel
theorem dX11_isTold_15 : decode cX11_isTold 15 = .ok (.ifCond .eq 46, 3) := by decide +kernel
theorem dX11_isTold_18 : decode cX11_isTold 18 = .ok (.aload_n 0, 1) := by decide +kernel
theorem dX11_isTold_19 : decode cX11_isTold 19 = .ok (.getfield 10, 3) := by decide +kernel
theorem dX11_isTold_22 : decode cX11_isTold 22 = .ok (.iload_n 1, 1) := by decide +kernel
theorem dX11_isTold_23 : decode cX11_isTold 23 = .ok (.invokestatic 136, 3) := by decide +kernel
theorem dX11_isTold_26 : decode cX11_isTold 26 = .ok (.invokevirtual 172, 3) := by decide +kernel
theorem dX11_isTold_29 : decode cX11_isTold 29 = .ok (.ifCond .eq 32, 3) := by decide +kernel
theorem dX11_isTold_32 : decode cX11_isTold 32 = .ok (.aload_n 0, 1) := by decide +kernel
theorem dX11_isTold_33 : decode cX11_isTold 33 = .ok (.getfield 10, 3) := by decide +kernel
theorem dX11_isTold_36 : decode cX11_isTold 36 = .ok (.iload_n 1, 1) := by decide +kernel
theorem dX11_isTold_37 : decode cX11_isTold 37 = .ok (.bipush 10, 2) := by decide +kernel
theorem dX11_isTold_39 : decode cX11_isTold 39 = .ok (.irem, 1) := by decide +kernel
theorem dX11_isTold_40 : decode cX11_isTold 40 = .ok (.iload_n 1, 1) := by decide +kernel
theorem dX11_isTold_41 : decode cX11_isTold 41 = .ok (.invokestatic 136, 3) := by decide +kernel
theorem dX11_isTold_44 : decode cX11_isTold 44 = .ok (.invokevirtual 162, 3) := by decide +kernel
theorem dX11_isTold_47 : decode cX11_isTold 47 = .ok (.ifCond .eq 14, 3) := by decide +kernel
theorem dX11_isTold_50 : decode cX11_isTold 50 = .ok (.iload_n 2, 1) := by decide +kernel
theorem dX11_isTold_51 : decode cX11_isTold 51 = .ok (.invokestatic 251, 3) := by decide +kernel
theorem dX11_isTold_54 : decode cX11_isTold 54 = .ok (.ifCond .eq 7, 3) := by decide +kernel
theorem dX11_isTold_57 : decode cX11_isTold 57 = .ok (.iconst 1, 1) := by decide +kernel
theorem dX11_isTold_58 : decode cX11_isTold 58 = .ok (.goto 4, 3) := by decide +kernel
theorem dX11_isTold_61 : decode cX11_isTold 61 = .ok (.iconst 0, 1) := by decide +kernel
theorem dX11_isTold_62 : decode cX11_isTold 62 = .ok (.ireturn, 1) := by decide +kernel
theorem dX11_timesOnAll_0 : decode cX11_timesOnAll 0 = .ok (.iconst 0, 1) := by decide +kernel
theorem dX11_timesOnAll_1 : decode cX11_timesOnAll 1 = .ok (.istore_n 2, 1) := by decide +kernel
theorem dX11_timesOnAll_2 : decode cX11_timesOnAll 2 = .ok (.iconst 0, 1) := by decide +kernel
theorem dX11_timesOnAll_3 : decode cX11_timesOnAll 3 = .ok (.istore_n 3, 1) := by decide +kernel
theorem dX11_timesOnAll_4 : decode cX11_timesOnAll 4 = .ok (.iload_n 3, 1) := by decide +kernel
theorem dX11_timesOnAll_5 : decode cX11_timesOnAll 5 = .ok (.iconst 3, 1) := by decide +kernel
theorem dX11_timesOnAll_6 : decode cX11_timesOnAll 6 = .ok (.if_icmp .ge 22, 3) := by decide +kernel
theorem dX11_timesOnAll_9 : decode cX11_timesOnAll 9 = .ok (.iload_n 2, 1) := by decide +kernel
theorem dX11_timesOnAll_10 : decode cX11_timesOnAll 10 = .ok (.aload_n 0, 1) := by decide +kernel
theorem dX11_timesOnAll_11 : decode cX11_timesOnAll 11 = .ok (.getfield 43, 3) := by decide +kernel
theorem dX11_timesOnAll_14 : decode cX11_timesOnAll 14 = .ok (.iload_n 3, 1) := by decide +kernel
theorem dX11_timesOnAll_15 : decode cX11_timesOnAll 15 = .ok (.aaload, 1) := by decide +kernel
theorem dX11_timesOnAll_16 : decode cX11_timesOnAll 16 = .ok (.iload_n 1, 1) := by decide +kernel
theorem dX11_timesOnAll_17 : decode cX11_timesOnAll 17 = .ok (.invokevirtual 191, 3) := by decide +kernel
theorem dX11_timesOnAll_20 : decode cX11_timesOnAll 20 = .ok (.iadd, 1) := by decide +kernel
theorem dX11_timesOnAll_21 : decode cX11_timesOnAll 21 = .ok (.istore_n 2, 1) := by decide +kernel
theorem dX11_timesOnAll_22 : decode cX11_timesOnAll 22 = .ok (.iinc 3 1, 3) := by decide +kernel
theorem dX11_timesOnAll_25 : decode cX11_timesOnAll 25 = .ok (.goto (-21), 3) := by decide +kernel
theorem dX11_timesOnAll_28 : decode cX11_timesOnAll 28 = .ok (.iload_n 2, 1) := by decide +kernel
theorem dX11_timesOnAll_29 : decode cX11_timesOnAll 29 = .ok (.ireturn, 1) := by decide +kernel
theorem dX11_timesOfAll_0 : decode cX11_timesOfAll 0 = .ok (.iconst 0, 1) := by decide +kernel
theorem dX11_timesOfAll_1 : decode cX11_timesOfAll 1 = .ok (.istore_n 1, 1) := by decide +kernel
theorem dX11_timesOfAll_2 : decode cX11_timesOfAll 2 = .ok (.iconst 0, 1) := by decide +kernel
theorem dX11_timesOfAll_3 : decode cX11_timesOfAll 3 = .ok (.istore_n 2, 1) := by decide +kernel
theorem dX11_timesOfAll_4 : decode cX11_timesOfAll 4 = .ok (.iload_n 2, 1) := by decide +kernel
theorem dX11_timesOfAll_5 : decode cX11_timesOfAll 5 = .ok (.aload_n 0, 1) := by decide +kernel
theorem dX11_timesOfAll_6 : decode cX11_timesOfAll 6 = .ok (.getfield 10, 3) := by decide +kernel
theorem dX11_timesOfAll_9 : decode cX11_timesOfAll 9 = .ok (.getfield 200, 3) := by decide +kernel
theorem dX11_timesOfAll_12 : decode cX11_timesOfAll 12 = .ok (.if_icmp .ge 17, 3) := by decide +kernel
theorem dX11_timesOfAll_15 : decode cX11_timesOfAll 15 = .ok (.iload_n 1, 1) := by decide +kernel
theorem dX11_timesOfAll_16 : decode cX11_timesOfAll 16 = .ok (.aload_n 0, 1) := by decide +kernel
theorem dX11_timesOfAll_17 : decode cX11_timesOfAll 17 = .ok (.iload_n 2, 1) := by decide +kernel
theorem dX11_timesOfAll_18 : decode cX11_timesOfAll 18 = .ok (.invokevirtual 203, 3) := by decide +kernel
theorem dX11_timesOfAll_21 : decode cX11_timesOfAll 21 = .ok (.iadd, 1) := by decide +kernel
theorem dX11_timesOfAll_22 : decode cX11_timesOfAll 22 = .ok (.istore_n 1, 1) := by decide +kernel
theorem dX11_timesOfAll_23 : decode cX11_timesOfAll 23 = .ok (.iinc 2 1, 3) := by decide +kernel
theorem dX11_timesOfAll_26 : decode cX11_timesOfAll 26 = .ok (.goto (-22), 3) := by decide +kernel
theorem dX11_timesOfAll_29 : decode cX11_timesOfAll 29 = .ok (.iload_n 1, 1) := by decide +kernel
theorem dX11_timesOfAll_30 : decode cX11_timesOfAll 30 = .ok (.ireturn, 1) := by decide +kernel
theorem dX11_firstUnlike_0 : decode cX11_firstUnlike 0 = .ok (.aload_n 0, 1) := by decide +kernel
theorem dX11_firstUnlike_1 : decode cX11_firstUnlike 1 = .ok (.getfield 37, 3) := by decide +kernel
theorem dX11_firstUnlike_4 : decode cX11_firstUnlike 4 = .ok (.iload_n 2, 1) := by decide +kernel
theorem dX11_firstUnlike_5 : decode cX11_firstUnlike 5 = .ok (.bipush 10, 2) := by decide +kernel
theorem dX11_firstUnlike_7 : decode cX11_firstUnlike 7 = .ok (.idiv, 1) := by decide +kernel
theorem dX11_firstUnlike_8 : decode cX11_firstUnlike 8 = .ok (.iload_n 3, 1) := by decide +kernel
theorem dX11_firstUnlike_9 : decode cX11_firstUnlike 9 = .ok (.iload_n 2, 1) := by decide +kernel
theorem dX11_firstUnlike_10 : decode cX11_firstUnlike 10 = .ok (.bipush 10, 2) := by decide +kernel
theorem dX11_firstUnlike_12 : decode cX11_firstUnlike 12 = .ok (.irem, 1) := by decide +kernel
theorem dX11_firstUnlike_13 : decode cX11_firstUnlike 13 = .ok (.iload 4, 2) := by decide +kernel
theorem dX11_firstUnlike_15 : decode cX11_firstUnlike 15 = .ok (.invokevirtual 139, 3) := by decide +kernel
theorem dX11_firstUnlike_18 : decode cX11_firstUnlike 18 = .ok (.getfield 143, 3) := by decide +kernel
theorem dX11_firstUnlike_21 : decode cX11_firstUnlike 21 = .ok (.istore 5, 2) := by decide +kernel
theorem dX11_firstUnlike_23 : decode cX11_firstUnlike 23 = .ok (.aload_n 0, 1) := by decide +kernel
theorem dX11_firstUnlike_24 : decode cX11_firstUnlike 24 = .ok (.getfield 84, 3) := by decide +kernel
theorem dX11_firstUnlike_27 : decode cX11_firstUnlike 27 = .ok (.iload_n 1, 1) := by decide +kernel
theorem dX11_firstUnlike_28 : decode cX11_firstUnlike 28 = .ok (.invokevirtual 370, 3) := by decide +kernel
theorem dX11_firstUnlike_31 : decode cX11_firstUnlike 31 = .ok (.istore 6, 2) := by decide +kernel
theorem dX11_firstUnlike_33 : decode cX11_firstUnlike 33 = .ok (.iload 5, 2) := by decide +kernel
theorem dX11_firstUnlike_35 : decode cX11_firstUnlike 35 = .ok (.iload 6, 2) := by decide +kernel
theorem dX11_firstUnlike_37 : decode cX11_firstUnlike 37 = .ok (.invokestatic 373, 3) := by decide +kernel
theorem dX11_firstUnlike_40 : decode cX11_firstUnlike 40 = .ok (.istore 7, 2) := by decide +kernel
theorem dX11_firstUnlike_42 : decode cX11_firstUnlike 42 = .ok (.iconst 0, 1) := by decide +kernel
theorem dX11_firstUnlike_43 : decode cX11_firstUnlike 43 = .ok (.istore 8, 2) := by decide +kernel
theorem dX11_firstUnlike_45 : decode cX11_firstUnlike 45 = .ok (.iload 8, 2) := by decide +kernel
theorem dX11_firstUnlike_47 : decode cX11_firstUnlike 47 = .ok (.iload 7, 2) := by decide +kernel
theorem dX11_firstUnlike_49 : decode cX11_firstUnlike 49 = .ok (.if_icmp .ge 36, 3) := by decide +kernel
theorem dX11_firstUnlike_52 : decode cX11_firstUnlike 52 = .ok (.aload_n 0, 1) := by decide +kernel
theorem dX11_firstUnlike_53 : decode cX11_firstUnlike 53 = .ok (.getfield 84, 3) := by decide +kernel
theorem dX11_firstUnlike_56 : decode cX11_firstUnlike 56 = .ok (.iload_n 1, 1) := by decide +kernel
theorem dX11_firstUnlike_57 : decode cX11_firstUnlike 57 = .ok (.iload 8, 2) := by decide +kernel
theorem dX11_firstUnlike_59 : decode cX11_firstUnlike 59 = .ok (.invokevirtual 104, 3) := by decide +kernel
theorem dX11_firstUnlike_62 : decode cX11_firstUnlike 62 = .ok (.aload_n 0, 1) := by decide +kernel
theorem dX11_firstUnlike_63 : decode cX11_firstUnlike 63 = .ok (.getfield 37, 3) := by decide +kernel
theorem dX11_firstUnlike_66 : decode cX11_firstUnlike 66 = .ok (.iload 8, 2) := by decide +kernel
theorem dX11_firstUnlike_68 : decode cX11_firstUnlike 68 = .ok (.invokevirtual 378, 3) := by decide +kernel
theorem dX11_firstUnlike_71 : decode cX11_firstUnlike 71 = .ok (.i2l, 1) := by decide +kernel
theorem dX11_firstUnlike_72 : decode cX11_firstUnlike 72 = .ok (.lcmp, 1) := by decide +kernel
theorem dX11_firstUnlike_73 : decode cX11_firstUnlike 73 = .ok (.ifCond .eq 6, 3) := by decide +kernel
theorem dX11_firstUnlike_76 : decode cX11_firstUnlike 76 = .ok (.iload 8, 2) := by decide +kernel
theorem dX11_firstUnlike_78 : decode cX11_firstUnlike 78 = .ok (.ireturn, 1) := by decide +kernel
theorem dX11_firstUnlike_79 : decode cX11_firstUnlike 79 = .ok (.iinc 8 1, 3) := by decide +kernel
theorem dX11_firstUnlike_82 : decode cX11_firstUnlike 82 = .ok (.goto (-37), 3) := by decide +kernel
theorem dX11_firstUnlike_85 : decode cX11_firstUnlike 85 = .ok (.iload 5, 2) := by decide +kernel
theorem dX11_firstUnlike_87 : decode cX11_firstUnlike 87 = .ok (.iload 6, 2) := by decide +kernel
theorem dX11_firstUnlike_89 : decode cX11_firstUnlike 89 = .ok (.if_icmp .ne 8, 3) := by decide +kernel
theorem dX11_firstUnlike_92 : decode cX11_firstUnlike 92 = .ok (.bipush (-2), 2) := by decide +kernel
theorem dX11_firstUnlike_94 : decode cX11_firstUnlike 94 = .ok (.goto 5, 3) := by decide +kernel
theorem dX11_firstUnlike_97 : decode cX11_firstUnlike 97 = .ok (.iload 7, 2) := by decide +kernel
theorem dX11_firstUnlike_99 : decode cX11_firstUnlike 99 = .ok (.ireturn, 1) := by decide +kernel
theorem dX12_init_0 : decode cX12_init 0 = .ok (.aload_n 0, 1) := by decide +kernel
theorem dX12_init_1 : decode cX12_init 1 = .ok (.invokespecial 1, 3) := by decide +kernel
theorem dX12_init_4 : decode cX12_init 4 = .ok (.aload_n 0, 1) := by decide +kernel
theorem dX12_init_5 : decode cX12_init 5 = .ok (.iconst 3, 1) := by decide +kernel
theorem dX12_init_6 : decode cX12_init 6 = .ok (.newarray .int, 2) := by decide +kernel
theorem dX12_init_8 : decode cX12_init 8 = .ok (.dup, 1) := by decide +kernel
theorem dX12_init_9 : decode cX12_init 9 = .ok (.iconst 0, 1) := by decide +kernel
theorem dX12_init_10 : decode cX12_init 10 = .ok (.bipush 6, 2) := by decide +kernel
theorem dX12_init_12 : decode cX12_init 12 = .ok (.iastore, 1) := by decide +kernel
theorem dX12_init_13 : decode cX12_init 13 = .ok (.dup, 1) := by decide +kernel
theorem dX12_init_14 : decode cX12_init 14 = .ok (.iconst 1, 1) := by decide +kernel
theorem dX12_init_15 : decode cX12_init 15 = .ok (.bipush 6, 2) := by decide +kernel
theorem dX12_init_17 : decode cX12_init 17 = .ok (.iastore, 1) := by decide +kernel
theorem dX12_init_18 : decode cX12_init 18 = .ok (.dup, 1) := by decide +kernel
theorem dX12_init_19 : decode cX12_init 19 = .ok (.iconst 2, 1) := by decide +kernel
theorem dX12_init_20 : decode cX12_init 20 = .ok (.bipush 6, 2) := by decide +kernel
theorem dX12_init_22 : decode cX12_init 22 = .ok (.iastore, 1) := by decide +kernel
theorem dX12_init_23 : decode cX12_init 23 = .ok (.putfield 7, 3) := by decide +kernel
theorem dX12_init_26 : decode cX12_init 26 = .ok (.aload_n 0, 1) := by decide +kernel
theorem dX12_init_27 : decode cX12_init 27 = .ok (.bipush 9, 2) := by decide +kernel
theorem dX12_init_29 : decode cX12_init 29 = .ok (.newarray .int, 2) := by decide +kernel
theorem dX12_init_31 : decode cX12_init 31 = .ok (.putfield 13, 3) := by decide +kernel
theorem dX12_init_34 : decode cX12_init 34 = .ok (.aload_n 0, 1) := by decide +kernel
theorem dX12_init_35 : decode cX12_init 35 = .ok (.bipush 9, 2) := by decide +kernel
theorem dX12_init_37 : decode cX12_init 37 = .ok (.newarray .int, 2) := by decide +kernel
theorem dX12_init_39 : decode cX12_init 39 = .ok (.putfield 16, 3) := by decide +kernel
theorem dX12_init_42 : decode cX12_init 42 = .ok (.aload_n 0, 1) := by decide +kernel
theorem dX12_init_43 : decode cX12_init 43 = .ok (.bipush 9, 2) := by decide +kernel
theorem dX12_init_45 : decode cX12_init 45 = .ok (.newarray .int, 2) := by decide +kernel
theorem dX12_init_47 : decode cX12_init 47 = .ok (.putfield 19, 3) := by decide +kernel
theorem dX12_init_50 : decode cX12_init 50 = .ok (.aload_n 0, 1) := by decide +kernel
theorem dX12_init_51 : decode cX12_init 51 = .ok (.bipush 9, 2) := by decide +kernel
theorem dX12_init_53 : decode cX12_init 53 = .ok (.newarray .int, 2) := by decide +kernel
theorem dX12_init_55 : decode cX12_init 55 = .ok (.putfield 22, 3) := by decide +kernel
theorem dX12_init_58 : decode cX12_init 58 = .ok (.aload_n 0, 1) := by decide +kernel
theorem dX12_init_59 : decode cX12_init 59 = .ok (.bipush 9, 2) := by decide +kernel
theorem dX12_init_61 : decode cX12_init 61 = .ok (.newarray .int, 2) := by decide +kernel
theorem dX12_init_63 : decode cX12_init 63 = .ok (.putfield 25, 3) := by decide +kernel
theorem dX12_init_66 : decode cX12_init 66 = .ok (.aload_n 0, 1) := by decide +kernel
theorem dX12_init_67 : decode cX12_init 67 = .ok (.bipush 9, 2) := by decide +kernel
theorem dX12_init_69 : decode cX12_init 69 = .ok (.newarray .int, 2) := by decide +kernel
theorem dX12_init_71 : decode cX12_init 71 = .ok (.putfield 28, 3) := by decide +kernel
theorem dX12_init_74 : decode cX12_init 74 = .ok (.aload_n 0, 1) := by decide +kernel
theorem dX12_init_75 : decode cX12_init 75 = .ok (.iconst 2, 1) := by decide +kernel
theorem dX12_init_76 : decode cX12_init 76 = .ok (.putfield 31, 3) := by decide +kernel
theorem dX12_init_79 : decode cX12_init 79 = .ok (.aload_n 0, 1) := by decide +kernel
theorem dX12_init_80 : decode cX12_init 80 = .ok (.bipush 20, 2) := by decide +kernel
theorem dX12_init_82 : decode cX12_init 82 = .ok (.putfield 35, 3) := by decide +kernel
theorem dX12_init_85 : decode cX12_init 85 = .ok (.aload_n 0, 1) := by decide +kernel
theorem dX12_init_86 : decode cX12_init 86 = .ok (.bipush 40, 2) := by decide +kernel
theorem dX12_init_88 : decode cX12_init 88 = .ok (.newarray .int, 2) := by decide +kernel
theorem dX12_init_90 : decode cX12_init 90 = .ok (.putfield 38, 3) := by decide +kernel
theorem dX12_init_93 : decode cX12_init 93 = .ok (.aload_n 0, 1) := by decide +kernel
theorem dX12_init_94 : decode cX12_init 94 = .ok (.bipush 40, 2) := by decide +kernel
theorem dX12_init_96 : decode cX12_init 96 = .ok (.newarray .int, 2) := by decide +kernel
theorem dX12_init_98 : decode cX12_init 98 = .ok (.putfield 41, 3) := by decide +kernel
theorem dX12_init_101 : decode cX12_init 101 = .ok (.aload_n 0, 1) := by decide +kernel
theorem dX12_init_102 : decode cX12_init 102 = .ok (.bipush 40, 2) := by decide +kernel
theorem dX12_init_104 : decode cX12_init 104 = .ok (.newarray .int, 2) := by decide +kernel
theorem dX12_init_106 : decode cX12_init 106 = .ok (.putfield 44, 3) := by decide +kernel
theorem dX12_init_109 : decode cX12_init 109 = .ok (.aload_n 0, 1) := by decide +kernel
theorem dX12_init_110 : decode cX12_init 110 = .ok (.bipush 40, 2) := by decide +kernel
theorem dX12_init_112 : decode cX12_init 112 = .ok (.newarray .int, 2) := by decide +kernel
theorem dX12_init_114 : decode cX12_init 114 = .ok (.putfield 47, 3) := by decide +kernel
theorem dX12_init_117 : decode cX12_init 117 = .ok (.aload_n 0, 1) := by decide +kernel
theorem dX12_init_118 : decode cX12_init 118 = .ok (.bipush 120, 2) := by decide +kernel
theorem dX12_init_120 : decode cX12_init 120 = .ok (.newarray .byte, 2) := by decide +kernel
theorem dX12_init_122 : decode cX12_init 122 = .ok (.putfield 50, 3) := by decide +kernel
theorem dX12_init_125 : decode cX12_init 125 = .ok (.aload_n 0, 1) := by decide +kernel
theorem dX12_init_126 : decode cX12_init 126 = .ok (.sipush 260, 3) := by decide +kernel
theorem dX12_init_129 : decode cX12_init 129 = .ok (.newarray .byte, 2) := by decide +kernel
theorem dX12_init_131 : decode cX12_init 131 = .ok (.putfield 54, 3) := by decide +kernel
theorem dX12_init_134 : decode cX12_init 134 = .ok (.aload_n 0, 1) := by decide +kernel
theorem dX12_init_135 : decode cX12_init 135 = .ok (.sipush 260, 3) := by decide +kernel
theorem dX12_init_138 : decode cX12_init 138 = .ok (.newarray .int, 2) := by decide +kernel
theorem dX12_init_140 : decode cX12_init 140 = .ok (.putfield 57, 3) := by decide +kernel
theorem dX12_init_143 : decode cX12_init 143 = .ok (.aload_n 0, 1) := by decide +kernel
theorem dX12_init_144 : decode cX12_init 144 = .ok (.iconst 2, 1) := by decide +kernel
theorem dX12_init_145 : decode cX12_init 145 = .ok (.newarray .int, 2) := by decide +kernel
theorem dX12_init_147 : decode cX12_init 147 = .ok (.putfield 60, 3) := by decide +kernel
theorem dX12_init_150 : decode cX12_init 150 = .ok (.aload_n 0, 1) := by decide +kernel
theorem dX12_init_151 : decode cX12_init 151 = .ok (.bipush 122, 2) := by decide +kernel
theorem dX12_init_153 : decode cX12_init 153 = .ok (.newarray .short, 2) := by decide +kernel
theorem dX12_init_155 : decode cX12_init 155 = .ok (.putfield 63, 3) := by decide +kernel
theorem dX12_init_158 : decode cX12_init 158 = .ok (.aload_n 0, 1) := by decide +kernel
theorem dX12_init_159 : decode cX12_init 159 = .ok (.bipush 122, 2) := by decide +kernel
theorem dX12_init_161 : decode cX12_init 161 = .ok (.newarray .short, 2) := by decide +kernel
theorem dX12_init_163 : decode cX12_init 163 = .ok (.putfield 67, 3) := by decide +kernel
theorem dX12_init_166 : decode cX12_init 166 = .ok (.aload_n 0, 1) := by decide +kernel
theorem dX12_init_167 : decode cX12_init 167 = .ok (.bipush 6, 2) := by decide +kernel
theorem dX12_init_169 : decode cX12_init 169 = .ok (.newarray .int, 2) := by decide +kernel
theorem dX12_init_171 : decode cX12_init 171 = .ok (.putfield 70, 3) := by decide +kernel
theorem dX12_init_174 : decode cX12_init 174 = .ok (.aload_n 0, 1) := by decide +kernel
theorem dX12_init_175 : decode cX12_init 175 = .ok (.sipush 130, 3) := by decide +kernel
theorem dX12_init_178 : decode cX12_init 178 = .ok (.newarray .int, 2) := by decide +kernel
theorem dX12_init_180 : decode cX12_init 180 = .ok (.putfield 73, 3) := by decide +kernel
theorem dX12_init_183 : decode cX12_init 183 = .ok (.aload_n 0, 1) := by decide +kernel
theorem dX12_init_184 : decode cX12_init 184 = .ok (.bipush 9, 2) := by decide +kernel
theorem dX12_init_186 : decode cX12_init 186 = .ok (.newarray .int, 2) := by decide +kernel
theorem dX12_init_188 : decode cX12_init 188 = .ok (.putfield 76, 3) := by decide +kernel
theorem dX12_init_191 : decode cX12_init 191 = .ok (.aload_n 0, 1) := by decide +kernel
theorem dX12_init_192 : decode cX12_init 192 = .ok (.bipush 9, 2) := by decide +kernel
theorem dX12_init_194 : decode cX12_init 194 = .ok (.newarray .int, 2) := by decide +kernel
theorem dX12_init_196 : decode cX12_init 196 = .ok (.putfield 79, 3) := by decide +kernel
theorem dX12_init_199 : decode cX12_init 199 = .ok (.aload_n 0, 1) := by decide +kernel
theorem dX12_init_200 : decode cX12_init 200 = .ok (.bipush 9, 2) := by decide +kernel
theorem dX12_init_202 : decode cX12_init 202 = .ok (.newarray .int, 2) := by decide +kernel
theorem dX12_init_204 : decode cX12_init 204 = .ok (.putfield 82, 3) := by decide +kernel
theorem dX12_init_207 : decode cX12_init 207 = .ok (.aload_n 0, 1) := by decide +kernel
theorem dX12_init_208 : decode cX12_init 208 = .ok (.iconst 3, 1) := by decide +kernel
theorem dX12_init_209 : decode cX12_init 209 = .ok (.newarray .int, 2) := by decide +kernel
theorem dX12_init_211 : decode cX12_init 211 = .ok (.putfield 85, 3) := by decide +kernel
theorem dX12_init_214 : decode cX12_init 214 = .ok (.aload_n 0, 1) := by decide +kernel
theorem dX12_init_215 : decode cX12_init 215 = .ok (.bipush 9, 2) := by decide +kernel
theorem dX12_init_217 : decode cX12_init 217 = .ok (.newarray .int, 2) := by decide +kernel
theorem dX12_init_219 : decode cX12_init 219 = .ok (.putfield 88, 3) := by decide +kernel
theorem dX12_init_222 : decode cX12_init 222 = .ok (.aload_n 0, 1) := by decide +kernel
theorem dX12_init_223 : decode cX12_init 223 = .ok (.bipush 9, 2) := by decide +kernel
theorem dX12_init_225 : decode cX12_init 225 = .ok (.newarray .int, 2) := by decide +kernel
theorem dX12_init_227 : decode cX12_init 227 = .ok (.putfield 91, 3) := by decide +kernel
theorem dX12_init_230 : decode cX12_init 230 = .ok (.aload_n 0, 1) := by decide +kernel
theorem dX12_init_231 : decode cX12_init 231 = .ok (.bipush 9, 2) := by decide +kernel
theorem dX12_init_233 : decode cX12_init 233 = .ok (.newarray .int, 2) := by decide +kernel
theorem dX12_init_235 : decode cX12_init 235 = .ok (.putfield 94, 3) := by decide +kernel
theorem dX12_init_238 : decode cX12_init 238 = .ok (.aload_n 0, 1) := by decide +kernel
theorem dX12_init_239 : decode cX12_init 239 = .ok (.bipush 10, 2) := by decide +kernel
theorem dX12_init_241 : decode cX12_init 241 = .ok (.newarray .int, 2) := by decide +kernel
theorem dX12_init_243 : decode cX12_init 243 = .ok (.dup, 1) := by decide +kernel
theorem dX12_init_244 : decode cX12_init 244 = .ok (.iconst 0, 1) := by decide +kernel
theorem dX12_init_245 : decode cX12_init 245 = .ok (.iconst 0, 1) := by decide +kernel
theorem dX12_init_246 : decode cX12_init 246 = .ok (.iastore, 1) := by decide +kernel
theorem dX12_init_247 : decode cX12_init 247 = .ok (.dup, 1) := by decide +kernel
theorem dX12_init_248 : decode cX12_init 248 = .ok (.iconst 1, 1) := by decide +kernel
theorem dX12_init_249 : decode cX12_init 249 = .ok (.iconst 0, 1) := by decide +kernel
theorem dX12_init_250 : decode cX12_init 250 = .ok (.iastore, 1) := by decide +kernel
theorem dX12_init_251 : decode cX12_init 251 = .ok (.dup, 1) := by decide +kernel
theorem dX12_init_252 : decode cX12_init 252 = .ok (.iconst 2, 1) := by decide +kernel
theorem dX12_init_253 : decode cX12_init 253 = .ok (.iconst 0, 1) := by decide +kernel
theorem dX12_init_254 : decode cX12_init 254 = .ok (.iastore, 1) := by decide +kernel
theorem dX12_init_255 : decode cX12_init 255 = .ok (.dup, 1) := by decide +kernel
theorem dX12_init_256 : decode cX12_init 256 = .ok (.iconst 3, 1) := by decide +kernel
theorem dX12_init_257 : decode cX12_init 257 = .ok (.iconst 0, 1) := by decide +kernel
theorem dX12_init_258 : decode cX12_init 258 = .ok (.iastore, 1) := by decide +kernel
theorem dX12_init_259 : decode cX12_init 259 = .ok (.dup, 1) := by decide +kernel
theorem dX12_init_260 : decode cX12_init 260 = .ok (.iconst 4, 1) := by decide +kernel
theorem dX12_init_261 : decode cX12_init 261 = .ok (.iconst 0, 1) := by decide +kernel
theorem dX12_init_262 : decode cX12_init 262 = .ok (.iastore, 1) := by decide +kernel
theorem dX12_init_263 : decode cX12_init 263 = .ok (.dup, 1) := by decide +kernel
theorem dX12_init_264 : decode cX12_init 264 = .ok (.iconst 5, 1) := by decide +kernel
theorem dX12_init_265 : decode cX12_init 265 = .ok (.bipush (-2), 2) := by decide +kernel
theorem dX12_init_267 : decode cX12_init 267 = .ok (.iastore, 1) := by decide +kernel
theorem dX12_init_268 : decode cX12_init 268 = .ok (.dup, 1) := by decide +kernel
theorem dX12_init_269 : decode cX12_init 269 = .ok (.bipush 6, 2) := by decide +kernel
theorem dX12_init_271 : decode cX12_init 271 = .ok (.iconst (-1), 1) := by decide +kernel
theorem dX12_init_272 : decode cX12_init 272 = .ok (.iastore, 1) := by decide +kernel
theorem dX12_init_273 : decode cX12_init 273 = .ok (.dup, 1) := by decide +kernel
theorem dX12_init_274 : decode cX12_init 274 = .ok (.bipush 7, 2) := by decide +kernel
theorem dX12_init_276 : decode cX12_init 276 = .ok (.iconst 0, 1) := by decide +kernel
theorem dX12_init_277 : decode cX12_init 277 = .ok (.iastore, 1) := by decide +kernel
theorem dX12_init_278 : decode cX12_init 278 = .ok (.dup, 1) := by decide +kernel
theorem dX12_init_279 : decode cX12_init 279 = .ok (.bipush 8, 2) := by decide +kernel
theorem dX12_init_281 : decode cX12_init 281 = .ok (.iconst 0, 1) := by decide +kernel
theorem dX12_init_282 : decode cX12_init 282 = .ok (.iastore, 1) := by decide +kernel
theorem dX12_init_283 : decode cX12_init 283 = .ok (.dup, 1) := by decide +kernel
theorem dX12_init_284 : decode cX12_init 284 = .ok (.bipush 9, 2) := by decide +kernel
theorem dX12_init_286 : decode cX12_init 286 = .ok (.iconst 0, 1) := by decide +kernel
theorem dX12_init_287 : decode cX12_init 287 = .ok (.iastore, 1) := by decide +kernel
theorem dX12_init_288 : decode cX12_init 288 = .ok (.putfield 97, 3) := by decide +kernel
theorem dX12_init_291 : decode cX12_init 291 = .ok (.aload_n 0, 1) := by decide +kernel
theorem dX12_init_292 : decode cX12_init 292 = .ok (.bipush 10, 2) := by decide +kernel
theorem dX12_init_294 : decode cX12_init 294 = .ok (.newarray .int, 2) := by decide +kernel
theorem dX12_init_296 : decode cX12_init 296 = .ok (.putfield 100, 3) := by decide +kernel
theorem dX12_init_299 : decode cX12_init 299 = .ok (.aload_n 0, 1) := by decide +kernel
theorem dX12_init_300 : decode cX12_init 300 = .ok (.bipush 50, 2) := by decide +kernel
theorem dX12_init_302 : decode cX12_init 302 = .ok (.newarray .int, 2) := by decide +kernel
theorem dX12_init_304 : decode cX12_init 304 = .ok (.putfield 103, 3) := by decide +kernel
theorem dX12_init_307 : decode cX12_init 307 = .ok (.aload_n 0, 1) := by decide +kernel
theorem dX12_init_308 : decode cX12_init 308 = .ok (.bipush 24, 2) := by decide +kernel
theorem dX12_init_310 : decode cX12_init 310 = .ok (.newarray .int, 2) := by decide +kernel
theorem dX12_init_312 : decode cX12_init 312 = .ok (.putfield 106, 3) := by decide +kernel
theorem dX12_init_315 : decode cX12_init 315 = .ok (.aload_n 0, 1) := by decide +kernel
theorem dX12_init_316 : decode cX12_init 316 = .ok (.bipush 6, 2) := by decide +kernel
theorem dX12_init_318 : decode cX12_init 318 = .ok (.newarray .int, 2) := by decide +kernel
theorem dX12_init_320 : decode cX12_init 320 = .ok (.dup, 1) := by decide +kernel
theorem dX12_init_321 : decode cX12_init 321 = .ok (.iconst 0, 1) := by decide +kernel
theorem dX12_init_322 : decode cX12_init 322 = .ok (.iconst (-1), 1) := by decide +kernel
theorem dX12_init_323 : decode cX12_init 323 = .ok (.iastore, 1) := by decide +kernel
theorem dX12_init_324 : decode cX12_init 324 = .ok (.dup, 1) := by decide +kernel
theorem dX12_init_325 : decode cX12_init 325 = .ok (.iconst 1, 1) := by decide +kernel
theorem dX12_init_326 : decode cX12_init 326 = .ok (.iconst (-1), 1) := by decide +kernel
theorem dX12_init_327 : decode cX12_init 327 = .ok (.iastore, 1) := by decide +kernel
theorem dX12_init_328 : decode cX12_init 328 = .ok (.dup, 1) := by decide +kernel
theorem dX12_init_329 : decode cX12_init 329 = .ok (.iconst 2, 1) := by decide +kernel
theorem dX12_init_330 : decode cX12_init 330 = .ok (.iconst (-1), 1) := by decide +kernel
theorem dX12_init_331 : decode cX12_init 331 = .ok (.iastore, 1) := by decide +kernel
theorem dX12_init_332 : decode cX12_init 332 = .ok (.dup, 1) := by decide +kernel
theorem dX12_init_333 : decode cX12_init 333 = .ok (.iconst 3, 1) := by decide +kernel
theorem dX12_init_334 : decode cX12_init 334 = .ok (.iconst (-1), 1) := by decide +kernel
theorem dX12_init_335 : decode cX12_init 335 = .ok (.iastore, 1) := by decide +kernel
theorem dX12_init_336 : decode cX12_init 336 = .ok (.dup, 1) := by decide +kernel
theorem dX12_init_337 : decode cX12_init 337 = .ok (.iconst 4, 1) := by decide +kernel
theorem dX12_init_338 : decode cX12_init 338 = .ok (.iconst (-1), 1) := by decide +kernel
theorem dX12_init_339 : decode cX12_init 339 = .ok (.iastore, 1) := by decide +kernel
theorem dX12_init_340 : decode cX12_init 340 = .ok (.dup, 1) := by decide +kernel
theorem dX12_init_341 : decode cX12_init 341 = .ok (.iconst 5, 1) := by decide +kernel
theorem dX12_init_342 : decode cX12_init 342 = .ok (.iconst (-1), 1) := by decide +kernel
theorem dX12_init_343 : decode cX12_init 343 = .ok (.iastore, 1) := by decide +kernel
theorem dX12_init_344 : decode cX12_init 344 = .ok (.putfield 109, 3) := by decide +kernel
theorem dX12_init_347 : decode cX12_init 347 = .ok (.aload_n 0, 1) := by decide +kernel
theorem dX12_init_348 : decode cX12_init 348 = .ok (.bipush 6, 2) := by decide +kernel
theorem dX12_init_350 : decode cX12_init 350 = .ok (.newarray .int, 2) := by decide +kernel
theorem dX12_init_352 : decode cX12_init 352 = .ok (.putfield 112, 3) := by decide +kernel
theorem dX12_init_355 : decode cX12_init 355 = .ok (.aload_n 0, 1) := by decide +kernel
theorem dX12_init_356 : decode cX12_init 356 = .ok (.sipush 360, 3) := by decide +kernel
theorem dX12_init_359 : decode cX12_init 359 = .ok (.newarray .long, 2) := by decide +kernel
theorem dX12_init_361 : decode cX12_init 361 = .ok (.putfield 115, 3) := by decide +kernel
theorem dX12_init_364 : decode cX12_init 364 = .ok (.aload_n 0, 1) := by decide +kernel
theorem dX12_init_365 : decode cX12_init 365 = .ok (.bipush 60, 2) := by decide +kernel
theorem dX12_init_367 : decode cX12_init 367 = .ok (.newarray .long, 2) := by decide +kernel
theorem dX12_init_369 : decode cX12_init 369 = .ok (.putfield 119, 3) := by decide +kernel
theorem dX12_init_372 : decode cX12_init 372 = .ok (.return_, 1) := by decide +kernel
theorem dX12_in_0 : decode cX12_in 0 = .ok (.iload_n 0, 1) := by decide +kernel
theorem dX12_in_1 : decode cX12_in 1 = .ok (.iload_n 1, 1) := by decide +kernel
theorem dX12_in_2 : decode cX12_in 2 = .ok (.if_icmp .lt 12, 3) := by decide +kernel
theorem dX12_in_5 : decode cX12_in 5 = .ok (.iload_n 0, 1) := by decide +kernel
theorem dX12_in_6 : decode cX12_in 6 = .ok (.iload_n 2, 1) := by decide +kernel
theorem dX12_in_7 : decode cX12_in 7 = .ok (.if_icmp .gt 7, 3) := by decide +kernel
theorem dX12_in_10 : decode cX12_in 10 = .ok (.iconst 1, 1) := by decide +kernel
theorem dX12_in_11 : decode cX12_in 11 = .ok (.goto 4, 3) := by decide +kernel
theorem dX12_in_14 : decode cX12_in 14 = .ok (.iconst 0, 1) := by decide +kernel
theorem dX12_in_15 : decode cX12_in 15 = .ok (.ireturn, 1) := by decide +kernel
theorem dX12_isChild_0 : decode cX12_isChild 0 = .ok (.iload_n 1, 1) := by decide +kernel
theorem dX12_isChild_1 : decode cX12_isChild 1 = .ok (.iconst 0, 1) := by decide +kernel
theorem dX12_isChild_2 : decode cX12_isChild 2 = .ok (.aload_n 0, 1) := by decide +kernel
theorem dX12_isChild_3 : decode cX12_isChild 3 = .ok (.getfield 125, 3) := by decide +kernel
theorem dX12_isChild_6 : decode cX12_isChild 6 = .ok (.iconst 1, 1) := by decide +kernel
theorem dX12_isChild_7 : decode cX12_isChild 7 = .ok (.isub, 1) := by decide +kernel
theorem dX12_isChild_8 : decode cX12_isChild 8 = .ok (.invokestatic 128, 3) := by decide +kernel
theorem dX12_isChild_11 : decode cX12_isChild 11 = .ok (.ireturn, 1) := by decide +kernel
theorem dX12_isSwing_0 : decode cX12_isSwing 0 = .ok (.iload_n 0, 1) := by decide +kernel
theorem dX12_isSwing_1 : decode cX12_isSwing 1 = .ok (.iconst 0, 1) := by decide +kernel
theorem dX12_isSwing_2 : decode cX12_isSwing 2 = .ok (.iconst 2, 1) := by decide +kernel
theorem dX12_isSwing_3 : decode cX12_isSwing 3 = .ok (.invokestatic 128, 3) := by decide +kernel
theorem dX12_isSwing_6 : decode cX12_isSwing 6 = .ok (.ireturn, 1) := by decide +kernel
theorem dX12_addChild_0 : decode cX12_addChild 0 = .ok (.aload_n 0, 1) := by decide +kernel
theorem dX12_addChild_1 : decode cX12_addChild 1 = .ok (.getfield 13, 3) := by decide +kernel
theorem dX12_addChild_4 : decode cX12_addChild 4 = .ok (.aload_n 0, 1) := by decide +kernel
theorem dX12_addChild_5 : decode cX12_addChild 5 = .ok (.getfield 125, 3) := by decide +kernel
theorem dX12_addChild_8 : decode cX12_addChild 8 = .ok (.iload_n 1, 1) := by decide +kernel
theorem dX12_addChild_9 : decode cX12_addChild 9 = .ok (.iastore, 1) := by decide +kernel
theorem dX12_addChild_10 : decode cX12_addChild 10 = .ok (.aload_n 0, 1) := by decide +kernel
theorem dX12_addChild_11 : decode cX12_addChild 11 = .ok (.getfield 16, 3) := by decide +kernel
theorem dX12_addChild_14 : decode cX12_addChild 14 = .ok (.aload_n 0, 1) := by decide +kernel
theorem dX12_addChild_15 : decode cX12_addChild 15 = .ok (.getfield 125, 3) := by decide +kernel
theorem dX12_addChild_18 : decode cX12_addChild 18 = .ok (.iload_n 2, 1) := by decide +kernel
theorem dX12_addChild_19 : decode cX12_addChild 19 = .ok (.iastore, 1) := by decide +kernel
theorem dX12_addChild_20 : decode cX12_addChild 20 = .ok (.aload_n 0, 1) := by decide +kernel
theorem dX12_addChild_21 : decode cX12_addChild 21 = .ok (.getfield 19, 3) := by decide +kernel
theorem dX12_addChild_24 : decode cX12_addChild 24 = .ok (.aload_n 0, 1) := by decide +kernel
theorem dX12_addChild_25 : decode cX12_addChild 25 = .ok (.getfield 125, 3) := by decide +kernel
theorem dX12_addChild_28 : decode cX12_addChild 28 = .ok (.bipush 9, 2) := by decide +kernel
theorem dX12_addChild_30 : decode cX12_addChild 30 = .ok (.iastore, 1) := by decide +kernel
theorem dX12_addChild_31 : decode cX12_addChild 31 = .ok (.aload_n 0, 1) := by decide +kernel
theorem dX12_addChild_32 : decode cX12_addChild 32 = .ok (.getfield 22, 3) := by decide +kernel
theorem dX12_addChild_35 : decode cX12_addChild 35 = .ok (.aload_n 0, 1) := by decide +kernel
theorem dX12_addChild_36 : decode cX12_addChild 36 = .ok (.getfield 125, 3) := by decide +kernel
theorem dX12_addChild_39 : decode cX12_addChild 39 = .ok (.iconst 0, 1) := by decide +kernel
theorem dX12_addChild_40 : decode cX12_addChild 40 = .ok (.iastore, 1) := by decide +kernel
theorem dX12_addChild_41 : decode cX12_addChild 41 = .ok (.aload_n 0, 1) := by decide +kernel
theorem dX12_addChild_42 : decode cX12_addChild 42 = .ok (.getfield 25, 3) := by decide +kernel
theorem dX12_addChild_45 : decode cX12_addChild 45 = .ok (.aload_n 0, 1) := by decide +kernel
theorem dX12_addChild_46 : decode cX12_addChild 46 = .ok (.getfield 125, 3) := by decide +kernel
theorem dX12_addChild_49 : decode cX12_addChild 49 = .ok (.bipush 9, 2) := by decide +kernel
theorem dX12_addChild_51 : decode cX12_addChild 51 = .ok (.iastore, 1) := by decide +kernel
theorem dX12_addChild_52 : decode cX12_addChild 52 = .ok (.aload_n 0, 1) := by decide +kernel
theorem dX12_addChild_53 : decode cX12_addChild 53 = .ok (.getfield 28, 3) := by decide +kernel
theorem dX12_addChild_56 : decode cX12_addChild 56 = .ok (.aload_n 0, 1) := by decide +kernel
theorem dX12_addChild_57 : decode cX12_addChild 57 = .ok (.getfield 125, 3) := by decide +kernel
theorem dX12_addChild_60 : decode cX12_addChild 60 = .ok (.iload_n 3, 1) := by decide +kernel
theorem dX12_addChild_61 : decode cX12_addChild 61 = .ok (.iastore, 1) := by decide +kernel
theorem dX12_addChild_62 : decode cX12_addChild 62 = .ok (.aload_n 0, 1) := by decide +kernel
theorem dX12_addChild_63 : decode cX12_addChild 63 = .ok (.dup, 1) := by decide +kernel
theorem dX12_addChild_64 : decode cX12_addChild 64 = .ok (.getfield 125, 3) := by decide +kernel
theorem dX12_addChild_67 : decode cX12_addChild 67 = .ok (.iconst 1, 1) := by decide +kernel
theorem dX12_addChild_68 : decode cX12_addChild 68 = .ok (.iadd, 1) := by decide +kernel
theorem dX12_addChild_69 : decode cX12_addChild 69 = .ok (.putfield 125, 3) := by decide +kernel
theorem dX12_addChild_72 : decode cX12_addChild 72 = .ok (.aload_n 0, 1) := by decide +kernel
theorem dX12_addChild_73 : decode cX12_addChild 73 = .ok (.getfield 125, 3) := by decide +kernel
theorem dX12_addChild_76 : decode cX12_addChild 76 = .ok (.iconst 1, 1) := by decide +kernel
theorem dX12_addChild_77 : decode cX12_addChild 77 = .ok (.isub, 1) := by decide +kernel
theorem dX12_addChild_78 : decode cX12_addChild 78 = .ok (.ireturn, 1) := by decide +kernel
theorem dX12_child_0 : decode cX12_child 0 = .ok (.iload_n 1, 1) := by decide +kernel
theorem dX12_child_1 : decode cX12_child 1 = .ok (.ifCond .lt 33, 3) := by decide +kernel
theorem dX12_child_4 : decode cX12_child 4 = .ok (.iload_n 1, 1) := by decide +kernel
theorem dX12_child_5 : decode cX12_child 5 = .ok (.bipush 10, 2) := by decide +kernel
theorem dX12_child_7 : decode cX12_child 7 = .ok (.idiv, 1) := by decide +kernel
theorem dX12_child_8 : decode cX12_child 8 = .ok (.iconst 1, 1) := by decide +kernel
theorem dX12_child_9 : decode cX12_child 9 = .ok (.bipush 9, 2) := by decide +kernel
theorem dX12_child_11 : decode cX12_child 11 = .ok (.invokestatic 128, 3) := by decide +kernel
theorem dX12_child_14 : decode cX12_child 14 = .ok (.ifCond .eq 20, 3) := by decide +kernel
theorem dX12_child_17 : decode cX12_child 17 = .ok (.iload_n 1, 1) := by decide +kernel
theorem dX12_child_18 : decode cX12_child 18 = .ok (.bipush 10, 2) := by decide +kernel
theorem dX12_child_20 : decode cX12_child 20 = .ok (.irem, 1) := by decide +kernel
theorem dX12_child_21 : decode cX12_child 21 = .ok (.iconst 3, 1) := by decide +kernel
theorem dX12_child_22 : decode cX12_child 22 = .ok (.if_icmp .gt 12, 3) := by decide +kernel
theorem dX12_child_25 : decode cX12_child 25 = .ok (.iload_n 2, 1) := by decide +kernel
theorem dX12_child_26 : decode cX12_child 26 = .ok (.iconst 0, 1) := by decide +kernel
theorem dX12_child_27 : decode cX12_child 27 = .ok (.iconst 3, 1) := by decide +kernel
theorem dX12_child_28 : decode cX12_child 28 = .ok (.invokestatic 128, 3) := by decide +kernel
theorem dX12_child_31 : decode cX12_child 31 = .ok (.ifCond .ne 5, 3) := by decide +kernel
theorem dX12_child_34 : decode cX12_child 34 = .ok (.iconst (-1), 1) := by decide +kernel
theorem dX12_child_35 : decode cX12_child 35 = .ok (.ireturn, 1) := by decide +kernel
theorem dX12_child_36 : decode cX12_child 36 = .ok (.aload_n 0, 1) := by decide +kernel
theorem dX12_child_37 : decode cX12_child 37 = .ok (.getfield 125, 3) := by decide +kernel
theorem dX12_child_40 : decode cX12_child 40 = .ok (.bipush 9, 2) := by decide +kernel
theorem dX12_child_42 : decode cX12_child 42 = .ok (.if_icmp .ne 8, 3) := by decide +kernel
theorem dX12_child_45 : decode cX12_child 45 = .ok (.bipush (-3), 2) := by decide +kernel
theorem dX12_child_47 : decode cX12_child 47 = .ok (.goto 16, 3) := by decide +kernel
theorem dX12_child_50 : decode cX12_child 50 = .ok (.aload_n 0, 1) := by decide +kernel
theorem dX12_child_51 : decode cX12_child 51 = .ok (.iload_n 1, 1) := by decide +kernel
theorem dX12_child_52 : decode cX12_child 52 = .ok (.bipush 10, 2) := by decide +kernel
theorem dX12_child_54 : decode cX12_child 54 = .ok (.idiv, 1) := by decide +kernel
theorem dX12_child_55 : decode cX12_child 55 = .ok (.iload_n 1, 1) := by decide +kernel
theorem dX12_child_56 : decode cX12_child 56 = .ok (.bipush 10, 2) := by decide +kernel
theorem dX12_child_58 : decode cX12_child 58 = .ok (.irem, 1) := by decide +kernel
theorem dX12_child_59 : decode cX12_child 59 = .ok (.iload_n 2, 1) := by decide +kernel
theorem dX12_child_60 : decode cX12_child 60 = .ok (.invokevirtual 132, 3) := by decide +kernel
theorem dX12_child_63 : decode cX12_child 63 = .ok (.ireturn, 1) := by decide +kernel
theorem dX12_children_0 : decode cX12_children 0 = .ok (.iload_n 1, 1) := by decide +kernel
theorem dX12_children_1 : decode cX12_children 1 = .ok (.invokestatic 136, 3) := by decide +kernel
theorem dX12_children_4 : decode cX12_children 4 = .ok (.ifCond .eq 13, 3) := by decide +kernel
theorem dX12_children_7 : decode cX12_children 7 = .ok (.iload_n 3, 1) := by decide +kernel
theorem dX12_children_8 : decode cX12_children 8 = .ok (.iconst 1, 1) := by decide +kernel
theorem dX12_children_9 : decode cX12_children 9 = .ok (.bipush 9, 2) := by decide +kernel
theorem dX12_children_11 : decode cX12_children 11 = .ok (.invokestatic 128, 3) := by decide +kernel
theorem dX12_children_14 : decode cX12_children 14 = .ok (.ifCond .ne 5, 3) := by decide +kernel
theorem dX12_children_17 : decode cX12_children 17 = .ok (.iconst (-1), 1) := by decide +kernel
theorem dX12_children_18 : decode cX12_children 18 = .ok (.ireturn, 1) := by decide +kernel
theorem dX12_children_19 : decode cX12_children 19 = .ok (.aload_n 0, 1) := by decide +kernel
theorem dX12_children_20 : decode cX12_children 20 = .ok (.getfield 109, 3) := by decide +kernel
theorem dX12_children_23 : decode cX12_children 23 = .ok (.iload_n 1, 1) := by decide +kernel
theorem dX12_children_24 : decode cX12_children 24 = .ok (.iaload, 1) := by decide +kernel
theorem dX12_children_25 : decode cX12_children 25 = .ok (.iconst (-1), 1) := by decide +kernel
theorem dX12_children_26 : decode cX12_children 26 = .ok (.if_icmp .eq 17, 3) := by decide +kernel
theorem dX12_children_29 : decode cX12_children 29 = .ok (.aload_n 0, 1) := by decide +kernel
theorem dX12_children_30 : decode cX12_children 30 = .ok (.getfield 109, 3) := by decide +kernel
theorem dX12_children_33 : decode cX12_children 33 = .ok (.iload_n 1, 1) := by decide +kernel
theorem dX12_children_34 : decode cX12_children 34 = .ok (.iaload, 1) := by decide +kernel
theorem dX12_children_35 : decode cX12_children 35 = .ok (.bipush (-2), 2) := by decide +kernel
theorem dX12_children_37 : decode cX12_children 37 = .ok (.if_icmp .eq 6, 3) := by decide +kernel
theorem dX12_children_40 : decode cX12_children 40 = .ok (.bipush (-12), 2) := by decide +kernel
theorem dX12_children_42 : decode cX12_children 42 = .ok (.ireturn, 1) := by decide +kernel
theorem dX12_children_43 : decode cX12_children 43 = .ok (.aload_n 0, 1) := by decide +kernel
theorem dX12_children_44 : decode cX12_children 44 = .ok (.getfield 109, 3) := by decide +kernel
theorem dX12_children_47 : decode cX12_children 47 = .ok (.iload_n 1, 1) := by decide +kernel
theorem dX12_children_48 : decode cX12_children 48 = .ok (.iaload, 1) := by decide +kernel
theorem dX12_children_49 : decode cX12_children 49 = .ok (.iconst (-1), 1) := by decide +kernel
theorem dX12_children_50 : decode cX12_children 50 = .ok (.if_icmp .ne 5, 3) := by decide +kernel
theorem dX12_children_53 : decode cX12_children 53 = .ok (.iconst 0, 1) := by decide +kernel
theorem dX12_children_54 : decode cX12_children 54 = .ok (.ireturn, 1) := by decide +kernel
theorem dX12_children_55 : decode cX12_children 55 = .ok (.iconst 0, 1) := by decide +kernel
theorem dX12_children_56 : decode cX12_children 56 = .ok (.istore 4, 2) := by decide +kernel
theorem dX12_children_58 : decode cX12_children 58 = .ok (.iload 4, 2) := by decide +kernel
theorem dX12_children_60 : decode cX12_children 60 = .ok (.iload_n 3, 1) := by decide +kernel
theorem dX12_children_61 : decode cX12_children 61 = .ok (.if_icmp .ge 154, 3) := by decide +kernel
theorem dX12_children_64 : decode cX12_children 64 = .ok (.iload_n 2, 1) := by decide +kernel
theorem dX12_children_65 : decode cX12_children 65 = .ok (.i2l, 1) := by decide +kernel
theorem dX12_children_66 : decode cX12_children 66 = .ok (.iconst 3, 1) := by decide +kernel
theorem dX12_children_67 : decode cX12_children 67 = .ok (.iload 4, 2) := by decide +kernel
theorem dX12_children_69 : decode cX12_children 69 = .ok (.imul, 1) := by decide +kernel
theorem dX12_children_70 : decode cX12_children 70 = .ok (.i2l, 1) := by decide +kernel
theorem dX12_children_71 : decode cX12_children 71 = .ok (.ladd, 1) := by decide +kernel
theorem dX12_children_72 : decode cX12_children 72 = .ok (.lstore 5, 2) := by decide +kernel
theorem dX12_children_74 : decode cX12_children 74 = .ok (.lload 5, 2) := by decide +kernel
theorem dX12_children_76 : decode cX12_children 76 = .ok (.lconst 0, 1) := by decide +kernel
theorem dX12_children_77 : decode cX12_children 77 = .ok (.lcmp, 1) := by decide +kernel
theorem dX12_children_78 : decode cX12_children 78 = .ok (.ifCond .lt 29, 3) := by decide +kernel
theorem dX12_children_81 : decode cX12_children 81 = .ok (.lload 5, 2) := by decide +kernel
theorem dX12_children_83 : decode cX12_children 83 = .ok (.ldc2_w 140, 3) := by decide +kernel
theorem dX12_children_86 : decode cX12_children 86 = .ok (.ladd, 1) := by decide +kernel
theorem dX12_children_87 : decode cX12_children 87 = .ok (.aload_n 0, 1) := by decide +kernel
theorem dX12_children_88 : decode cX12_children 88 = .ok (.getfield 112, 3) := by decide +kernel
theorem dX12_children_91 : decode cX12_children 91 = .ok (.iload_n 1, 1) := by decide +kernel
theorem dX12_children_92 : decode cX12_children 92 = .ok (.iaload, 1) := by decide +kernel
theorem dX12_children_93 : decode cX12_children 93 = .ok (.i2l, 1) := by decide +kernel
theorem dX12_children_94 : decode cX12_children 94 = .ok (.lcmp, 1) := by decide +kernel
theorem dX12_children_95 : decode cX12_children 95 = .ok (.ifCond .ge 12, 3) := by decide +kernel
theorem dX12_children_98 : decode cX12_children 98 = .ok (.aload_n 0, 1) := by decide +kernel
theorem dX12_children_99 : decode cX12_children 99 = .ok (.getfield 125, 3) := by decide +kernel
theorem dX12_children_102 : decode cX12_children 102 = .ok (.bipush 9, 2) := by decide +kernel
theorem dX12_children_104 : decode cX12_children 104 = .ok (.if_icmp .ne 6, 3) := by decide +kernel
theorem dX12_children_107 : decode cX12_children 107 = .ok (.iload 4, 2) := by decide +kernel
theorem dX12_children_109 : decode cX12_children 109 = .ok (.ireturn, 1) := by decide +kernel
theorem dX12_children_110 : decode cX12_children 110 = .ok (.bipush 60, 2) := by decide +kernel
theorem dX12_children_112 : decode cX12_children 112 = .ok (.iload_n 1, 1) := by decide +kernel
theorem dX12_children_113 : decode cX12_children 113 = .ok (.imul, 1) := by decide +kernel
theorem dX12_children_114 : decode cX12_children 114 = .ok (.lload 5, 2) := by decide +kernel
theorem dX12_children_116 : decode cX12_children 116 = .ok (.l2i, 1) := by decide +kernel
theorem dX12_children_117 : decode cX12_children 117 = .ok (.iadd, 1) := by decide +kernel
theorem dX12_children_118 : decode cX12_children 118 = .ok (.istore 7, 2) := by decide +kernel
theorem dX12_children_120 : decode cX12_children 120 = .ok (.aload_n 0, 1) := by decide +kernel
theorem dX12_children_121 : decode cX12_children 121 = .ok (.getfield 115, 3) := by decide +kernel
theorem dX12_children_124 : decode cX12_children 124 = .ok (.iload 7, 2) := by decide +kernel
theorem dX12_children_126 : decode cX12_children 126 = .ok (.laload, 1) := by decide +kernel
theorem dX12_children_127 : decode cX12_children 127 = .ok (.l2i, 1) := by decide +kernel
theorem dX12_children_128 : decode cX12_children 128 = .ok (.iconst 1, 1) := by decide +kernel
theorem dX12_children_129 : decode cX12_children 129 = .ok (.bipush 9, 2) := by decide +kernel
theorem dX12_children_131 : decode cX12_children 131 = .ok (.invokestatic 128, 3) := by decide +kernel
theorem dX12_children_134 : decode cX12_children 134 = .ok (.ifCond .eq 39, 3) := by decide +kernel
theorem dX12_children_137 : decode cX12_children 137 = .ok (.aload_n 0, 1) := by decide +kernel
theorem dX12_children_138 : decode cX12_children 138 = .ok (.getfield 115, 3) := by decide +kernel
theorem dX12_children_141 : decode cX12_children 141 = .ok (.iload 7, 2) := by decide +kernel
theorem dX12_children_143 : decode cX12_children 143 = .ok (.iconst 1, 1) := by decide +kernel
theorem dX12_children_144 : decode cX12_children 144 = .ok (.iadd, 1) := by decide +kernel
theorem dX12_children_145 : decode cX12_children 145 = .ok (.laload, 1) := by decide +kernel
theorem dX12_children_146 : decode cX12_children 146 = .ok (.l2i, 1) := by decide +kernel
theorem dX12_children_147 : decode cX12_children 147 = .ok (.iconst 0, 1) := by decide +kernel
theorem dX12_children_148 : decode cX12_children 148 = .ok (.iconst 3, 1) := by decide +kernel
theorem dX12_children_149 : decode cX12_children 149 = .ok (.invokestatic 128, 3) := by decide +kernel
theorem dX12_children_152 : decode cX12_children 152 = .ok (.ifCond .eq 21, 3) := by decide +kernel
theorem dX12_children_155 : decode cX12_children 155 = .ok (.aload_n 0, 1) := by decide +kernel
theorem dX12_children_156 : decode cX12_children 156 = .ok (.getfield 115, 3) := by decide +kernel
theorem dX12_children_159 : decode cX12_children 159 = .ok (.iload 7, 2) := by decide +kernel
theorem dX12_children_161 : decode cX12_children 161 = .ok (.iconst 2, 1) := by decide +kernel
theorem dX12_children_162 : decode cX12_children 162 = .ok (.iadd, 1) := by decide +kernel
theorem dX12_children_163 : decode cX12_children 163 = .ok (.laload, 1) := by decide +kernel
theorem dX12_children_164 : decode cX12_children 164 = .ok (.l2i, 1) := by decide +kernel
theorem dX12_children_165 : decode cX12_children 165 = .ok (.iconst 0, 1) := by decide +kernel
theorem dX12_children_166 : decode cX12_children 166 = .ok (.iconst 3, 1) := by decide +kernel
theorem dX12_children_167 : decode cX12_children 167 = .ok (.invokestatic 128, 3) := by decide +kernel
theorem dX12_children_170 : decode cX12_children 170 = .ok (.ifCond .ne 6, 3) := by decide +kernel
theorem dX12_children_173 : decode cX12_children 173 = .ok (.iload 4, 2) := by decide +kernel
theorem dX12_children_175 : decode cX12_children 175 = .ok (.ireturn, 1) := by decide +kernel
theorem dX12_children_176 : decode cX12_children 176 = .ok (.aload_n 0, 1) := by decide +kernel
theorem dX12_children_177 : decode cX12_children 177 = .ok (.aload_n 0, 1) := by decide +kernel
theorem dX12_children_178 : decode cX12_children 178 = .ok (.getfield 115, 3) := by decide +kernel
theorem dX12_children_181 : decode cX12_children 181 = .ok (.iload 7, 2) := by decide +kernel
theorem dX12_children_183 : decode cX12_children 183 = .ok (.laload, 1) := by decide +kernel
theorem dX12_children_184 : decode cX12_children 184 = .ok (.l2i, 1) := by decide +kernel
theorem dX12_children_185 : decode cX12_children 185 = .ok (.aload_n 0, 1) := by decide +kernel
theorem dX12_children_186 : decode cX12_children 186 = .ok (.getfield 115, 3) := by decide +kernel
theorem dX12_children_189 : decode cX12_children 189 = .ok (.iload 7, 2) := by decide +kernel
theorem dX12_children_191 : decode cX12_children 191 = .ok (.iconst 1, 1) := by decide +kernel
theorem dX12_children_192 : decode cX12_children 192 = .ok (.iadd, 1) := by decide +kernel
theorem dX12_children_193 : decode cX12_children 193 = .ok (.laload, 1) := by decide +kernel
theorem dX12_children_194 : decode cX12_children 194 = .ok (.l2i, 1) := by decide +kernel
theorem dX12_children_195 : decode cX12_children 195 = .ok (.aload_n 0, 1) := by decide +kernel
theorem dX12_children_196 : decode cX12_children 196 = .ok (.getfield 115, 3) := by decide +kernel
theorem dX12_children_199 : decode cX12_children 199 = .ok (.iload 7, 2) := by decide +kernel
theorem dX12_children_201 : decode cX12_children 201 = .ok (.iconst 2, 1) := by decide +kernel
theorem dX12_children_202 : decode cX12_children 202 = .ok (.iadd, 1) := by decide +kernel
theorem dX12_children_203 : decode cX12_children 203 = .ok (.laload, 1) := by decide +kernel
theorem dX12_children_204 : decode cX12_children 204 = .ok (.l2i, 1) := by decide +kernel
theorem dX12_children_205 : decode cX12_children 205 = .ok (.invokevirtual 132, 3) := by decide +kernel
theorem dX12_children_208 : decode cX12_children 208 = .ok (.pop, 1) := by decide +kernel
theorem dX12_children_209 : decode cX12_children 209 = .ok (.iinc 4 1, 3) := by decide +kernel
theorem dX12_children_212 : decode cX12_children 212 = .ok (.goto (-154), 3) := by decide +kernel
theorem dX12_children_215 : decode cX12_children 215 = .ok (.iload_n 3, 1) := by decide +kernel
theorem dX12_children_216 : decode cX12_children 216 = .ok (.ireturn, 1) := by decide +kernel
theorem dX12_valueAt_0 : decode cX12_valueAt 0 = .ok (.iload_n 1, 1) := by decide +kernel
theorem dX12_valueAt_1 : decode cX12_valueAt 1 = .ok (.tableswitch 119 0 9 #[55, 62, 69, 76, 83, 90, 97, 104, 109, 114], 55) := by decide +kernel
theorem dX12_valueAt_56 : decode cX12_valueAt 56 = .ok (.aload_n 0, 1) := by decide +kernel
theorem dX12_valueAt_57 : decode cX12_valueAt 57 = .ok (.getfield 13, 3) := by decide +kernel
theorem dX12_valueAt_60 : decode cX12_valueAt 60 = .ok (.iload_n 2, 1) := by decide +kernel
theorem dX12_valueAt_61 : decode cX12_valueAt 61 = .ok (.iaload, 1) := by decide +kernel
theorem dX12_valueAt_62 : decode cX12_valueAt 62 = .ok (.ireturn, 1) := by decide +kernel
theorem dX12_valueAt_63 : decode cX12_valueAt 63 = .ok (.aload_n 0, 1) := by decide +kernel
theorem dX12_valueAt_64 : decode cX12_valueAt 64 = .ok (.getfield 16, 3) := by decide +kernel
theorem dX12_valueAt_67 : decode cX12_valueAt 67 = .ok (.iload_n 2, 1) := by decide +kernel
theorem dX12_valueAt_68 : decode cX12_valueAt 68 = .ok (.iaload, 1) := by decide +kernel
theorem dX12_valueAt_69 : decode cX12_valueAt 69 = .ok (.ireturn, 1) := by decide +kernel
theorem dX12_valueAt_70 : decode cX12_valueAt 70 = .ok (.aload_n 0, 1) := by decide +kernel
theorem dX12_valueAt_71 : decode cX12_valueAt 71 = .ok (.getfield 19, 3) := by decide +kernel
theorem dX12_valueAt_74 : decode cX12_valueAt 74 = .ok (.iload_n 2, 1) := by decide +kernel
theorem dX12_valueAt_75 : decode cX12_valueAt 75 = .ok (.iaload, 1) := by decide +kernel
theorem dX12_valueAt_76 : decode cX12_valueAt 76 = .ok (.ireturn, 1) := by decide +kernel
theorem dX12_valueAt_77 : decode cX12_valueAt 77 = .ok (.aload_n 0, 1) := by decide +kernel
theorem dX12_valueAt_78 : decode cX12_valueAt 78 = .ok (.getfield 22, 3) := by decide +kernel
theorem dX12_valueAt_81 : decode cX12_valueAt 81 = .ok (.iload_n 2, 1) := by decide +kernel
theorem dX12_valueAt_82 : decode cX12_valueAt 82 = .ok (.iaload, 1) := by decide +kernel
theorem dX12_valueAt_83 : decode cX12_valueAt 83 = .ok (.ireturn, 1) := by decide +kernel
theorem dX12_valueAt_84 : decode cX12_valueAt 84 = .ok (.aload_n 0, 1) := by decide +kernel
theorem dX12_valueAt_85 : decode cX12_valueAt 85 = .ok (.getfield 25, 3) := by decide +kernel
theorem dX12_valueAt_88 : decode cX12_valueAt 88 = .ok (.iload_n 2, 1) := by decide +kernel
theorem dX12_valueAt_89 : decode cX12_valueAt 89 = .ok (.iaload, 1) := by decide +kernel
theorem dX12_valueAt_90 : decode cX12_valueAt 90 = .ok (.ireturn, 1) := by decide +kernel
theorem dX12_valueAt_91 : decode cX12_valueAt 91 = .ok (.aload_n 0, 1) := by decide +kernel
theorem dX12_valueAt_92 : decode cX12_valueAt 92 = .ok (.getfield 28, 3) := by decide +kernel
theorem dX12_valueAt_95 : decode cX12_valueAt 95 = .ok (.iload_n 2, 1) := by decide +kernel
theorem dX12_valueAt_96 : decode cX12_valueAt 96 = .ok (.iaload, 1) := by decide +kernel
theorem dX12_valueAt_97 : decode cX12_valueAt 97 = .ok (.ireturn, 1) := by decide +kernel
theorem dX12_valueAt_98 : decode cX12_valueAt 98 = .ok (.aload_n 0, 1) := by decide +kernel
theorem dX12_valueAt_99 : decode cX12_valueAt 99 = .ok (.getfield 7, 3) := by decide +kernel
theorem dX12_valueAt_102 : decode cX12_valueAt 102 = .ok (.iload_n 2, 1) := by decide +kernel
theorem dX12_valueAt_103 : decode cX12_valueAt 103 = .ok (.iaload, 1) := by decide +kernel
theorem dX12_valueAt_104 : decode cX12_valueAt 104 = .ok (.ireturn, 1) := by decide +kernel
theorem dX12_valueAt_105 : decode cX12_valueAt 105 = .ok (.aload_n 0, 1) := by decide +kernel
theorem dX12_valueAt_106 : decode cX12_valueAt 106 = .ok (.getfield 31, 3) := by decide +kernel
theorem dX12_valueAt_109 : decode cX12_valueAt 109 = .ok (.ireturn, 1) := by decide +kernel
theorem dX12_valueAt_110 : decode cX12_valueAt 110 = .ok (.aload_n 0, 1) := by decide +kernel
theorem dX12_valueAt_111 : decode cX12_valueAt 111 = .ok (.getfield 35, 3) := by decide +kernel
theorem dX12_valueAt_114 : decode cX12_valueAt 114 = .ok (.ireturn, 1) := by decide +kernel
theorem dX12_valueAt_115 : decode cX12_valueAt 115 = .ok (.aload_n 0, 1) := by decide +kernel
theorem dX12_valueAt_116 : decode cX12_valueAt 116 = .ok (.getfield 142, 3) := by decide +kernel
theorem dX12_valueAt_119 : decode cX12_valueAt 119 = .ok (.ireturn, 1) := by decide +kernel
theorem dX12_valueAt_120 : decode cX12_valueAt 120 = .ok (.aload_n 0, 1) := by decide +kernel
theorem dX12_valueAt_121 : decode cX12_valueAt 121 = .ok (.getfield 145, 3) := by decide +kernel
theorem dX12_valueAt_124 : decode cX12_valueAt 124 = .ok (.ireturn, 1) := by decide +kernel
theorem dX12_lays_0 : decode cX12_lays 0 = .ok (.iload_n 1, 1) := by decide +kernel
theorem dX12_lays_1 : decode cX12_lays 1 = .ok (.tableswitch 149 0 9 #[55, 65, 75, 85, 95, 105, 115, 125, 133, 141], 55) := by decide +kernel
theorem dX12_lays_56 : decode cX12_lays 56 = .ok (.aload_n 0, 1) := by decide +kernel
theorem dX12_lays_57 : decode cX12_lays 57 = .ok (.getfield 13, 3) := by decide +kernel
theorem dX12_lays_60 : decode cX12_lays 60 = .ok (.iload_n 2, 1) := by decide +kernel
theorem dX12_lays_61 : decode cX12_lays 61 = .ok (.iload_n 3, 1) := by decide +kernel
theorem dX12_lays_62 : decode cX12_lays 62 = .ok (.iastore, 1) := by decide +kernel
theorem dX12_lays_63 : decode cX12_lays 63 = .ok (.goto 92, 3) := by decide +kernel
theorem dX12_lays_66 : decode cX12_lays 66 = .ok (.aload_n 0, 1) := by decide +kernel
theorem dX12_lays_67 : decode cX12_lays 67 = .ok (.getfield 16, 3) := by decide +kernel
theorem dX12_lays_70 : decode cX12_lays 70 = .ok (.iload_n 2, 1) := by decide +kernel
theorem dX12_lays_71 : decode cX12_lays 71 = .ok (.iload_n 3, 1) := by decide +kernel
theorem dX12_lays_72 : decode cX12_lays 72 = .ok (.iastore, 1) := by decide +kernel
theorem dX12_lays_73 : decode cX12_lays 73 = .ok (.goto 82, 3) := by decide +kernel
theorem dX12_lays_76 : decode cX12_lays 76 = .ok (.aload_n 0, 1) := by decide +kernel
theorem dX12_lays_77 : decode cX12_lays 77 = .ok (.getfield 19, 3) := by decide +kernel
theorem dX12_lays_80 : decode cX12_lays 80 = .ok (.iload_n 2, 1) := by decide +kernel
theorem dX12_lays_81 : decode cX12_lays 81 = .ok (.iload_n 3, 1) := by decide +kernel
theorem dX12_lays_82 : decode cX12_lays 82 = .ok (.iastore, 1) := by decide +kernel
theorem dX12_lays_83 : decode cX12_lays 83 = .ok (.goto 72, 3) := by decide +kernel
theorem dX12_lays_86 : decode cX12_lays 86 = .ok (.aload_n 0, 1) := by decide +kernel
theorem dX12_lays_87 : decode cX12_lays 87 = .ok (.getfield 22, 3) := by decide +kernel
theorem dX12_lays_90 : decode cX12_lays 90 = .ok (.iload_n 2, 1) := by decide +kernel
theorem dX12_lays_91 : decode cX12_lays 91 = .ok (.iload_n 3, 1) := by decide +kernel
theorem dX12_lays_92 : decode cX12_lays 92 = .ok (.iastore, 1) := by decide +kernel
theorem dX12_lays_93 : decode cX12_lays 93 = .ok (.goto 62, 3) := by decide +kernel
theorem dX12_lays_96 : decode cX12_lays 96 = .ok (.aload_n 0, 1) := by decide +kernel
theorem dX12_lays_97 : decode cX12_lays 97 = .ok (.getfield 25, 3) := by decide +kernel
theorem dX12_lays_100 : decode cX12_lays 100 = .ok (.iload_n 2, 1) := by decide +kernel
theorem dX12_lays_101 : decode cX12_lays 101 = .ok (.iload_n 3, 1) := by decide +kernel
theorem dX12_lays_102 : decode cX12_lays 102 = .ok (.iastore, 1) := by decide +kernel
theorem dX12_lays_103 : decode cX12_lays 103 = .ok (.goto 52, 3) := by decide +kernel
theorem dX12_lays_106 : decode cX12_lays 106 = .ok (.aload_n 0, 1) := by decide +kernel
theorem dX12_lays_107 : decode cX12_lays 107 = .ok (.getfield 28, 3) := by decide +kernel
theorem dX12_lays_110 : decode cX12_lays 110 = .ok (.iload_n 2, 1) := by decide +kernel
theorem dX12_lays_111 : decode cX12_lays 111 = .ok (.iload_n 3, 1) := by decide +kernel
theorem dX12_lays_112 : decode cX12_lays 112 = .ok (.iastore, 1) := by decide +kernel
theorem dX12_lays_113 : decode cX12_lays 113 = .ok (.goto 42, 3) := by decide +kernel
theorem dX12_lays_116 : decode cX12_lays 116 = .ok (.aload_n 0, 1) := by decide +kernel
theorem dX12_lays_117 : decode cX12_lays 117 = .ok (.getfield 7, 3) := by decide +kernel
theorem dX12_lays_120 : decode cX12_lays 120 = .ok (.iload_n 2, 1) := by decide +kernel
theorem dX12_lays_121 : decode cX12_lays 121 = .ok (.iload_n 3, 1) := by decide +kernel
theorem dX12_lays_122 : decode cX12_lays 122 = .ok (.iastore, 1) := by decide +kernel
theorem dX12_lays_123 : decode cX12_lays 123 = .ok (.goto 32, 3) := by decide +kernel
theorem dX12_lays_126 : decode cX12_lays 126 = .ok (.aload_n 0, 1) := by decide +kernel
theorem dX12_lays_127 : decode cX12_lays 127 = .ok (.iload_n 3, 1) := by decide +kernel
theorem dX12_lays_128 : decode cX12_lays 128 = .ok (.putfield 31, 3) := by decide +kernel
theorem dX12_lays_131 : decode cX12_lays 131 = .ok (.goto 24, 3) := by decide +kernel
theorem dX12_lays_134 : decode cX12_lays 134 = .ok (.aload_n 0, 1) := by decide +kernel
theorem dX12_lays_135 : decode cX12_lays 135 = .ok (.iload_n 3, 1) := by decide +kernel
theorem dX12_lays_136 : decode cX12_lays 136 = .ok (.putfield 35, 3) := by decide +kernel
theorem dX12_lays_139 : decode cX12_lays 139 = .ok (.goto 16, 3) := by decide +kernel
theorem dX12_lays_142 : decode cX12_lays 142 = .ok (.aload_n 0, 1) := by decide +kernel
theorem dX12_lays_143 : decode cX12_lays 143 = .ok (.iload_n 3, 1) := by decide +kernel
theorem dX12_lays_144 : decode cX12_lays 144 = .ok (.putfield 142, 3) := by decide +kernel
theorem dX12_lays_147 : decode cX12_lays 147 = .ok (.goto 8, 3) := by decide +kernel
theorem dX12_lays_150 : decode cX12_lays 150 = .ok (.aload_n 0, 1) := by decide +kernel
theorem dX12_lays_151 : decode cX12_lays 151 = .ok (.iload_n 3, 1) := by decide +kernel
theorem dX12_lays_152 : decode cX12_lays 152 = .ok (.putfield 145, 3) := by decide +kernel
theorem dX12_lays_155 : decode cX12_lays 155 = .ok (.return_, 1) := by decide +kernel
theorem dX12_changes_0 : decode cX12_changes 0 = .ok (.aload_n 0, 1) := by decide +kernel
theorem dX12_changes_1 : decode cX12_changes 1 = .ok (.iload_n 1, 1) := by decide +kernel
theorem dX12_changes_2 : decode cX12_changes 2 = .ok (.iload_n 2, 1) := by decide +kernel
theorem dX12_changes_3 : decode cX12_changes 3 = .ok (.invokevirtual 148, 3) := by decide +kernel
theorem dX12_changes_6 : decode cX12_changes 6 = .ok (.istore 4, 2) := by decide +kernel
theorem dX12_changes_8 : decode cX12_changes 8 = .ok (.iload 4, 2) := by decide +kernel
theorem dX12_changes_10 : decode cX12_changes 10 = .ok (.iload_n 3, 1) := by decide +kernel
theorem dX12_changes_11 : decode cX12_changes 11 = .ok (.if_icmp .ne 6, 3) := by decide +kernel
theorem dX12_changes_14 : decode cX12_changes 14 = .ok (.iload 4, 2) := by decide +kernel
theorem dX12_changes_16 : decode cX12_changes 16 = .ok (.ireturn, 1) := by decide +kernel
theorem dX12_changes_17 : decode cX12_changes 17 = .ok (.aload_n 0, 1) := by decide +kernel
theorem dX12_changes_18 : decode cX12_changes 18 = .ok (.iconst 0, 1) := by decide +kernel
theorem dX12_changes_19 : decode cX12_changes 19 = .ok (.putfield 152, 3) := by decide +kernel
theorem dX12_changes_22 : decode cX12_changes 22 = .ok (.aload_n 0, 1) := by decide +kernel
theorem dX12_changes_23 : decode cX12_changes 23 = .ok (.getfield 155, 3) := by decide +kernel
theorem dX12_changes_26 : decode cX12_changes 26 = .ok (.bipush 40, 2) := by decide +kernel
theorem dX12_changes_28 : decode cX12_changes 28 = .ok (.if_icmp .ne 93, 3) := by decide +kernel
theorem dX12_changes_31 : decode cX12_changes 31 = .ok (.iconst 1, 1) := by decide +kernel
theorem dX12_changes_32 : decode cX12_changes 32 = .ok (.istore 5, 2) := by decide +kernel
theorem dX12_changes_34 : decode cX12_changes 34 = .ok (.iload 5, 2) := by decide +kernel
theorem dX12_changes_36 : decode cX12_changes 36 = .ok (.bipush 40, 2) := by decide +kernel
theorem dX12_changes_38 : decode cX12_changes 38 = .ok (.if_icmp .ge 73, 3) := by decide +kernel
theorem dX12_changes_41 : decode cX12_changes 41 = .ok (.aload_n 0, 1) := by decide +kernel
theorem dX12_changes_42 : decode cX12_changes 42 = .ok (.getfield 38, 3) := by decide +kernel
theorem dX12_changes_45 : decode cX12_changes 45 = .ok (.iload 5, 2) := by decide +kernel
theorem dX12_changes_47 : decode cX12_changes 47 = .ok (.iconst 1, 1) := by decide +kernel
theorem dX12_changes_48 : decode cX12_changes 48 = .ok (.isub, 1) := by decide +kernel
theorem dX12_changes_49 : decode cX12_changes 49 = .ok (.aload_n 0, 1) := by decide +kernel
theorem dX12_changes_50 : decode cX12_changes 50 = .ok (.getfield 38, 3) := by decide +kernel
theorem dX12_changes_53 : decode cX12_changes 53 = .ok (.iload 5, 2) := by decide +kernel
theorem dX12_changes_55 : decode cX12_changes 55 = .ok (.iaload, 1) := by decide +kernel
theorem dX12_changes_56 : decode cX12_changes 56 = .ok (.iastore, 1) := by decide +kernel
theorem dX12_changes_57 : decode cX12_changes 57 = .ok (.aload_n 0, 1) := by decide +kernel
theorem dX12_changes_58 : decode cX12_changes 58 = .ok (.getfield 41, 3) := by decide +kernel
theorem dX12_changes_61 : decode cX12_changes 61 = .ok (.iload 5, 2) := by decide +kernel
theorem dX12_changes_63 : decode cX12_changes 63 = .ok (.iconst 1, 1) := by decide +kernel
theorem dX12_changes_64 : decode cX12_changes 64 = .ok (.isub, 1) := by decide +kernel
theorem dX12_changes_65 : decode cX12_changes 65 = .ok (.aload_n 0, 1) := by decide +kernel
theorem dX12_changes_66 : decode cX12_changes 66 = .ok (.getfield 41, 3) := by decide +kernel
theorem dX12_changes_69 : decode cX12_changes 69 = .ok (.iload 5, 2) := by decide +kernel
theorem dX12_changes_71 : decode cX12_changes 71 = .ok (.iaload, 1) := by decide +kernel
theorem dX12_changes_72 : decode cX12_changes 72 = .ok (.iastore, 1) := by decide +kernel
theorem dX12_changes_73 : decode cX12_changes 73 = .ok (.aload_n 0, 1) := by decide +kernel
theorem dX12_changes_74 : decode cX12_changes 74 = .ok (.getfield 44, 3) := by decide +kernel
theorem dX12_changes_77 : decode cX12_changes 77 = .ok (.iload 5, 2) := by decide +kernel
theorem dX12_changes_79 : decode cX12_changes 79 = .ok (.iconst 1, 1) := by decide +kernel
theorem dX12_changes_80 : decode cX12_changes 80 = .ok (.isub, 1) := by decide +kernel
theorem dX12_changes_81 : decode cX12_changes 81 = .ok (.aload_n 0, 1) := by decide +kernel
theorem dX12_changes_82 : decode cX12_changes 82 = .ok (.getfield 44, 3) := by decide +kernel
theorem dX12_changes_85 : decode cX12_changes 85 = .ok (.iload 5, 2) := by decide +kernel
theorem dX12_changes_87 : decode cX12_changes 87 = .ok (.iaload, 1) := by decide +kernel
theorem dX12_changes_88 : decode cX12_changes 88 = .ok (.iastore, 1) := by decide +kernel
theorem dX12_changes_89 : decode cX12_changes 89 = .ok (.aload_n 0, 1) := by decide +kernel
theorem dX12_changes_90 : decode cX12_changes 90 = .ok (.getfield 47, 3) := by decide +kernel
theorem dX12_changes_93 : decode cX12_changes 93 = .ok (.iload 5, 2) := by decide +kernel
theorem dX12_changes_95 : decode cX12_changes 95 = .ok (.iconst 1, 1) := by decide +kernel
theorem dX12_changes_96 : decode cX12_changes 96 = .ok (.isub, 1) := by decide +kernel
theorem dX12_changes_97 : decode cX12_changes 97 = .ok (.aload_n 0, 1) := by decide +kernel
theorem dX12_changes_98 : decode cX12_changes 98 = .ok (.getfield 47, 3) := by decide +kernel
theorem dX12_changes_101 : decode cX12_changes 101 = .ok (.iload 5, 2) := by decide +kernel
theorem dX12_changes_103 : decode cX12_changes 103 = .ok (.iaload, 1) := by decide +kernel
theorem dX12_changes_104 : decode cX12_changes 104 = .ok (.iastore, 1) := by decide +kernel
theorem dX12_changes_105 : decode cX12_changes 105 = .ok (.iinc 5 1, 3) := by decide +kernel
theorem dX12_changes_108 : decode cX12_changes 108 = .ok (.goto (-74), 3) := by decide +kernel
theorem dX12_changes_111 : decode cX12_changes 111 = .ok (.aload_n 0, 1) := by decide +kernel
theorem dX12_changes_112 : decode cX12_changes 112 = .ok (.dup, 1) := by decide +kernel
theorem dX12_changes_113 : decode cX12_changes 113 = .ok (.getfield 155, 3) := by decide +kernel
theorem dX12_changes_116 : decode cX12_changes 116 = .ok (.iconst 1, 1) := by decide +kernel
theorem dX12_changes_117 : decode cX12_changes 117 = .ok (.isub, 1) := by decide +kernel
theorem dX12_changes_118 : decode cX12_changes 118 = .ok (.putfield 155, 3) := by decide +kernel
theorem dX12_changes_121 : decode cX12_changes 121 = .ok (.aload_n 0, 1) := by decide +kernel
theorem dX12_changes_122 : decode cX12_changes 122 = .ok (.getfield 38, 3) := by decide +kernel
theorem dX12_changes_125 : decode cX12_changes 125 = .ok (.aload_n 0, 1) := by decide +kernel
theorem dX12_changes_126 : decode cX12_changes 126 = .ok (.getfield 155, 3) := by decide +kernel
theorem dX12_changes_129 : decode cX12_changes 129 = .ok (.iload_n 1, 1) := by decide +kernel
