theorem dX0_init_0 : decode cX0_init 0 = .ok (.aload_n 0, 1) := by decide +kernel
theorem dX0_init_1 : decode cX0_init 1 = .ok (.invokespecial 3, 3) := by decide +kernel
theorem dX0_init_4 : decode cX0_init 4 = .ok (.aload_n 0, 1) := by decide +kernel
theorem dX0_init_5 : decode cX0_init 5 = .ok (.iconst 4, 1) := by decide +kernel
theorem dX0_init_6 : decode cX0_init 6 = .ok (.anewarray 9, 3) := by decide +kernel
theorem dX0_init_9 : decode cX0_init 9 = .ok (.putfield 11, 3) := by decide +kernel
theorem dX0_init_12 : decode cX0_init 12 = .ok (.iconst 0, 1) := by decide +kernel
theorem dX0_init_13 : decode cX0_init 13 = .ok (.istore_n 1, 1) := by decide +kernel
theorem dX0_init_14 : decode cX0_init 14 = .ok (.iload_n 1, 1) := by decide +kernel
theorem dX0_init_15 : decode cX0_init 15 = .ok (.aload_n 0, 1) := by decide +kernel
theorem dX0_init_16 : decode cX0_init 16 = .ok (.getfield 11, 3) := by decide +kernel
theorem dX0_init_19 : decode cX0_init 19 = .ok (.arraylength, 1) := by decide +kernel
theorem dX0_init_20 : decode cX0_init 20 = .ok (.if_icmp .ge 22, 3) := by decide +kernel
theorem dX0_init_23 : decode cX0_init 23 = .ok (.aload_n 0, 1) := by decide +kernel
theorem dX0_init_24 : decode cX0_init 24 = .ok (.getfield 11, 3) := by decide +kernel
theorem dX0_init_27 : decode cX0_init 27 = .ok (.iload_n 1, 1) := by decide +kernel
theorem dX0_init_28 : decode cX0_init 28 = .ok (.new 9, 3) := by decide +kernel
theorem dX0_init_31 : decode cX0_init 31 = .ok (.dup, 1) := by decide +kernel
theorem dX0_init_32 : decode cX0_init 32 = .ok (.invokespecial 17, 3) := by decide +kernel
theorem dX0_init_35 : decode cX0_init 35 = .ok (.aastore, 1) := by decide +kernel
theorem dX0_init_36 : decode cX0_init 36 = .ok (.iinc 1 1, 3) := by decide +kernel
theorem dX0_init_39 : decode cX0_init 39 = .ok (.goto (-25), 3) := by decide +kernel
theorem dX0_init_42 : decode cX0_init 42 = .ok (.return_, 1) := by decide +kernel
theorem dX0_girlAt_0 : decode cX0_girlAt 0 = .ok (.iload_n 1, 1) := by decide +kernel
theorem dX0_girlAt_1 : decode cX0_girlAt 1 = .ok (.ifCond .lt 20, 3) := by decide +kernel
theorem dX0_girlAt_4 : decode cX0_girlAt 4 = .ok (.iload_n 1, 1) := by decide +kernel
theorem dX0_girlAt_5 : decode cX0_girlAt 5 = .ok (.aload_n 0, 1) := by decide +kernel
theorem dX0_girlAt_6 : decode cX0_girlAt 6 = .ok (.getfield 18, 3) := by decide +kernel
theorem dX0_girlAt_9 : decode cX0_girlAt 9 = .ok (.if_icmp .ge 12, 3) := by decide +kernel
theorem dX0_girlAt_12 : decode cX0_girlAt 12 = .ok (.iload_n 1, 1) := by decide +kernel
theorem dX0_girlAt_13 : decode cX0_girlAt 13 = .ok (.aload_n 0, 1) := by decide +kernel
theorem dX0_girlAt_14 : decode cX0_girlAt 14 = .ok (.getfield 11, 3) := by decide +kernel
theorem dX0_girlAt_17 : decode cX0_girlAt 17 = .ok (.arraylength, 1) := by decide +kernel
theorem dX0_girlAt_18 : decode cX0_girlAt 18 = .ok (.if_icmp .lt 7, 3) := by decide +kernel
theorem dX0_girlAt_21 : decode cX0_girlAt 21 = .ok (.aconst_null, 1) := by decide +kernel
theorem dX0_girlAt_22 : decode cX0_girlAt 22 = .ok (.goto 9, 3) := by decide +kernel
theorem dX0_girlAt_25 : decode cX0_girlAt 25 = .ok (.aload_n 0, 1) := by decide +kernel
theorem dX0_girlAt_26 : decode cX0_girlAt 26 = .ok (.getfield 11, 3) := by decide +kernel
theorem dX0_girlAt_29 : decode cX0_girlAt 29 = .ok (.iload_n 1, 1) := by decide +kernel
theorem dX0_girlAt_30 : decode cX0_girlAt 30 = .ok (.aaload, 1) := by decide +kernel
theorem dX0_girlAt_31 : decode cX0_girlAt 31 = .ok (.areturn, 1) := by decide +kernel
theorem dX0_standAs_0 : decode cX0_standAs 0 = .ok (.aload_n 0, 1) := by decide +kernel
theorem dX0_standAs_1 : decode cX0_standAs 1 = .ok (.aload_n 1, 1) := by decide +kernel
theorem dX0_standAs_2 : decode cX0_standAs 2 = .ok (.getfield 22, 3) := by decide +kernel
theorem dX0_standAs_5 : decode cX0_standAs 5 = .ok (.putfield 27, 3) := by decide +kernel
theorem dX0_standAs_8 : decode cX0_standAs 8 = .ok (.aload_n 0, 1) := by decide +kernel
theorem dX0_standAs_9 : decode cX0_standAs 9 = .ok (.aload_n 1, 1) := by decide +kernel
theorem dX0_standAs_10 : decode cX0_standAs 10 = .ok (.getfield 28, 3) := by decide +kernel
theorem dX0_standAs_13 : decode cX0_standAs 13 = .ok (.putfield 18, 3) := by decide +kernel
theorem dX0_standAs_16 : decode cX0_standAs 16 = .ok (.iconst 0, 1) := by decide +kernel
theorem dX0_standAs_17 : decode cX0_standAs 17 = .ok (.istore_n 2, 1) := by decide +kernel
theorem dX0_standAs_18 : decode cX0_standAs 18 = .ok (.iload_n 2, 1) := by decide +kernel
theorem dX0_standAs_19 : decode cX0_standAs 19 = .ok (.aload_n 0, 1) := by decide +kernel
theorem dX0_standAs_20 : decode cX0_standAs 20 = .ok (.getfield 18, 3) := by decide +kernel
theorem dX0_standAs_23 : decode cX0_standAs 23 = .ok (.if_icmp .ge 33, 3) := by decide +kernel
theorem dX0_standAs_26 : decode cX0_standAs 26 = .ok (.aload_n 0, 1) := by decide +kernel
theorem dX0_standAs_27 : decode cX0_standAs 27 = .ok (.iload_n 2, 1) := by decide +kernel
theorem dX0_standAs_28 : decode cX0_standAs 28 = .ok (.invokevirtual 30, 3) := by decide +kernel
theorem dX0_standAs_31 : decode cX0_standAs 31 = .ok (.astore_n 3, 1) := by decide +kernel
theorem dX0_standAs_32 : decode cX0_standAs 32 = .ok (.aload_n 3, 1) := by decide +kernel
theorem dX0_standAs_33 : decode cX0_standAs 33 = .ok (.ifnull 17, 3) := by decide +kernel
theorem dX0_standAs_36 : decode cX0_standAs 36 = .ok (.aload_n 3, 1) := by decide +kernel
theorem dX0_standAs_37 : decode cX0_standAs 37 = .ok (.aload_n 1, 1) := by decide +kernel
theorem dX0_standAs_38 : decode cX0_standAs 38 = .ok (.iload_n 2, 1) := by decide +kernel
theorem dX0_standAs_39 : decode cX0_standAs 39 = .ok (.invokevirtual 34, 3) := by decide +kernel
theorem dX0_standAs_42 : decode cX0_standAs 42 = .ok (.aload_n 1, 1) := by decide +kernel
theorem dX0_standAs_43 : decode cX0_standAs 43 = .ok (.iload_n 2, 1) := by decide +kernel
theorem dX0_standAs_44 : decode cX0_standAs 44 = .ok (.invokevirtual 38, 3) := by decide +kernel
theorem dX0_standAs_47 : decode cX0_standAs 47 = .ok (.invokevirtual 41, 3) := by decide +kernel
theorem dX0_standAs_50 : decode cX0_standAs 50 = .ok (.iinc 2 1, 3) := by decide +kernel
theorem dX0_standAs_53 : decode cX0_standAs 53 = .ok (.goto (-35), 3) := by decide +kernel
theorem dX0_standAs_56 : decode cX0_standAs 56 = .ok (.return_, 1) := by decide +kernel
theorem dX0_becomeLike_0 : decode cX0_becomeLike 0 = .ok (.aload_n 0, 1) := by decide +kernel
theorem dX0_becomeLike_1 : decode cX0_becomeLike 1 = .ok (.aload_n 1, 1) := by decide +kernel
theorem dX0_becomeLike_2 : decode cX0_becomeLike 2 = .ok (.getfield 27, 3) := by decide +kernel
theorem dX0_becomeLike_5 : decode cX0_becomeLike 5 = .ok (.putfield 27, 3) := by decide +kernel
theorem dX0_becomeLike_8 : decode cX0_becomeLike 8 = .ok (.aload_n 0, 1) := by decide +kernel
theorem dX0_becomeLike_9 : decode cX0_becomeLike 9 = .ok (.aload_n 1, 1) := by decide +kernel
theorem dX0_becomeLike_10 : decode cX0_becomeLike 10 = .ok (.getfield 18, 3) := by decide +kernel
theorem dX0_becomeLike_13 : decode cX0_becomeLike 13 = .ok (.putfield 18, 3) := by decide +kernel
theorem dX0_becomeLike_16 : decode cX0_becomeLike 16 = .ok (.iconst 0, 1) := by decide +kernel
theorem dX0_becomeLike_17 : decode cX0_becomeLike 17 = .ok (.istore_n 2, 1) := by decide +kernel
theorem dX0_becomeLike_18 : decode cX0_becomeLike 18 = .ok (.iload_n 2, 1) := by decide +kernel
theorem dX0_becomeLike_19 : decode cX0_becomeLike 19 = .ok (.aload_n 0, 1) := by decide +kernel
theorem dX0_becomeLike_20 : decode cX0_becomeLike 20 = .ok (.getfield 18, 3) := by decide +kernel
theorem dX0_becomeLike_23 : decode cX0_becomeLike 23 = .ok (.if_icmp .ge 37, 3) := by decide +kernel
theorem dX0_becomeLike_26 : decode cX0_becomeLike 26 = .ok (.aload_n 0, 1) := by decide +kernel
theorem dX0_becomeLike_27 : decode cX0_becomeLike 27 = .ok (.iload_n 2, 1) := by decide +kernel
theorem dX0_becomeLike_28 : decode cX0_becomeLike 28 = .ok (.invokevirtual 30, 3) := by decide +kernel
theorem dX0_becomeLike_31 : decode cX0_becomeLike 31 = .ok (.astore_n 3, 1) := by decide +kernel
theorem dX0_becomeLike_32 : decode cX0_becomeLike 32 = .ok (.aload_n 1, 1) := by decide +kernel
theorem dX0_becomeLike_33 : decode cX0_becomeLike 33 = .ok (.iload_n 2, 1) := by decide +kernel
theorem dX0_becomeLike_34 : decode cX0_becomeLike 34 = .ok (.invokevirtual 30, 3) := by decide +kernel
theorem dX0_becomeLike_37 : decode cX0_becomeLike 37 = .ok (.astore 4, 2) := by decide +kernel
theorem dX0_becomeLike_39 : decode cX0_becomeLike 39 = .ok (.aload_n 3, 1) := by decide +kernel
theorem dX0_becomeLike_40 : decode cX0_becomeLike 40 = .ok (.ifnull 14, 3) := by decide +kernel
theorem dX0_becomeLike_43 : decode cX0_becomeLike 43 = .ok (.aload 4, 2) := by decide +kernel
theorem dX0_becomeLike_45 : decode cX0_becomeLike 45 = .ok (.ifnull 9, 3) := by decide +kernel
theorem dX0_becomeLike_48 : decode cX0_becomeLike 48 = .ok (.aload_n 3, 1) := by decide +kernel
theorem dX0_becomeLike_49 : decode cX0_becomeLike 49 = .ok (.aload 4, 2) := by decide +kernel
theorem dX0_becomeLike_51 : decode cX0_becomeLike 51 = .ok (.invokevirtual 45, 3) := by decide +kernel
theorem dX0_becomeLike_54 : decode cX0_becomeLike 54 = .ok (.iinc 2 1, 3) := by decide +kernel
theorem dX0_becomeLike_57 : decode cX0_becomeLike 57 = .ok (.goto (-39), 3) := by decide +kernel
theorem dX0_becomeLike_60 : decode cX0_becomeLike 60 = .ok (.return_, 1) := by decide +kernel
theorem dX0_ringsInAll_0 : decode cX0_ringsInAll 0 = .ok (.iconst 0, 1) := by decide +kernel
theorem dX0_ringsInAll_1 : decode cX0_ringsInAll 1 = .ok (.istore_n 1, 1) := by decide +kernel
theorem dX0_ringsInAll_2 : decode cX0_ringsInAll 2 = .ok (.iconst 0, 1) := by decide +kernel
theorem dX0_ringsInAll_3 : decode cX0_ringsInAll 3 = .ok (.istore_n 2, 1) := by decide +kernel
theorem dX0_ringsInAll_4 : decode cX0_ringsInAll 4 = .ok (.iload_n 2, 1) := by decide +kernel
theorem dX0_ringsInAll_5 : decode cX0_ringsInAll 5 = .ok (.aload_n 0, 1) := by decide +kernel
theorem dX0_ringsInAll_6 : decode cX0_ringsInAll 6 = .ok (.getfield 18, 3) := by decide +kernel
theorem dX0_ringsInAll_9 : decode cX0_ringsInAll 9 = .ok (.if_icmp .ge 30, 3) := by decide +kernel
theorem dX0_ringsInAll_12 : decode cX0_ringsInAll 12 = .ok (.aload_n 0, 1) := by decide +kernel
theorem dX0_ringsInAll_13 : decode cX0_ringsInAll 13 = .ok (.iload_n 2, 1) := by decide +kernel
theorem dX0_ringsInAll_14 : decode cX0_ringsInAll 14 = .ok (.invokevirtual 30, 3) := by decide +kernel
theorem dX0_ringsInAll_17 : decode cX0_ringsInAll 17 = .ok (.astore_n 3, 1) := by decide +kernel
theorem dX0_ringsInAll_18 : decode cX0_ringsInAll 18 = .ok (.iload_n 1, 1) := by decide +kernel
theorem dX0_ringsInAll_19 : decode cX0_ringsInAll 19 = .ok (.aload_n 3, 1) := by decide +kernel
theorem dX0_ringsInAll_20 : decode cX0_ringsInAll 20 = .ok (.ifnonnull 7, 3) := by decide +kernel
theorem dX0_ringsInAll_23 : decode cX0_ringsInAll 23 = .ok (.iconst 0, 1) := by decide +kernel
theorem dX0_ringsInAll_24 : decode cX0_ringsInAll 24 = .ok (.goto 7, 3) := by decide +kernel
theorem dX0_ringsInAll_27 : decode cX0_ringsInAll 27 = .ok (.aload_n 3, 1) := by decide +kernel
theorem dX0_ringsInAll_28 : decode cX0_ringsInAll 28 = .ok (.getfield 49, 3) := by decide +kernel
theorem dX0_ringsInAll_31 : decode cX0_ringsInAll 31 = .ok (.iadd, 1) := by decide +kernel
theorem dX0_ringsInAll_32 : decode cX0_ringsInAll 32 = .ok (.istore_n 1, 1) := by decide +kernel
theorem dX0_ringsInAll_33 : decode cX0_ringsInAll 33 = .ok (.iinc 2 1, 3) := by decide +kernel
theorem dX0_ringsInAll_36 : decode cX0_ringsInAll 36 = .ok (.goto (-32), 3) := by decide +kernel
theorem dX0_ringsInAll_39 : decode cX0_ringsInAll 39 = .ok (.iload_n 1, 1) := by decide +kernel
theorem dX0_ringsInAll_40 : decode cX0_ringsInAll 40 = .ok (.ireturn, 1) := by decide +kernel
theorem dX0_ringsOf_0 : decode cX0_ringsOf 0 = .ok (.iconst 0, 1) := by decide +kernel
theorem dX0_ringsOf_1 : decode cX0_ringsOf 1 = .ok (.istore_n 2, 1) := by decide +kernel
theorem dX0_ringsOf_2 : decode cX0_ringsOf 2 = .ok (.iconst 0, 1) := by decide +kernel
theorem dX0_ringsOf_3 : decode cX0_ringsOf 3 = .ok (.istore_n 3, 1) := by decide +kernel
theorem dX0_ringsOf_4 : decode cX0_ringsOf 4 = .ok (.iload_n 3, 1) := by decide +kernel
theorem dX0_ringsOf_5 : decode cX0_ringsOf 5 = .ok (.aload_n 0, 1) := by decide +kernel
theorem dX0_ringsOf_6 : decode cX0_ringsOf 6 = .ok (.getfield 18, 3) := by decide +kernel
theorem dX0_ringsOf_9 : decode cX0_ringsOf 9 = .ok (.if_icmp .ge 34, 3) := by decide +kernel
theorem dX0_ringsOf_12 : decode cX0_ringsOf 12 = .ok (.aload_n 0, 1) := by decide +kernel
theorem dX0_ringsOf_13 : decode cX0_ringsOf 13 = .ok (.iload_n 3, 1) := by decide +kernel
theorem dX0_ringsOf_14 : decode cX0_ringsOf 14 = .ok (.invokevirtual 30, 3) := by decide +kernel
theorem dX0_ringsOf_17 : decode cX0_ringsOf 17 = .ok (.astore 4, 2) := by decide +kernel
theorem dX0_ringsOf_19 : decode cX0_ringsOf 19 = .ok (.iload_n 2, 1) := by decide +kernel
theorem dX0_ringsOf_20 : decode cX0_ringsOf 20 = .ok (.aload 4, 2) := by decide +kernel
theorem dX0_ringsOf_22 : decode cX0_ringsOf 22 = .ok (.ifnonnull 7, 3) := by decide +kernel
theorem dX0_ringsOf_25 : decode cX0_ringsOf 25 = .ok (.iconst 0, 1) := by decide +kernel
theorem dX0_ringsOf_26 : decode cX0_ringsOf 26 = .ok (.goto 9, 3) := by decide +kernel
theorem dX0_ringsOf_29 : decode cX0_ringsOf 29 = .ok (.aload 4, 2) := by decide +kernel
theorem dX0_ringsOf_31 : decode cX0_ringsOf 31 = .ok (.iload_n 1, 1) := by decide +kernel
theorem dX0_ringsOf_32 : decode cX0_ringsOf 32 = .ok (.invokevirtual 52, 3) := by decide +kernel
theorem dX0_ringsOf_35 : decode cX0_ringsOf 35 = .ok (.iadd, 1) := by decide +kernel
theorem dX0_ringsOf_36 : decode cX0_ringsOf 36 = .ok (.istore_n 2, 1) := by decide +kernel
theorem dX0_ringsOf_37 : decode cX0_ringsOf 37 = .ok (.iinc 3 1, 3) := by decide +kernel
theorem dX0_ringsOf_40 : decode cX0_ringsOf 40 = .ok (.goto (-36), 3) := by decide +kernel
theorem dX0_ringsOf_43 : decode cX0_ringsOf 43 = .ok (.iload_n 2, 1) := by decide +kernel
theorem dX0_ringsOf_44 : decode cX0_ringsOf 44 = .ok (.ireturn, 1) := by decide +kernel
theorem dX0_heldBy_0 : decode cX0_heldBy 0 = .ok (.iconst 0, 1) := by decide +kernel
theorem dX0_heldBy_1 : decode cX0_heldBy 1 = .ok (.istore_n 2, 1) := by decide +kernel
theorem dX0_heldBy_2 : decode cX0_heldBy 2 = .ok (.iconst 0, 1) := by decide +kernel
theorem dX0_heldBy_3 : decode cX0_heldBy 3 = .ok (.istore_n 3, 1) := by decide +kernel
theorem dX0_heldBy_4 : decode cX0_heldBy 4 = .ok (.iload_n 3, 1) := by decide +kernel
theorem dX0_heldBy_5 : decode cX0_heldBy 5 = .ok (.aload_n 0, 1) := by decide +kernel
theorem dX0_heldBy_6 : decode cX0_heldBy 6 = .ok (.getfield 18, 3) := by decide +kernel
theorem dX0_heldBy_9 : decode cX0_heldBy 9 = .ok (.if_icmp .ge 24, 3) := by decide +kernel
theorem dX0_heldBy_12 : decode cX0_heldBy 12 = .ok (.aload_n 0, 1) := by decide +kernel
theorem dX0_heldBy_13 : decode cX0_heldBy 13 = .ok (.iload_n 3, 1) := by decide +kernel
theorem dX0_heldBy_14 : decode cX0_heldBy 14 = .ok (.invokevirtual 55, 3) := by decide +kernel
theorem dX0_heldBy_17 : decode cX0_heldBy 17 = .ok (.iload_n 1, 1) := by decide +kernel
theorem dX0_heldBy_18 : decode cX0_heldBy 18 = .ok (.if_icmp .ne 9, 3) := by decide +kernel
theorem dX0_heldBy_21 : decode cX0_heldBy 21 = .ok (.iload_n 2, 1) := by decide +kernel
theorem dX0_heldBy_22 : decode cX0_heldBy 22 = .ok (.iconst 1, 1) := by decide +kernel
theorem dX0_heldBy_23 : decode cX0_heldBy 23 = .ok (.iload_n 3, 1) := by decide +kernel
theorem dX0_heldBy_24 : decode cX0_heldBy 24 = .ok (.ishl, 1) := by decide +kernel
theorem dX0_heldBy_25 : decode cX0_heldBy 25 = .ok (.ior, 1) := by decide +kernel
theorem dX0_heldBy_26 : decode cX0_heldBy 26 = .ok (.istore_n 2, 1) := by decide +kernel
theorem dX0_heldBy_27 : decode cX0_heldBy 27 = .ok (.iinc 3 1, 3) := by decide +kernel
theorem dX0_heldBy_30 : decode cX0_heldBy 30 = .ok (.goto (-26), 3) := by decide +kernel
theorem dX0_heldBy_33 : decode cX0_heldBy 33 = .ok (.iload_n 2, 1) := by decide +kernel
theorem dX0_heldBy_34 : decode cX0_heldBy 34 = .ok (.ireturn, 1) := by decide +kernel
theorem dX0_holderOf_0 : decode cX0_holderOf 0 = .ok (.aload_n 0, 1) := by decide +kernel
theorem dX0_holderOf_1 : decode cX0_holderOf 1 = .ok (.iload_n 1, 1) := by decide +kernel
theorem dX0_holderOf_2 : decode cX0_holderOf 2 = .ok (.invokevirtual 30, 3) := by decide +kernel
theorem dX0_holderOf_5 : decode cX0_holderOf 5 = .ok (.astore_n 2, 1) := by decide +kernel
theorem dX0_holderOf_6 : decode cX0_holderOf 6 = .ok (.aload_n 2, 1) := by decide +kernel
theorem dX0_holderOf_7 : decode cX0_holderOf 7 = .ok (.ifnonnull 8, 3) := by decide +kernel
theorem dX0_holderOf_10 : decode cX0_holderOf 10 = .ok (.bipush (-9), 2) := by decide +kernel
theorem dX0_holderOf_12 : decode cX0_holderOf 12 = .ok (.goto 7, 3) := by decide +kernel
theorem dX0_holderOf_15 : decode cX0_holderOf 15 = .ok (.aload_n 2, 1) := by decide +kernel
theorem dX0_holderOf_16 : decode cX0_holderOf 16 = .ok (.invokevirtual 58, 3) := by decide +kernel
theorem dX0_holderOf_19 : decode cX0_holderOf 19 = .ok (.ireturn, 1) := by decide +kernel
theorem dX0_girlsHeld_0 : decode cX0_girlsHeld 0 = .ok (.iconst 0, 1) := by decide +kernel
theorem dX0_girlsHeld_1 : decode cX0_girlsHeld 1 = .ok (.istore_n 1, 1) := by decide +kernel
theorem dX0_girlsHeld_2 : decode cX0_girlsHeld 2 = .ok (.iconst 0, 1) := by decide +kernel
theorem dX0_girlsHeld_3 : decode cX0_girlsHeld 3 = .ok (.istore_n 2, 1) := by decide +kernel
theorem dX0_girlsHeld_4 : decode cX0_girlsHeld 4 = .ok (.iload_n 2, 1) := by decide +kernel
theorem dX0_girlsHeld_5 : decode cX0_girlsHeld 5 = .ok (.aload_n 0, 1) := by decide +kernel
theorem dX0_girlsHeld_6 : decode cX0_girlsHeld 6 = .ok (.getfield 18, 3) := by decide +kernel
theorem dX0_girlsHeld_9 : decode cX0_girlsHeld 9 = .ok (.if_icmp .ge 22, 3) := by decide +kernel
theorem dX0_girlsHeld_12 : decode cX0_girlsHeld 12 = .ok (.aload_n 0, 1) := by decide +kernel
theorem dX0_girlsHeld_13 : decode cX0_girlsHeld 13 = .ok (.iload_n 2, 1) := by decide +kernel
theorem dX0_girlsHeld_14 : decode cX0_girlsHeld 14 = .ok (.invokevirtual 55, 3) := by decide +kernel
theorem dX0_girlsHeld_17 : decode cX0_girlsHeld 17 = .ok (.bipush (-9), 2) := by decide +kernel
theorem dX0_girlsHeld_19 : decode cX0_girlsHeld 19 = .ok (.if_icmp .eq 6, 3) := by decide +kernel
theorem dX0_girlsHeld_22 : decode cX0_girlsHeld 22 = .ok (.iinc 1 1, 3) := by decide +kernel
theorem dX0_girlsHeld_25 : decode cX0_girlsHeld 25 = .ok (.iinc 2 1, 3) := by decide +kernel
theorem dX0_girlsHeld_28 : decode cX0_girlsHeld 28 = .ok (.goto (-24), 3) := by decide +kernel
theorem dX0_girlsHeld_31 : decode cX0_girlsHeld 31 = .ok (.iload_n 1, 1) := by decide +kernel
theorem dX0_girlsHeld_32 : decode cX0_girlsHeld 32 = .ok (.ireturn, 1) := by decide +kernel
theorem dX1_init_0 : decode cX1_init 0 = .ok (.aload_n 0, 1) := by decide +kernel
theorem dX1_init_1 : decode cX1_init 1 = .ok (.invokespecial 3, 3) := by decide +kernel
theorem dX1_init_4 : decode cX1_init 4 = .ok (.aload_n 0, 1) := by decide +kernel
theorem dX1_init_5 : decode cX1_init 5 = .ok (.new 9, 3) := by decide +kernel
theorem dX1_init_8 : decode cX1_init 8 = .ok (.dup, 1) := by decide +kernel
theorem dX1_init_9 : decode cX1_init 9 = .ok (.invokespecial 11, 3) := by decide +kernel
theorem dX1_init_12 : decode cX1_init 12 = .ok (.putfield 12, 3) := by decide +kernel
theorem dX1_init_15 : decode cX1_init 15 = .ok (.return_, 1) := by decide +kernel
theorem dX1_begin_0 : decode cX1_begin 0 = .ok (.aload_n 0, 1) := by decide +kernel
theorem dX1_begin_1 : decode cX1_begin 1 = .ok (.getfield 12, 3) := by decide +kernel
theorem dX1_begin_4 : decode cX1_begin 4 = .ok (.aload_n 1, 1) := by decide +kernel
theorem dX1_begin_5 : decode cX1_begin 5 = .ok (.invokevirtual 18, 3) := by decide +kernel
theorem dX1_begin_8 : decode cX1_begin 8 = .ok (.aload_n 0, 1) := by decide +kernel
theorem dX1_begin_9 : decode cX1_begin 9 = .ok (.bipush (-9), 2) := by decide +kernel
theorem dX1_begin_11 : decode cX1_begin 11 = .ok (.putfield 22, 3) := by decide +kernel
theorem dX1_begin_14 : decode cX1_begin 14 = .ok (.aload_n 0, 1) := by decide +kernel
theorem dX1_begin_15 : decode cX1_begin 15 = .ok (.iconst 0, 1) := by decide +kernel
theorem dX1_begin_16 : decode cX1_begin 16 = .ok (.putfield 26, 3) := by decide +kernel
theorem dX1_begin_19 : decode cX1_begin 19 = .ok (.aload_n 0, 1) := by decide +kernel
theorem dX1_begin_20 : decode cX1_begin 20 = .ok (.iconst 0, 1) := by decide +kernel
theorem dX1_begin_21 : decode cX1_begin 21 = .ok (.putfield 29, 3) := by decide +kernel
theorem dX1_begin_24 : decode cX1_begin 24 = .ok (.return_, 1) := by decide +kernel
theorem dX1_throwsAt_0 : decode cX1_throwsAt 0 = .ok (.aload_n 0, 1) := by decide +kernel
theorem dX1_throwsAt_1 : decode cX1_throwsAt 1 = .ok (.getfield 12, 3) := by decide +kernel
theorem dX1_throwsAt_4 : decode cX1_throwsAt 4 = .ok (.iload_n 2, 1) := by decide +kernel
theorem dX1_throwsAt_5 : decode cX1_throwsAt 5 = .ok (.invokevirtual 32, 3) := by decide +kernel
theorem dX1_throwsAt_8 : decode cX1_throwsAt 8 = .ok (.astore_n 3, 1) := by decide +kernel
theorem dX1_throwsAt_9 : decode cX1_throwsAt 9 = .ok (.aload_n 3, 1) := by decide +kernel
theorem dX1_throwsAt_10 : decode cX1_throwsAt 10 = .ok (.ifnull 10, 3) := by decide +kernel
theorem dX1_throwsAt_13 : decode cX1_throwsAt 13 = .ok (.aload_n 3, 1) := by decide +kernel
theorem dX1_throwsAt_14 : decode cX1_throwsAt 14 = .ok (.invokevirtual 36, 3) := by decide +kernel
theorem dX1_throwsAt_17 : decode cX1_throwsAt 17 = .ok (.ifCond .eq 5, 3) := by decide +kernel
theorem dX1_throwsAt_20 : decode cX1_throwsAt 20 = .ok (.iconst 0, 1) := by decide +kernel
theorem dX1_throwsAt_21 : decode cX1_throwsAt 21 = .ok (.ireturn, 1) := by decide +kernel
theorem dX1_throwsAt_22 : decode cX1_throwsAt 22 = .ok (.aload_n 3, 1) := by decide +kernel
theorem dX1_throwsAt_23 : decode cX1_throwsAt 23 = .ok (.aload_n 1, 1) := by decide +kernel
theorem dX1_throwsAt_24 : decode cX1_throwsAt 24 = .ok (.invokevirtual 42, 3) := by decide +kernel
theorem dX1_throwsAt_27 : decode cX1_throwsAt 27 = .ok (.aload_n 0, 1) := by decide +kernel
theorem dX1_throwsAt_28 : decode cX1_throwsAt 28 = .ok (.getfield 12, 3) := by decide +kernel
theorem dX1_throwsAt_31 : decode cX1_throwsAt 31 = .ok (.getfield 48, 3) := by decide +kernel
theorem dX1_throwsAt_34 : decode cX1_throwsAt 34 = .ok (.invokevirtual 51, 3) := by decide +kernel
theorem dX1_throwsAt_37 : decode cX1_throwsAt 37 = .ok (.istore 4, 2) := by decide +kernel
theorem dX1_throwsAt_39 : decode cX1_throwsAt 39 = .ok (.iload 4, 2) := by decide +kernel
theorem dX1_throwsAt_41 : decode cX1_throwsAt 41 = .ok (.ifCond .ne 34, 3) := by decide +kernel
theorem dX1_throwsAt_44 : decode cX1_throwsAt 44 = .ok (.aload_n 0, 1) := by decide +kernel
theorem dX1_throwsAt_45 : decode cX1_throwsAt 45 = .ok (.dup, 1) := by decide +kernel
theorem dX1_throwsAt_46 : decode cX1_throwsAt 46 = .ok (.getfield 26, 3) := by decide +kernel
theorem dX1_throwsAt_49 : decode cX1_throwsAt 49 = .ok (.iconst 1, 1) := by decide +kernel
theorem dX1_throwsAt_50 : decode cX1_throwsAt 50 = .ok (.iadd, 1) := by decide +kernel
theorem dX1_throwsAt_51 : decode cX1_throwsAt 51 = .ok (.putfield 26, 3) := by decide +kernel
theorem dX1_throwsAt_54 : decode cX1_throwsAt 54 = .ok (.aload_n 0, 1) := by decide +kernel
theorem dX1_throwsAt_55 : decode cX1_throwsAt 55 = .ok (.dup, 1) := by decide +kernel
theorem dX1_throwsAt_56 : decode cX1_throwsAt 56 = .ok (.getfield 29, 3) := by decide +kernel
theorem dX1_throwsAt_59 : decode cX1_throwsAt 59 = .ok (.aload_n 3, 1) := by decide +kernel
theorem dX1_throwsAt_60 : decode cX1_throwsAt 60 = .ok (.invokevirtual 55, 3) := by decide +kernel
theorem dX1_throwsAt_63 : decode cX1_throwsAt 63 = .ok (.ifCond .le 7, 3) := by decide +kernel
theorem dX1_throwsAt_66 : decode cX1_throwsAt 66 = .ok (.iconst 1, 1) := by decide +kernel
theorem dX1_throwsAt_67 : decode cX1_throwsAt 67 = .ok (.goto 4, 3) := by decide +kernel
theorem dX1_throwsAt_70 : decode cX1_throwsAt 70 = .ok (.iconst 0, 1) := by decide +kernel
theorem dX1_throwsAt_71 : decode cX1_throwsAt 71 = .ok (.iadd, 1) := by decide +kernel
theorem dX1_throwsAt_72 : decode cX1_throwsAt 72 = .ok (.putfield 29, 3) := by decide +kernel
theorem dX1_throwsAt_75 : decode cX1_throwsAt 75 = .ok (.aload_n 3, 1) := by decide +kernel
theorem dX1_throwsAt_76 : decode cX1_throwsAt 76 = .ok (.aload_n 1, 1) := by decide +kernel
theorem dX1_throwsAt_77 : decode cX1_throwsAt 77 = .ok (.getfield 57, 3) := by decide +kernel
theorem dX1_throwsAt_80 : decode cX1_throwsAt 80 = .ok (.iload 4, 2) := by decide +kernel
theorem dX1_throwsAt_82 : decode cX1_throwsAt 82 = .ok (.invokevirtual 60, 3) := by decide +kernel
theorem dX1_throwsAt_85 : decode cX1_throwsAt 85 = .ok (.iconst 1, 1) := by decide +kernel
theorem dX1_throwsAt_86 : decode cX1_throwsAt 86 = .ok (.ireturn, 1) := by decide +kernel
theorem dX1_clears_0 : decode cX1_clears 0 = .ok (.aload_n 0, 1) := by decide +kernel
theorem dX1_clears_1 : decode cX1_clears 1 = .ok (.getfield 12, 3) := by decide +kernel
theorem dX1_clears_4 : decode cX1_clears 4 = .ok (.iload_n 1, 1) := by decide +kernel
theorem dX1_clears_5 : decode cX1_clears 5 = .ok (.invokevirtual 32, 3) := by decide +kernel
theorem dX1_clears_8 : decode cX1_clears 8 = .ok (.astore_n 2, 1) := by decide +kernel
theorem dX1_clears_9 : decode cX1_clears 9 = .ok (.aload_n 2, 1) := by decide +kernel
theorem dX1_clears_10 : decode cX1_clears 10 = .ok (.ifnonnull 5, 3) := by decide +kernel
theorem dX1_clears_13 : decode cX1_clears 13 = .ok (.iconst 0, 1) := by decide +kernel
theorem dX1_clears_14 : decode cX1_clears 14 = .ok (.ireturn, 1) := by decide +kernel
theorem dX1_clears_15 : decode cX1_clears 15 = .ok (.aload_n 2, 1) := by decide +kernel
theorem dX1_clears_16 : decode cX1_clears 16 = .ok (.iconst 0, 1) := by decide +kernel
theorem dX1_clears_17 : decode cX1_clears 17 = .ok (.putfield 64, 3) := by decide +kernel
theorem dX1_clears_20 : decode cX1_clears 20 = .ok (.iconst 1, 1) := by decide +kernel
theorem dX1_clears_21 : decode cX1_clears 21 = .ok (.ireturn, 1) := by decide +kernel
theorem dX1_answer_0 : decode cX1_answer 0 = .ok (.iload_n 1, 1) := by decide +kernel
theorem dX1_answer_1 : decode cX1_answer 1 = .ok (.iconst 1, 1) := by decide +kernel
theorem dX1_answer_2 : decode cX1_answer 2 = .ok (.if_icmp .ne 8, 3) := by decide +kernel
theorem dX1_answer_5 : decode cX1_answer 5 = .ok (.aload_n 0, 1) := by decide +kernel
theorem dX1_answer_6 : decode cX1_answer 6 = .ok (.getfield 22, 3) := by decide +kernel
theorem dX1_answer_9 : decode cX1_answer 9 = .ok (.ireturn, 1) := by decide +kernel
theorem dX1_answer_10 : decode cX1_answer 10 = .ok (.aload_n 0, 1) := by decide +kernel
theorem dX1_answer_11 : decode cX1_answer 11 = .ok (.getfield 22, 3) := by decide +kernel
theorem dX1_answer_14 : decode cX1_answer 14 = .ok (.bipush (-9), 2) := by decide +kernel
theorem dX1_answer_16 : decode cX1_answer 16 = .ok (.if_icmp .eq 11, 3) := by decide +kernel
theorem dX1_answer_19 : decode cX1_answer 19 = .ok (.bipush (-100), 2) := by decide +kernel
theorem dX1_answer_21 : decode cX1_answer 21 = .ok (.aload_n 0, 1) := by decide +kernel
theorem dX1_answer_22 : decode cX1_answer 22 = .ok (.getfield 22, 3) := by decide +kernel
theorem dX1_answer_25 : decode cX1_answer 25 = .ok (.isub, 1) := by decide +kernel
theorem dX1_answer_26 : decode cX1_answer 26 = .ok (.ireturn, 1) := by decide +kernel
theorem dX1_answer_27 : decode cX1_answer 27 = .ok (.iload_n 1, 1) := by decide +kernel
theorem dX1_answer_28 : decode cX1_answer 28 = .ok (.tableswitch 62 0 4 #[36, 62, 44, 49, 54], 36) := by decide +kernel
theorem dX1_answer_64 : decode cX1_answer 64 = .ok (.aload_n 0, 1) := by decide +kernel
theorem dX1_answer_65 : decode cX1_answer 65 = .ok (.getfield 12, 3) := by decide +kernel
theorem dX1_answer_68 : decode cX1_answer 68 = .ok (.invokevirtual 67, 3) := by decide +kernel
theorem dX1_answer_71 : decode cX1_answer 71 = .ok (.ireturn, 1) := by decide +kernel
theorem dX1_answer_72 : decode cX1_answer 72 = .ok (.aload_n 0, 1) := by decide +kernel
theorem dX1_answer_73 : decode cX1_answer 73 = .ok (.getfield 26, 3) := by decide +kernel
theorem dX1_answer_76 : decode cX1_answer 76 = .ok (.ireturn, 1) := by decide +kernel
theorem dX1_answer_77 : decode cX1_answer 77 = .ok (.aload_n 0, 1) := by decide +kernel
theorem dX1_answer_78 : decode cX1_answer 78 = .ok (.getfield 29, 3) := by decide +kernel
theorem dX1_answer_81 : decode cX1_answer 81 = .ok (.ireturn, 1) := by decide +kernel
theorem dX1_answer_82 : decode cX1_answer 82 = .ok (.aload_n 0, 1) := by decide +kernel
theorem dX1_answer_83 : decode cX1_answer 83 = .ok (.getfield 12, 3) := by decide +kernel
theorem dX1_answer_86 : decode cX1_answer 86 = .ok (.getfield 48, 3) := by decide +kernel
theorem dX1_answer_89 : decode cX1_answer 89 = .ok (.ireturn, 1) := by decide +kernel
theorem dX1_answer_90 : decode cX1_answer 90 = .ok (.aload_n 0, 1) := by decide +kernel
theorem dX1_answer_91 : decode cX1_answer 91 = .ok (.getfield 12, 3) := by decide +kernel
theorem dX1_answer_94 : decode cX1_answer 94 = .ok (.iload_n 1, 1) := by decide +kernel
theorem dX1_answer_95 : decode cX1_answer 95 = .ok (.bipush 10, 2) := by decide +kernel
theorem dX1_answer_97 : decode cX1_answer 97 = .ok (.isub, 1) := by decide +kernel
theorem dX1_answer_98 : decode cX1_answer 98 = .ok (.invokevirtual 70, 3) := by decide +kernel
theorem dX1_answer_101 : decode cX1_answer 101 = .ok (.ireturn, 1) := by decide +kernel
theorem dX2_init_0 : decode cX2_init 0 = .ok (.aload_n 0, 1) := by decide +kernel
theorem dX2_init_1 : decode cX2_init 1 = .ok (.invokespecial 3, 3) := by decide +kernel
theorem dX2_init_4 : decode cX2_init 4 = .ok (.aload_n 0, 1) := by decide +kernel
theorem dX2_init_5 : decode cX2_init 5 = .ok (.bipush 8, 2) := by decide +kernel
theorem dX2_init_7 : decode cX2_init 7 = .ok (.newarray .int, 2) := by decide +kernel
theorem dX2_init_9 : decode cX2_init 9 = .ok (.putfield 9, 3) := by decide +kernel
theorem dX2_init_12 : decode cX2_init 12 = .ok (.aload_n 0, 1) := by decide +kernel
theorem dX2_init_13 : decode cX2_init 13 = .ok (.bipush 8, 2) := by decide +kernel
theorem dX2_init_15 : decode cX2_init 15 = .ok (.newarray .int, 2) := by decide +kernel
theorem dX2_init_17 : decode cX2_init 17 = .ok (.putfield 15, 3) := by decide +kernel
theorem dX2_init_20 : decode cX2_init 20 = .ok (.return_, 1) := by decide +kernel
theorem dX2_stand_0 : decode cX2_stand 0 = .ok (.aload_n 0, 1) := by decide +kernel
theorem dX2_stand_1 : decode cX2_stand 1 = .ok (.iload_n 1, 1) := by decide +kernel
theorem dX2_stand_2 : decode cX2_stand 2 = .ok (.putfield 18, 3) := by decide +kernel
theorem dX2_stand_5 : decode cX2_stand 5 = .ok (.aload_n 0, 1) := by decide +kernel
theorem dX2_stand_6 : decode cX2_stand 6 = .ok (.iload_n 2, 1) := by decide +kernel
theorem dX2_stand_7 : decode cX2_stand 7 = .ok (.putfield 22, 3) := by decide +kernel
theorem dX2_stand_10 : decode cX2_stand 10 = .ok (.aload_n 0, 1) := by decide +kernel
theorem dX2_stand_11 : decode cX2_stand 11 = .ok (.iconst 0, 1) := by decide +kernel
theorem dX2_stand_12 : decode cX2_stand 12 = .ok (.putfield 25, 3) := by decide +kernel
theorem dX2_stand_15 : decode cX2_stand 15 = .ok (.return_, 1) := by decide +kernel
theorem dX2_becomeLike_0 : decode cX2_becomeLike 0 = .ok (.aload_n 0, 1) := by decide +kernel
theorem dX2_becomeLike_1 : decode cX2_becomeLike 1 = .ok (.aload_n 1, 1) := by decide +kernel
theorem dX2_becomeLike_2 : decode cX2_becomeLike 2 = .ok (.getfield 18, 3) := by decide +kernel
theorem dX2_becomeLike_5 : decode cX2_becomeLike 5 = .ok (.aload_n 1, 1) := by decide +kernel
theorem dX2_becomeLike_6 : decode cX2_becomeLike 6 = .ok (.getfield 22, 3) := by decide +kernel
theorem dX2_becomeLike_9 : decode cX2_becomeLike 9 = .ok (.invokevirtual 28, 3) := by decide +kernel
theorem dX2_becomeLike_12 : decode cX2_becomeLike 12 = .ok (.iconst 0, 1) := by decide +kernel
theorem dX2_becomeLike_13 : decode cX2_becomeLike 13 = .ok (.istore_n 2, 1) := by decide +kernel
theorem dX2_becomeLike_14 : decode cX2_becomeLike 14 = .ok (.iload_n 2, 1) := by decide +kernel
theorem dX2_becomeLike_15 : decode cX2_becomeLike 15 = .ok (.aload_n 1, 1) := by decide +kernel
theorem dX2_becomeLike_16 : decode cX2_becomeLike 16 = .ok (.getfield 25, 3) := by decide +kernel
theorem dX2_becomeLike_19 : decode cX2_becomeLike 19 = .ok (.if_icmp .ge 23, 3) := by decide +kernel
theorem dX2_becomeLike_22 : decode cX2_becomeLike 22 = .ok (.aload_n 0, 1) := by decide +kernel
theorem dX2_becomeLike_23 : decode cX2_becomeLike 23 = .ok (.aload_n 1, 1) := by decide +kernel
theorem dX2_becomeLike_24 : decode cX2_becomeLike 24 = .ok (.iload_n 2, 1) := by decide +kernel
theorem dX2_becomeLike_25 : decode cX2_becomeLike 25 = .ok (.invokevirtual 32, 3) := by decide +kernel
theorem dX2_becomeLike_28 : decode cX2_becomeLike 28 = .ok (.aload_n 1, 1) := by decide +kernel
theorem dX2_becomeLike_29 : decode cX2_becomeLike 29 = .ok (.iload_n 2, 1) := by decide +kernel
theorem dX2_becomeLike_30 : decode cX2_becomeLike 30 = .ok (.invokevirtual 36, 3) := by decide +kernel
theorem dX2_becomeLike_33 : decode cX2_becomeLike 33 = .ok (.invokevirtual 39, 3) := by decide +kernel
theorem dX2_becomeLike_36 : decode cX2_becomeLike 36 = .ok (.iinc 2 1, 3) := by decide +kernel
theorem dX2_becomeLike_39 : decode cX2_becomeLike 39 = .ok (.goto (-25), 3) := by decide +kernel
theorem dX2_becomeLike_42 : decode cX2_becomeLike 42 = .ok (.return_, 1) := by decide +kernel
theorem dX2_nearness_0 : decode cX2_nearness 0 = .ok (.iload_n 1, 1) := by decide +kernel
theorem dX2_nearness_1 : decode cX2_nearness 1 = .ok (.aload_n 0, 1) := by decide +kernel
theorem dX2_nearness_2 : decode cX2_nearness 2 = .ok (.getfield 18, 3) := by decide +kernel
theorem dX2_nearness_5 : decode cX2_nearness 5 = .ok (.aload_n 0, 1) := by decide +kernel
theorem dX2_nearness_6 : decode cX2_nearness 6 = .ok (.getfield 22, 3) := by decide +kernel
theorem dX2_nearness_9 : decode cX2_nearness 9 = .ok (.iload_n 2, 1) := by decide +kernel
theorem dX2_nearness_10 : decode cX2_nearness 10 = .ok (.invokestatic 42, 3) := by decide +kernel
theorem dX2_nearness_13 : decode cX2_nearness 13 = .ok (.ireturn, 1) := by decide +kernel
theorem dX2_isFull_0 : decode cX2_isFull 0 = .ok (.aload_n 0, 1) := by decide +kernel
theorem dX2_isFull_1 : decode cX2_isFull 1 = .ok (.getfield 25, 3) := by decide +kernel
theorem dX2_isFull_4 : decode cX2_isFull 4 = .ok (.bipush 8, 2) := by decide +kernel
theorem dX2_isFull_6 : decode cX2_isFull 6 = .ok (.if_icmp .lt 7, 3) := by decide +kernel
theorem dX2_isFull_9 : decode cX2_isFull 9 = .ok (.iconst 1, 1) := by decide +kernel
theorem dX2_isFull_10 : decode cX2_isFull 10 = .ok (.goto 4, 3) := by decide +kernel
theorem dX2_isFull_13 : decode cX2_isFull 13 = .ok (.iconst 0, 1) := by decide +kernel
theorem dX2_isFull_14 : decode cX2_isFull 14 = .ok (.ireturn, 1) := by decide +kernel
theorem dX2_throwerAt_0 : decode cX2_throwerAt 0 = .ok (.iload_n 1, 1) := by decide +kernel
theorem dX2_throwerAt_1 : decode cX2_throwerAt 1 = .ok (.ifCond .lt 20, 3) := by decide +kernel
theorem dX2_throwerAt_4 : decode cX2_throwerAt 4 = .ok (.iload_n 1, 1) := by decide +kernel
theorem dX2_throwerAt_5 : decode cX2_throwerAt 5 = .ok (.aload_n 0, 1) := by decide +kernel
theorem dX2_throwerAt_6 : decode cX2_throwerAt 6 = .ok (.getfield 25, 3) := by decide +kernel
theorem dX2_throwerAt_9 : decode cX2_throwerAt 9 = .ok (.if_icmp .ge 12, 3) := by decide +kernel
theorem dX2_throwerAt_12 : decode cX2_throwerAt 12 = .ok (.iload_n 1, 1) := by decide +kernel
theorem dX2_throwerAt_13 : decode cX2_throwerAt 13 = .ok (.aload_n 0, 1) := by decide +kernel
theorem dX2_throwerAt_14 : decode cX2_throwerAt 14 = .ok (.getfield 9, 3) := by decide +kernel
theorem dX2_throwerAt_17 : decode cX2_throwerAt 17 = .ok (.arraylength, 1) := by decide +kernel
theorem dX2_throwerAt_18 : decode cX2_throwerAt 18 = .ok (.if_icmp .lt 8, 3) := by decide +kernel
theorem dX2_throwerAt_21 : decode cX2_throwerAt 21 = .ok (.bipush (-9), 2) := by decide +kernel
theorem dX2_throwerAt_23 : decode cX2_throwerAt 23 = .ok (.goto 9, 3) := by decide +kernel
theorem dX2_throwerAt_26 : decode cX2_throwerAt 26 = .ok (.aload_n 0, 1) := by decide +kernel
theorem dX2_throwerAt_27 : decode cX2_throwerAt 27 = .ok (.getfield 9, 3) := by decide +kernel
theorem dX2_throwerAt_30 : decode cX2_throwerAt 30 = .ok (.iload_n 1, 1) := by decide +kernel
theorem dX2_throwerAt_31 : decode cX2_throwerAt 31 = .ok (.iaload, 1) := by decide +kernel
theorem dX2_throwerAt_32 : decode cX2_throwerAt 32 = .ok (.ireturn, 1) := by decide +kernel
theorem dX2_nearAt_0 : decode cX2_nearAt 0 = .ok (.iload_n 1, 1) := by decide +kernel
theorem dX2_nearAt_1 : decode cX2_nearAt 1 = .ok (.ifCond .lt 20, 3) := by decide +kernel
theorem dX2_nearAt_4 : decode cX2_nearAt 4 = .ok (.iload_n 1, 1) := by decide +kernel
theorem dX2_nearAt_5 : decode cX2_nearAt 5 = .ok (.aload_n 0, 1) := by decide +kernel
theorem dX2_nearAt_6 : decode cX2_nearAt 6 = .ok (.getfield 25, 3) := by decide +kernel
theorem dX2_nearAt_9 : decode cX2_nearAt 9 = .ok (.if_icmp .ge 12, 3) := by decide +kernel
theorem dX2_nearAt_12 : decode cX2_nearAt 12 = .ok (.iload_n 1, 1) := by decide +kernel
theorem dX2_nearAt_13 : decode cX2_nearAt 13 = .ok (.aload_n 0, 1) := by decide +kernel
theorem dX2_nearAt_14 : decode cX2_nearAt 14 = .ok (.getfield 15, 3) := by decide +kernel
theorem dX2_nearAt_17 : decode cX2_nearAt 17 = .ok (.arraylength, 1) := by decide +kernel
theorem dX2_nearAt_18 : decode cX2_nearAt 18 = .ok (.if_icmp .lt 8, 3) := by decide +kernel
theorem dX2_nearAt_21 : decode cX2_nearAt 21 = .ok (.bipush (-9), 2) := by decide +kernel
theorem dX2_nearAt_23 : decode cX2_nearAt 23 = .ok (.goto 9, 3) := by decide +kernel
theorem dX2_nearAt_26 : decode cX2_nearAt 26 = .ok (.aload_n 0, 1) := by decide +kernel
theorem dX2_nearAt_27 : decode cX2_nearAt 27 = .ok (.getfield 15, 3) := by decide +kernel
theorem dX2_nearAt_30 : decode cX2_nearAt 30 = .ok (.iload_n 1, 1) := by decide +kernel
theorem dX2_nearAt_31 : decode cX2_nearAt 31 = .ok (.iaload, 1) := by decide +kernel
theorem dX2_nearAt_32 : decode cX2_nearAt 32 = .ok (.ireturn, 1) := by decide +kernel
theorem dX2_lay_0 : decode cX2_lay 0 = .ok (.aload_n 0, 1) := by decide +kernel
theorem dX2_lay_1 : decode cX2_lay 1 = .ok (.getfield 25, 3) := by decide +kernel
theorem dX2_lay_4 : decode cX2_lay 4 = .ok (.ifCond .lt 57, 3) := by decide +kernel
theorem dX2_lay_7 : decode cX2_lay 7 = .ok (.aload_n 0, 1) := by decide +kernel
theorem dX2_lay_8 : decode cX2_lay 8 = .ok (.getfield 25, 3) := by decide +kernel
theorem dX2_lay_11 : decode cX2_lay 11 = .ok (.aload_n 0, 1) := by decide +kernel
theorem dX2_lay_12 : decode cX2_lay 12 = .ok (.getfield 9, 3) := by decide +kernel
theorem dX2_lay_15 : decode cX2_lay 15 = .ok (.arraylength, 1) := by decide +kernel
theorem dX2_lay_16 : decode cX2_lay 16 = .ok (.if_icmp .ge 45, 3) := by decide +kernel
theorem dX2_lay_19 : decode cX2_lay 19 = .ok (.aload_n 0, 1) := by decide +kernel
theorem dX2_lay_20 : decode cX2_lay 20 = .ok (.getfield 25, 3) := by decide +kernel
theorem dX2_lay_23 : decode cX2_lay 23 = .ok (.aload_n 0, 1) := by decide +kernel
theorem dX2_lay_24 : decode cX2_lay 24 = .ok (.getfield 15, 3) := by decide +kernel
theorem dX2_lay_27 : decode cX2_lay 27 = .ok (.arraylength, 1) := by decide +kernel
theorem dX2_lay_28 : decode cX2_lay 28 = .ok (.if_icmp .ge 33, 3) := by decide +kernel
theorem dX2_lay_31 : decode cX2_lay 31 = .ok (.aload_n 0, 1) := by decide +kernel
theorem dX2_lay_32 : decode cX2_lay 32 = .ok (.getfield 9, 3) := by decide +kernel
theorem dX2_lay_35 : decode cX2_lay 35 = .ok (.aload_n 0, 1) := by decide +kernel
theorem dX2_lay_36 : decode cX2_lay 36 = .ok (.getfield 25, 3) := by decide +kernel
theorem dX2_lay_39 : decode cX2_lay 39 = .ok (.iload_n 1, 1) := by decide +kernel
theorem dX2_lay_40 : decode cX2_lay 40 = .ok (.iastore, 1) := by decide +kernel
theorem dX2_lay_41 : decode cX2_lay 41 = .ok (.aload_n 0, 1) := by decide +kernel
theorem dX2_lay_42 : decode cX2_lay 42 = .ok (.getfield 15, 3) := by decide +kernel
theorem dX2_lay_45 : decode cX2_lay 45 = .ok (.aload_n 0, 1) := by decide +kernel
theorem dX2_lay_46 : decode cX2_lay 46 = .ok (.getfield 25, 3) := by decide +kernel
theorem dX2_lay_49 : decode cX2_lay 49 = .ok (.iload_n 2, 1) := by decide +kernel
theorem dX2_lay_50 : decode cX2_lay 50 = .ok (.iastore, 1) := by decide +kernel
theorem dX2_lay_51 : decode cX2_lay 51 = .ok (.aload_n 0, 1) := by decide +kernel
theorem dX2_lay_52 : decode cX2_lay 52 = .ok (.dup, 1) := by decide +kernel
theorem dX2_lay_53 : decode cX2_lay 53 = .ok (.getfield 25, 3) := by decide +kernel
theorem dX2_lay_56 : decode cX2_lay 56 = .ok (.iconst 1, 1) := by decide +kernel
theorem dX2_lay_57 : decode cX2_lay 57 = .ok (.iadd, 1) := by decide +kernel
theorem dX2_lay_58 : decode cX2_lay 58 = .ok (.putfield 25, 3) := by decide +kernel
theorem dX2_lay_61 : decode cX2_lay 61 = .ok (.return_, 1) := by decide +kernel
theorem dX2_takeLast_0 : decode cX2_takeLast 0 = .ok (.aload_n 0, 1) := by decide +kernel
theorem dX2_takeLast_1 : decode cX2_takeLast 1 = .ok (.aload_n 0, 1) := by decide +kernel
theorem dX2_takeLast_2 : decode cX2_takeLast 2 = .ok (.getfield 25, 3) := by decide +kernel
theorem dX2_takeLast_5 : decode cX2_takeLast 5 = .ok (.iconst 1, 1) := by decide +kernel
theorem dX2_takeLast_6 : decode cX2_takeLast 6 = .ok (.isub, 1) := by decide +kernel
theorem dX2_takeLast_7 : decode cX2_takeLast 7 = .ok (.invokevirtual 32, 3) := by decide +kernel
theorem dX2_takeLast_10 : decode cX2_takeLast 10 = .ok (.istore_n 1, 1) := by decide +kernel
theorem dX2_takeLast_11 : decode cX2_takeLast 11 = .ok (.aload_n 0, 1) := by decide +kernel
theorem dX2_takeLast_12 : decode cX2_takeLast 12 = .ok (.getfield 25, 3) := by decide +kernel
theorem dX2_takeLast_15 : decode cX2_takeLast 15 = .ok (.ifCond .le 13, 3) := by decide +kernel
theorem dX2_takeLast_18 : decode cX2_takeLast 18 = .ok (.aload_n 0, 1) := by decide +kernel
theorem dX2_takeLast_19 : decode cX2_takeLast 19 = .ok (.dup, 1) := by decide +kernel
theorem dX2_takeLast_20 : decode cX2_takeLast 20 = .ok (.getfield 25, 3) := by decide +kernel
theorem dX2_takeLast_23 : decode cX2_takeLast 23 = .ok (.iconst 1, 1) := by decide +kernel
theorem dX2_takeLast_24 : decode cX2_takeLast 24 = .ok (.isub, 1) := by decide +kernel
theorem dX2_takeLast_25 : decode cX2_takeLast 25 = .ok (.putfield 25, 3) := by decide +kernel
theorem dX2_takeLast_28 : decode cX2_takeLast 28 = .ok (.iload_n 1, 1) := by decide +kernel
theorem dX2_takeLast_29 : decode cX2_takeLast 29 = .ok (.ireturn, 1) := by decide +kernel
theorem dX2_holdingRing_0 : decode cX2_holdingRing 0 = .ok (.bipush (-9), 2) := by decide +kernel
theorem dX2_holdingRing_2 : decode cX2_holdingRing 2 = .ok (.istore_n 1, 1) := by decide +kernel
theorem dX2_holdingRing_3 : decode cX2_holdingRing 3 = .ok (.iconst 0, 1) := by decide +kernel
theorem dX2_holdingRing_4 : decode cX2_holdingRing 4 = .ok (.istore_n 2, 1) := by decide +kernel
theorem dX2_holdingRing_5 : decode cX2_holdingRing 5 = .ok (.iload_n 2, 1) := by decide +kernel
theorem dX2_holdingRing_6 : decode cX2_holdingRing 6 = .ok (.aload_n 0, 1) := by decide +kernel
theorem dX2_holdingRing_7 : decode cX2_holdingRing 7 = .ok (.getfield 25, 3) := by decide +kernel
theorem dX2_holdingRing_10 : decode cX2_holdingRing 10 = .ok (.if_icmp .ge 36, 3) := by decide +kernel
theorem dX2_holdingRing_13 : decode cX2_holdingRing 13 = .ok (.aload_n 0, 1) := by decide +kernel
theorem dX2_holdingRing_14 : decode cX2_holdingRing 14 = .ok (.iload_n 2, 1) := by decide +kernel
theorem dX2_holdingRing_15 : decode cX2_holdingRing 15 = .ok (.invokevirtual 36, 3) := by decide +kernel
theorem dX2_holdingRing_18 : decode cX2_holdingRing 18 = .ok (.istore_n 3, 1) := by decide +kernel
theorem dX2_holdingRing_19 : decode cX2_holdingRing 19 = .ok (.iload_n 1, 1) := by decide +kernel
theorem dX2_holdingRing_20 : decode cX2_holdingRing 20 = .ok (.bipush (-9), 2) := by decide +kernel
theorem dX2_holdingRing_22 : decode cX2_holdingRing 22 = .ok (.if_icmp .eq 16, 3) := by decide +kernel
theorem dX2_holdingRing_25 : decode cX2_holdingRing 25 = .ok (.iload_n 3, 1) := by decide +kernel
theorem dX2_holdingRing_26 : decode cX2_holdingRing 26 = .ok (.ifCond .eq 12, 3) := by decide +kernel
theorem dX2_holdingRing_29 : decode cX2_holdingRing 29 = .ok (.iload_n 3, 1) := by decide +kernel
theorem dX2_holdingRing_30 : decode cX2_holdingRing 30 = .ok (.aload_n 0, 1) := by decide +kernel
theorem dX2_holdingRing_31 : decode cX2_holdingRing 31 = .ok (.iload_n 1, 1) := by decide +kernel
theorem dX2_holdingRing_32 : decode cX2_holdingRing 32 = .ok (.invokevirtual 36, 3) := by decide +kernel
theorem dX2_holdingRing_35 : decode cX2_holdingRing 35 = .ok (.if_icmp .ge 5, 3) := by decide +kernel
theorem dX2_holdingRing_38 : decode cX2_holdingRing 38 = .ok (.iload_n 2, 1) := by decide +kernel
theorem dX2_holdingRing_39 : decode cX2_holdingRing 39 = .ok (.istore_n 1, 1) := by decide +kernel
theorem dX2_holdingRing_40 : decode cX2_holdingRing 40 = .ok (.iinc 2 1, 3) := by decide +kernel
theorem dX2_holdingRing_43 : decode cX2_holdingRing 43 = .ok (.goto (-38), 3) := by decide +kernel
theorem dX2_holdingRing_46 : decode cX2_holdingRing 46 = .ok (.iload_n 1, 1) := by decide +kernel
theorem dX2_holdingRing_47 : decode cX2_holdingRing 47 = .ok (.ireturn, 1) := by decide +kernel
theorem dX2_holder_0 : decode cX2_holder 0 = .ok (.aload_n 0, 1) := by decide +kernel
theorem dX2_holder_1 : decode cX2_holder 1 = .ok (.aload_n 0, 1) := by decide +kernel
theorem dX2_holder_2 : decode cX2_holder 2 = .ok (.invokevirtual 46, 3) := by decide +kernel
theorem dX2_holder_5 : decode cX2_holder 5 = .ok (.invokevirtual 32, 3) := by decide +kernel
theorem dX2_holder_8 : decode cX2_holder 8 = .ok (.ireturn, 1) := by decide +kernel
theorem dX2_holdersNearness_0 : decode cX2_holdersNearness 0 = .ok (.aload_n 0, 1) := by decide +kernel
theorem dX2_holdersNearness_1 : decode cX2_holdersNearness 1 = .ok (.aload_n 0, 1) := by decide +kernel
theorem dX2_holdersNearness_2 : decode cX2_holdersNearness 2 = .ok (.invokevirtual 46, 3) := by decide +kernel
theorem dX2_holdersNearness_5 : decode cX2_holdersNearness 5 = .ok (.invokevirtual 36, 3) := by decide +kernel
theorem dX2_holdersNearness_8 : decode cX2_holdersNearness 8 = .ok (.ireturn, 1) := by decide +kernel
theorem dX2_ringers_0 : decode cX2_ringers 0 = .ok (.iconst 0, 1) := by decide +kernel
theorem dX2_ringers_1 : decode cX2_ringers 1 = .ok (.istore_n 1, 1) := by decide +kernel
theorem dX2_ringers_2 : decode cX2_ringers 2 = .ok (.iconst 0, 1) := by decide +kernel
theorem dX2_ringers_3 : decode cX2_ringers 3 = .ok (.istore_n 2, 1) := by decide +kernel
theorem dX2_ringers_4 : decode cX2_ringers 4 = .ok (.iload_n 2, 1) := by decide +kernel
theorem dX2_ringers_5 : decode cX2_ringers 5 = .ok (.aload_n 0, 1) := by decide +kernel
theorem dX2_ringers_6 : decode cX2_ringers 6 = .ok (.getfield 25, 3) := by decide +kernel
theorem dX2_ringers_9 : decode cX2_ringers 9 = .ok (.if_icmp .ge 20, 3) := by decide +kernel
theorem dX2_ringers_12 : decode cX2_ringers 12 = .ok (.aload_n 0, 1) := by decide +kernel
theorem dX2_ringers_13 : decode cX2_ringers 13 = .ok (.iload_n 2, 1) := by decide +kernel
theorem dX2_ringers_14 : decode cX2_ringers 14 = .ok (.invokevirtual 36, 3) := by decide +kernel
theorem dX2_ringers_17 : decode cX2_ringers 17 = .ok (.ifCond .ne 6, 3) := by decide +kernel
theorem dX2_ringers_20 : decode cX2_ringers 20 = .ok (.iinc 1 1, 3) := by decide +kernel
theorem dX2_ringers_23 : decode cX2_ringers 23 = .ok (.iinc 2 1, 3) := by decide +kernel
theorem dX2_ringers_26 : decode cX2_ringers 26 = .ok (.goto (-22), 3) := by decide +kernel
theorem dX2_ringers_29 : decode cX2_ringers 29 = .ok (.iload_n 1, 1) := by decide +kernel
theorem dX2_ringers_30 : decode cX2_ringers 30 = .ok (.ireturn, 1) := by decide +kernel
theorem dX2_ringsOf_0 : decode cX2_ringsOf 0 = .ok (.iconst 0, 1) := by decide +kernel
theorem dX2_ringsOf_1 : decode cX2_ringsOf 1 = .ok (.istore_n 2, 1) := by decide +kernel
theorem dX2_ringsOf_2 : decode cX2_ringsOf 2 = .ok (.iconst 0, 1) := by decide +kernel
theorem dX2_ringsOf_3 : decode cX2_ringsOf 3 = .ok (.istore_n 3, 1) := by decide +kernel
theorem dX2_ringsOf_4 : decode cX2_ringsOf 4 = .ok (.iload_n 3, 1) := by decide +kernel
theorem dX2_ringsOf_5 : decode cX2_ringsOf 5 = .ok (.aload_n 0, 1) := by decide +kernel
theorem dX2_ringsOf_6 : decode cX2_ringsOf 6 = .ok (.getfield 25, 3) := by decide +kernel
theorem dX2_ringsOf_9 : decode cX2_ringsOf 9 = .ok (.if_icmp .ge 21, 3) := by decide +kernel
theorem dX2_ringsOf_12 : decode cX2_ringsOf 12 = .ok (.aload_n 0, 1) := by decide +kernel
theorem dX2_ringsOf_13 : decode cX2_ringsOf 13 = .ok (.iload_n 3, 1) := by decide +kernel
theorem dX2_ringsOf_14 : decode cX2_ringsOf 14 = .ok (.invokevirtual 32, 3) := by decide +kernel
theorem dX2_ringsOf_17 : decode cX2_ringsOf 17 = .ok (.iload_n 1, 1) := by decide +kernel
theorem dX2_ringsOf_18 : decode cX2_ringsOf 18 = .ok (.if_icmp .ne 6, 3) := by decide +kernel
theorem dX2_ringsOf_21 : decode cX2_ringsOf 21 = .ok (.iinc 2 1, 3) := by decide +kernel
theorem dX2_ringsOf_24 : decode cX2_ringsOf 24 = .ok (.iinc 3 1, 3) := by decide +kernel
theorem dX2_ringsOf_27 : decode cX2_ringsOf 27 = .ok (.goto (-23), 3) := by decide +kernel
theorem dX2_ringsOf_30 : decode cX2_ringsOf 30 = .ok (.iload_n 2, 1) := by decide +kernel
theorem dX2_ringsOf_31 : decode cX2_ringsOf 31 = .ok (.ireturn, 1) := by decide +kernel
theorem dX2_isHadBy_0 : decode cX2_isHadBy 0 = .ok (.aload_n 0, 1) := by decide +kernel
theorem dX2_isHadBy_1 : decode cX2_isHadBy 1 = .ok (.invokevirtual 50, 3) := by decide +kernel
theorem dX2_isHadBy_4 : decode cX2_isHadBy 4 = .ok (.ifCond .eq 5, 3) := by decide +kernel
theorem dX2_isHadBy_7 : decode cX2_isHadBy 7 = .ok (.iconst 0, 1) := by decide +kernel
theorem dX2_isHadBy_8 : decode cX2_isHadBy 8 = .ok (.ireturn, 1) := by decide +kernel
theorem dX2_isHadBy_9 : decode cX2_isHadBy 9 = .ok (.aload_n 0, 1) := by decide +kernel
theorem dX2_isHadBy_10 : decode cX2_isHadBy 10 = .ok (.iload_n 1, 1) := by decide +kernel
theorem dX2_isHadBy_11 : decode cX2_isHadBy 11 = .ok (.iload_n 2, 1) := by decide +kernel
theorem dX2_isHadBy_12 : decode cX2_isHadBy 12 = .ok (.invokevirtual 39, 3) := by decide +kernel
theorem dX2_isHadBy_15 : decode cX2_isHadBy 15 = .ok (.aload_n 0, 1) := by decide +kernel
theorem dX2_isHadBy_16 : decode cX2_isHadBy 16 = .ok (.invokevirtual 54, 3) := by decide +kernel
theorem dX2_isHadBy_19 : decode cX2_isHadBy 19 = .ok (.iload_n 1, 1) := by decide +kernel
theorem dX2_isHadBy_20 : decode cX2_isHadBy 20 = .ok (.if_icmp .ne 7, 3) := by decide +kernel
theorem dX2_isHadBy_23 : decode cX2_isHadBy 23 = .ok (.iconst 1, 1) := by decide +kernel
theorem dX2_isHadBy_24 : decode cX2_isHadBy 24 = .ok (.goto 4, 3) := by decide +kernel
theorem dX2_isHadBy_27 : decode cX2_isHadBy 27 = .ok (.iconst 0, 1) := by decide +kernel
theorem dX2_isHadBy_28 : decode cX2_isHadBy 28 = .ok (.istore_n 3, 1) := by decide +kernel
theorem dX2_isHadBy_29 : decode cX2_isHadBy 29 = .ok (.aload_n 0, 1) := by decide +kernel
theorem dX2_isHadBy_30 : decode cX2_isHadBy 30 = .ok (.invokevirtual 57, 3) := by decide +kernel
theorem dX2_isHadBy_33 : decode cX2_isHadBy 33 = .ok (.pop, 1) := by decide +kernel
theorem dX2_isHadBy_34 : decode cX2_isHadBy 34 = .ok (.iload_n 3, 1) := by decide +kernel
theorem dX2_isHadBy_35 : decode cX2_isHadBy 35 = .ok (.ireturn, 1) := by decide +kernel
theorem dX3_init_0 : decode cX3_init 0 = .ok (.aload_n 0, 1) := by decide +kernel
theorem dX3_init_1 : decode cX3_init 1 = .ok (.iload_n 1, 1) := by decide +kernel
theorem dX3_init_2 : decode cX3_init 2 = .ok (.iload_n 2, 1) := by decide +kernel
theorem dX3_init_3 : decode cX3_init 3 = .ok (.invokespecial 3, 3) := by decide +kernel
theorem dX3_init_6 : decode cX3_init 6 = .ok (.return_, 1) := by decide +kernel
theorem dX3_kind_0 : decode cX3_kind 0 = .ok (.iconst 1, 1) := by decide +kernel
theorem dX3_kind_1 : decode cX3_kind 1 = .ok (.ireturn, 1) := by decide +kernel
theorem dX3_telling_0 : decode cX3_telling 0 = .ok (.aload_n 1, 1) := by decide +kernel
theorem dX3_telling_1 : decode cX3_telling 1 = .ok (.iconst 2, 1) := by decide +kernel
theorem dX3_telling_2 : decode cX3_telling 2 = .ok (.invokevirtual 9, 3) := by decide +kernel
theorem dX3_telling_5 : decode cX3_telling 5 = .ok (.aload_n 0, 1) := by decide +kernel
theorem dX3_telling_6 : decode cX3_telling 6 = .ok (.aload_n 1, 1) := by decide +kernel
theorem dX3_telling_7 : decode cX3_telling 7 = .ok (.invokespecial 15, 3) := by decide +kernel
theorem dX3_telling_10 : decode cX3_telling 10 = .ok (.bipush 100, 2) := by decide +kernel
theorem dX3_telling_12 : decode cX3_telling 12 = .ok (.iadd, 1) := by decide +kernel
theorem dX3_telling_13 : decode cX3_telling 13 = .ok (.ireturn, 1) := by decide +kernel
theorem dX4_init_0 : decode cX4_init 0 = .ok (.aload_n 0, 1) := by decide +kernel
theorem dX4_init_1 : decode cX4_init 1 = .ok (.invokespecial 3, 3) := by decide +kernel
theorem dX4_init_4 : decode cX4_init 4 = .ok (.aload_n 0, 1) := by decide +kernel
theorem dX4_init_5 : decode cX4_init 5 = .ok (.bipush 20, 2) := by decide +kernel
theorem dX4_init_7 : decode cX4_init 7 = .ok (.newarray .int, 2) := by decide +kernel
theorem dX4_init_9 : decode cX4_init 9 = .ok (.putfield 9, 3) := by decide +kernel
theorem dX4_init_12 : decode cX4_init 12 = .ok (.aload_n 0, 1) := by decide +kernel
theorem dX4_init_13 : decode cX4_init 13 = .ok (.iconst 5, 1) := by decide +kernel
theorem dX4_init_14 : decode cX4_init 14 = .ok (.newarray .int, 2) := by decide +kernel
theorem dX4_init_16 : decode cX4_init 16 = .ok (.putfield 15, 3) := by decide +kernel
theorem dX4_init_19 : decode cX4_init 19 = .ok (.aload_n 0, 1) := by decide +kernel
theorem dX4_init_20 : decode cX4_init 20 = .ok (.iconst 5, 1) := by decide +kernel
theorem dX4_init_21 : decode cX4_init 21 = .ok (.newarray .int, 2) := by decide +kernel
theorem dX4_init_23 : decode cX4_init 23 = .ok (.putfield 18, 3) := by decide +kernel
theorem dX4_init_26 : decode cX4_init 26 = .ok (.aload_n 0, 1) := by decide +kernel
theorem dX4_init_27 : decode cX4_init 27 = .ok (.iconst 5, 1) := by decide +kernel
theorem dX4_init_28 : decode cX4_init 28 = .ok (.newarray .int, 2) := by decide +kernel
theorem dX4_init_30 : decode cX4_init 30 = .ok (.putfield 21, 3) := by decide +kernel
theorem dX4_init_33 : decode cX4_init 33 = .ok (.aload_n 0, 1) := by decide +kernel
theorem dX4_init_34 : decode cX4_init 34 = .ok (.bipush 80, 2) := by decide +kernel
theorem dX4_init_36 : decode cX4_init 36 = .ok (.newarray .int, 2) := by decide +kernel
theorem dX4_init_38 : decode cX4_init 38 = .ok (.putfield 24, 3) := by decide +kernel
theorem dX4_init_41 : decode cX4_init 41 = .ok (.return_, 1) := by decide +kernel
theorem dX4_begin_0 : decode cX4_begin 0 = .ok (.aload_n 0, 1) := by decide +kernel
theorem dX4_begin_1 : decode cX4_begin 1 = .ok (.iload_n 1, 1) := by decide +kernel
theorem dX4_begin_2 : decode cX4_begin 2 = .ok (.putfield 27, 3) := by decide +kernel
theorem dX4_begin_5 : decode cX4_begin 5 = .ok (.aload_n 0, 1) := by decide +kernel
theorem dX4_begin_6 : decode cX4_begin 6 = .ok (.iload_n 2, 1) := by decide +kernel
theorem dX4_begin_7 : decode cX4_begin 7 = .ok (.putfield 31, 3) := by decide +kernel
theorem dX4_begin_10 : decode cX4_begin 10 = .ok (.iconst 0, 1) := by decide +kernel
theorem dX4_begin_11 : decode cX4_begin 11 = .ok (.istore_n 3, 1) := by decide +kernel
theorem dX4_begin_12 : decode cX4_begin 12 = .ok (.iload_n 3, 1) := by decide +kernel
theorem dX4_begin_13 : decode cX4_begin 13 = .ok (.iconst 5, 1) := by decide +kernel
theorem dX4_begin_14 : decode cX4_begin 14 = .ok (.if_icmp .ge 31, 3) := by decide +kernel
theorem dX4_begin_17 : decode cX4_begin 17 = .ok (.aload_n 0, 1) := by decide +kernel
theorem dX4_begin_18 : decode cX4_begin 18 = .ok (.getfield 15, 3) := by decide +kernel
theorem dX4_begin_21 : decode cX4_begin 21 = .ok (.iload_n 3, 1) := by decide +kernel
theorem dX4_begin_22 : decode cX4_begin 22 = .ok (.iconst 0, 1) := by decide +kernel
theorem dX4_begin_23 : decode cX4_begin 23 = .ok (.iastore, 1) := by decide +kernel
theorem dX4_begin_24 : decode cX4_begin 24 = .ok (.aload_n 0, 1) := by decide +kernel
theorem dX4_begin_25 : decode cX4_begin 25 = .ok (.getfield 18, 3) := by decide +kernel
theorem dX4_begin_28 : decode cX4_begin 28 = .ok (.iload_n 3, 1) := by decide +kernel
theorem dX4_begin_29 : decode cX4_begin 29 = .ok (.bipush (-9), 2) := by decide +kernel
theorem dX4_begin_31 : decode cX4_begin 31 = .ok (.iastore, 1) := by decide +kernel
theorem dX4_begin_32 : decode cX4_begin 32 = .ok (.aload_n 0, 1) := by decide +kernel
theorem dX4_begin_33 : decode cX4_begin 33 = .ok (.getfield 21, 3) := by decide +kernel
theorem dX4_begin_36 : decode cX4_begin 36 = .ok (.iload_n 3, 1) := by decide +kernel
theorem dX4_begin_37 : decode cX4_begin 37 = .ok (.iconst 0, 1) := by decide +kernel
theorem dX4_begin_38 : decode cX4_begin 38 = .ok (.iastore, 1) := by decide +kernel
theorem dX4_begin_39 : decode cX4_begin 39 = .ok (.iinc 3 1, 3) := by decide +kernel
theorem dX4_begin_42 : decode cX4_begin 42 = .ok (.goto (-30), 3) := by decide +kernel
theorem dX4_begin_45 : decode cX4_begin 45 = .ok (.return_, 1) := by decide +kernel
theorem dX4_noteWins_0 : decode cX4_noteWins 0 = .ok (.iload_n 1, 1) := by decide +kernel
theorem dX4_noteWins_1 : decode cX4_noteWins 1 = .ok (.ifCond .lt 19, 3) := by decide +kernel
theorem dX4_noteWins_4 : decode cX4_noteWins 4 = .ok (.iload_n 1, 1) := by decide +kernel
theorem dX4_noteWins_5 : decode cX4_noteWins 5 = .ok (.aload_n 0, 1) := by decide +kernel
theorem dX4_noteWins_6 : decode cX4_noteWins 6 = .ok (.getfield 15, 3) := by decide +kernel
theorem dX4_noteWins_9 : decode cX4_noteWins 9 = .ok (.arraylength, 1) := by decide +kernel
theorem dX4_noteWins_10 : decode cX4_noteWins 10 = .ok (.if_icmp .ge 10, 3) := by decide +kernel
theorem dX4_noteWins_13 : decode cX4_noteWins 13 = .ok (.aload_n 0, 1) := by decide +kernel
theorem dX4_noteWins_14 : decode cX4_noteWins 14 = .ok (.getfield 15, 3) := by decide +kernel
theorem dX4_noteWins_17 : decode cX4_noteWins 17 = .ok (.iload_n 1, 1) := by decide +kernel
theorem dX4_noteWins_18 : decode cX4_noteWins 18 = .ok (.iload_n 2, 1) := by decide +kernel
theorem dX4_noteWins_19 : decode cX4_noteWins 19 = .ok (.iastore, 1) := by decide +kernel
theorem dX4_noteWins_20 : decode cX4_noteWins 20 = .ok (.return_, 1) := by decide +kernel
theorem dX4_noteNearness_0 : decode cX4_noteNearness 0 = .ok (.iload_n 1, 1) := by decide +kernel
theorem dX4_noteNearness_1 : decode cX4_noteNearness 1 = .ok (.iload_n 2, 1) := by decide +kernel
theorem dX4_noteNearness_2 : decode cX4_noteNearness 2 = .ok (.invokestatic 34, 3) := by decide +kernel
theorem dX4_noteNearness_5 : decode cX4_noteNearness 5 = .ok (.ifCond .eq 14, 3) := by decide +kernel
theorem dX4_noteNearness_8 : decode cX4_noteNearness 8 = .ok (.aload_n 0, 1) := by decide +kernel
theorem dX4_noteNearness_9 : decode cX4_noteNearness 9 = .ok (.getfield 9, 3) := by decide +kernel
theorem dX4_noteNearness_12 : decode cX4_noteNearness 12 = .ok (.iload_n 1, 1) := by decide +kernel
theorem dX4_noteNearness_13 : decode cX4_noteNearness 13 = .ok (.iconst 4, 1) := by decide +kernel
theorem dX4_noteNearness_14 : decode cX4_noteNearness 14 = .ok (.imul, 1) := by decide +kernel
theorem dX4_noteNearness_15 : decode cX4_noteNearness 15 = .ok (.iload_n 2, 1) := by decide +kernel
theorem dX4_noteNearness_16 : decode cX4_noteNearness 16 = .ok (.iadd, 1) := by decide +kernel
theorem dX4_noteNearness_17 : decode cX4_noteNearness 17 = .ok (.iload_n 3, 1) := by decide +kernel
theorem dX4_noteNearness_18 : decode cX4_noteNearness 18 = .ok (.iastore, 1) := by decide +kernel
theorem dX4_noteNearness_19 : decode cX4_noteNearness 19 = .ok (.return_, 1) := by decide +kernel
theorem dX4_nearness_0 : decode cX4_nearness 0 = .ok (.iload_n 1, 1) := by decide +kernel
theorem dX4_nearness_1 : decode cX4_nearness 1 = .ok (.iload_n 2, 1) := by decide +kernel
theorem dX4_nearness_2 : decode cX4_nearness 2 = .ok (.invokestatic 34, 3) := by decide +kernel
theorem dX4_nearness_5 : decode cX4_nearness 5 = .ok (.ifCond .eq 16, 3) := by decide +kernel
theorem dX4_nearness_8 : decode cX4_nearness 8 = .ok (.aload_n 0, 1) := by decide +kernel
theorem dX4_nearness_9 : decode cX4_nearness 9 = .ok (.getfield 9, 3) := by decide +kernel
theorem dX4_nearness_12 : decode cX4_nearness 12 = .ok (.iload_n 1, 1) := by decide +kernel
theorem dX4_nearness_13 : decode cX4_nearness 13 = .ok (.iconst 4, 1) := by decide +kernel
theorem dX4_nearness_14 : decode cX4_nearness 14 = .ok (.imul, 1) := by decide +kernel
theorem dX4_nearness_15 : decode cX4_nearness 15 = .ok (.iload_n 2, 1) := by decide +kernel
theorem dX4_nearness_16 : decode cX4_nearness 16 = .ok (.iadd, 1) := by decide +kernel
theorem dX4_nearness_17 : decode cX4_nearness 17 = .ok (.iaload, 1) := by decide +kernel
theorem dX4_nearness_18 : decode cX4_nearness 18 = .ok (.goto 4, 3) := by decide +kernel
theorem dX4_nearness_21 : decode cX4_nearness 21 = .ok (.iconst 0, 1) := by decide +kernel
theorem dX4_nearness_22 : decode cX4_nearness 22 = .ok (.ireturn, 1) := by decide +kernel
theorem dX4_isInTable_0 : decode cX4_isInTable 0 = .ok (.iload_n 0, 1) := by decide +kernel
theorem dX4_isInTable_1 : decode cX4_isInTable 1 = .ok (.iconst 0, 1) := by decide +kernel
theorem dX4_isInTable_2 : decode cX4_isInTable 2 = .ok (.iconst 4, 1) := by decide +kernel
theorem dX4_isInTable_3 : decode cX4_isInTable 3 = .ok (.invokestatic 38, 3) := by decide +kernel
theorem dX4_isInTable_6 : decode cX4_isInTable 6 = .ok (.ifCond .eq 16, 3) := by decide +kernel
theorem dX4_isInTable_9 : decode cX4_isInTable 9 = .ok (.iload_n 1, 1) := by decide +kernel
theorem dX4_isInTable_10 : decode cX4_isInTable 10 = .ok (.iconst 0, 1) := by decide +kernel
theorem dX4_isInTable_11 : decode cX4_isInTable 11 = .ok (.iconst 3, 1) := by decide +kernel
theorem dX4_isInTable_12 : decode cX4_isInTable 12 = .ok (.invokestatic 38, 3) := by decide +kernel
theorem dX4_isInTable_15 : decode cX4_isInTable 15 = .ok (.ifCond .eq 7, 3) := by decide +kernel
theorem dX4_isInTable_18 : decode cX4_isInTable 18 = .ok (.iconst 1, 1) := by decide +kernel
theorem dX4_isInTable_19 : decode cX4_isInTable 19 = .ok (.goto 4, 3) := by decide +kernel
theorem dX4_isInTable_22 : decode cX4_isInTable 22 = .ok (.iconst 0, 1) := by decide +kernel
theorem dX4_isInTable_23 : decode cX4_isInTable 23 = .ok (.ireturn, 1) := by decide +kernel
theorem dX4_girlOf_0 : decode cX4_girlOf 0 = .ok (.iload_n 1, 1) := by decide +kernel
theorem dX4_girlOf_1 : decode cX4_girlOf 1 = .ok (.ifCond .lt 20, 3) := by decide +kernel
theorem dX4_girlOf_4 : decode cX4_girlOf 4 = .ok (.iload_n 1, 1) := by decide +kernel
theorem dX4_girlOf_5 : decode cX4_girlOf 5 = .ok (.aload_n 0, 1) := by decide +kernel
theorem dX4_girlOf_6 : decode cX4_girlOf 6 = .ok (.getfield 27, 3) := by decide +kernel
theorem dX4_girlOf_9 : decode cX4_girlOf 9 = .ok (.if_icmp .ge 12, 3) := by decide +kernel
theorem dX4_girlOf_12 : decode cX4_girlOf 12 = .ok (.iload_n 1, 1) := by decide +kernel
theorem dX4_girlOf_13 : decode cX4_girlOf 13 = .ok (.aload_n 0, 1) := by decide +kernel
theorem dX4_girlOf_14 : decode cX4_girlOf 14 = .ok (.getfield 18, 3) := by decide +kernel
theorem dX4_girlOf_17 : decode cX4_girlOf 17 = .ok (.arraylength, 1) := by decide +kernel
theorem dX4_girlOf_18 : decode cX4_girlOf 18 = .ok (.if_icmp .lt 8, 3) := by decide +kernel
theorem dX4_girlOf_21 : decode cX4_girlOf 21 = .ok (.bipush (-9), 2) := by decide +kernel
theorem dX4_girlOf_23 : decode cX4_girlOf 23 = .ok (.goto 9, 3) := by decide +kernel
theorem dX4_girlOf_26 : decode cX4_girlOf 26 = .ok (.aload_n 0, 1) := by decide +kernel
theorem dX4_girlOf_27 : decode cX4_girlOf 27 = .ok (.getfield 18, 3) := by decide +kernel
theorem dX4_girlOf_30 : decode cX4_girlOf 30 = .ok (.iload_n 1, 1) := by decide +kernel
theorem dX4_girlOf_31 : decode cX4_girlOf 31 = .ok (.iaload, 1) := by decide +kernel
theorem dX4_girlOf_32 : decode cX4_girlOf 32 = .ok (.ireturn, 1) := by decide +kernel
theorem dX4_giveGirl_0 : decode cX4_giveGirl 0 = .ok (.iload_n 1, 1) := by decide +kernel
theorem dX4_giveGirl_1 : decode cX4_giveGirl 1 = .ok (.ifCond .lt 19, 3) := by decide +kernel
theorem dX4_giveGirl_4 : decode cX4_giveGirl 4 = .ok (.iload_n 1, 1) := by decide +kernel
theorem dX4_giveGirl_5 : decode cX4_giveGirl 5 = .ok (.aload_n 0, 1) := by decide +kernel
theorem dX4_giveGirl_6 : decode cX4_giveGirl 6 = .ok (.getfield 18, 3) := by decide +kernel
theorem dX4_giveGirl_9 : decode cX4_giveGirl 9 = .ok (.arraylength, 1) := by decide +kernel
theorem dX4_giveGirl_10 : decode cX4_giveGirl 10 = .ok (.if_icmp .ge 10, 3) := by decide +kernel
theorem dX4_giveGirl_13 : decode cX4_giveGirl 13 = .ok (.aload_n 0, 1) := by decide +kernel
theorem dX4_giveGirl_14 : decode cX4_giveGirl 14 = .ok (.getfield 18, 3) := by decide +kernel
theorem dX4_giveGirl_17 : decode cX4_giveGirl 17 = .ok (.iload_n 1, 1) := by decide +kernel
theorem dX4_giveGirl_18 : decode cX4_giveGirl 18 = .ok (.iload_n 2, 1) := by decide +kernel
theorem dX4_giveGirl_19 : decode cX4_giveGirl 19 = .ok (.iastore, 1) := by decide +kernel
theorem dX4_giveGirl_20 : decode cX4_giveGirl 20 = .ok (.return_, 1) := by decide +kernel
theorem dX4_pairs_0 : decode cX4_pairs 0 = .ok (.iconst 0, 1) := by decide +kernel
theorem dX4_pairs_1 : decode cX4_pairs 1 = .ok (.istore_n 1, 1) := by decide +kernel
theorem dX4_pairs_2 : decode cX4_pairs 2 = .ok (.iconst 0, 1) := by decide +kernel
theorem dX4_pairs_3 : decode cX4_pairs 3 = .ok (.istore_n 2, 1) := by decide +kernel
theorem dX4_pairs_4 : decode cX4_pairs 4 = .ok (.iload_n 2, 1) := by decide +kernel
theorem dX4_pairs_5 : decode cX4_pairs 5 = .ok (.aload_n 0, 1) := by decide +kernel
theorem dX4_pairs_6 : decode cX4_pairs 6 = .ok (.getfield 27, 3) := by decide +kernel
theorem dX4_pairs_9 : decode cX4_pairs 9 = .ok (.if_icmp .ge 22, 3) := by decide +kernel
theorem dX4_pairs_12 : decode cX4_pairs 12 = .ok (.aload_n 0, 1) := by decide +kernel
theorem dX4_pairs_13 : decode cX4_pairs 13 = .ok (.iload_n 2, 1) := by decide +kernel
theorem dX4_pairs_14 : decode cX4_pairs 14 = .ok (.invokevirtual 42, 3) := by decide +kernel
theorem dX4_pairs_17 : decode cX4_pairs 17 = .ok (.bipush (-9), 2) := by decide +kernel
theorem dX4_pairs_19 : decode cX4_pairs 19 = .ok (.if_icmp .eq 6, 3) := by decide +kernel
theorem dX4_pairs_22 : decode cX4_pairs 22 = .ok (.iinc 1 1, 3) := by decide +kernel
theorem dX4_pairs_25 : decode cX4_pairs 25 = .ok (.iinc 2 1, 3) := by decide +kernel
theorem dX4_pairs_28 : decode cX4_pairs 28 = .ok (.goto (-24), 3) := by decide +kernel
theorem dX4_pairs_31 : decode cX4_pairs 31 = .ok (.iload_n 1, 1) := by decide +kernel
theorem dX4_pairs_32 : decode cX4_pairs 32 = .ok (.ireturn, 1) := by decide +kernel
theorem dX4_nearnessTogether_0 : decode cX4_nearnessTogether 0 = .ok (.iconst 0, 1) := by decide +kernel
theorem dX4_nearnessTogether_1 : decode cX4_nearnessTogether 1 = .ok (.istore_n 1, 1) := by decide +kernel
theorem dX4_nearnessTogether_2 : decode cX4_nearnessTogether 2 = .ok (.iconst 0, 1) := by decide +kernel
theorem dX4_nearnessTogether_3 : decode cX4_nearnessTogether 3 = .ok (.istore_n 2, 1) := by decide +kernel
theorem dX4_nearnessTogether_4 : decode cX4_nearnessTogether 4 = .ok (.iload_n 2, 1) := by decide +kernel
theorem dX4_nearnessTogether_5 : decode cX4_nearnessTogether 5 = .ok (.aload_n 0, 1) := by decide +kernel
theorem dX4_nearnessTogether_6 : decode cX4_nearnessTogether 6 = .ok (.getfield 27, 3) := by decide +kernel
theorem dX4_nearnessTogether_9 : decode cX4_nearnessTogether 9 = .ok (.if_icmp .ge 36, 3) := by decide +kernel
theorem dX4_nearnessTogether_12 : decode cX4_nearnessTogether 12 = .ok (.iload_n 1, 1) := by decide +kernel
theorem dX4_nearnessTogether_13 : decode cX4_nearnessTogether 13 = .ok (.aload_n 0, 1) := by decide +kernel
theorem dX4_nearnessTogether_14 : decode cX4_nearnessTogether 14 = .ok (.iload_n 2, 1) := by decide +kernel
theorem dX4_nearnessTogether_15 : decode cX4_nearnessTogether 15 = .ok (.invokevirtual 42, 3) := by decide +kernel
theorem dX4_nearnessTogether_18 : decode cX4_nearnessTogether 18 = .ok (.bipush (-9), 2) := by decide +kernel
theorem dX4_nearnessTogether_20 : decode cX4_nearnessTogether 20 = .ok (.if_icmp .ne 7, 3) := by decide +kernel
theorem dX4_nearnessTogether_23 : decode cX4_nearnessTogether 23 = .ok (.iconst 0, 1) := by decide +kernel
theorem dX4_nearnessTogether_24 : decode cX4_nearnessTogether 24 = .ok (.goto 13, 3) := by decide +kernel
theorem dX4_nearnessTogether_27 : decode cX4_nearnessTogether 27 = .ok (.aload_n 0, 1) := by decide +kernel
theorem dX4_nearnessTogether_28 : decode cX4_nearnessTogether 28 = .ok (.iload_n 2, 1) := by decide +kernel
theorem dX4_nearnessTogether_29 : decode cX4_nearnessTogether 29 = .ok (.aload_n 0, 1) := by decide +kernel
theorem dX4_nearnessTogether_30 : decode cX4_nearnessTogether 30 = .ok (.iload_n 2, 1) := by decide +kernel
theorem dX4_nearnessTogether_31 : decode cX4_nearnessTogether 31 = .ok (.invokevirtual 42, 3) := by decide +kernel
theorem dX4_nearnessTogether_34 : decode cX4_nearnessTogether 34 = .ok (.invokevirtual 46, 3) := by decide +kernel
theorem dX4_nearnessTogether_37 : decode cX4_nearnessTogether 37 = .ok (.iadd, 1) := by decide +kernel
theorem dX4_nearnessTogether_38 : decode cX4_nearnessTogether 38 = .ok (.istore_n 1, 1) := by decide +kernel
theorem dX4_nearnessTogether_39 : decode cX4_nearnessTogether 39 = .ok (.iinc 2 1, 3) := by decide +kernel
theorem dX4_nearnessTogether_42 : decode cX4_nearnessTogether 42 = .ok (.goto (-38), 3) := by decide +kernel
theorem dX4_nearnessTogether_45 : decode cX4_nearnessTogether 45 = .ok (.iload_n 1, 1) := by decide +kernel
theorem dX4_nearnessTogether_46 : decode cX4_nearnessTogether 46 = .ok (.ireturn, 1) := by decide +kernel
theorem dX4_matchUp_0 : decode cX4_matchUp 0 = .ok (.aload_n 0, 1) := by decide +kernel
theorem dX4_matchUp_1 : decode cX4_matchUp 1 = .ok (.getfield 27, 3) := by decide +kernel
theorem dX4_matchUp_4 : decode cX4_matchUp 4 = .ok (.iconst 1, 1) := by decide +kernel
theorem dX4_matchUp_5 : decode cX4_matchUp 5 = .ok (.isub, 1) := by decide +kernel
theorem dX4_matchUp_6 : decode cX4_matchUp 6 = .ok (.istore_n 1, 1) := by decide +kernel
theorem dX4_matchUp_7 : decode cX4_matchUp 7 = .ok (.iload_n 1, 1) := by decide +kernel
theorem dX4_matchUp_8 : decode cX4_matchUp 8 = .ok (.ifCond .lt 45, 3) := by decide +kernel
theorem dX4_matchUp_11 : decode cX4_matchUp 11 = .ok (.iconst 0, 1) := by decide +kernel
theorem dX4_matchUp_12 : decode cX4_matchUp 12 = .ok (.istore_n 2, 1) := by decide +kernel
theorem dX4_matchUp_13 : decode cX4_matchUp 13 = .ok (.iload_n 2, 1) := by decide +kernel
theorem dX4_matchUp_14 : decode cX4_matchUp 14 = .ok (.iconst 1, 1) := by decide +kernel
theorem dX4_matchUp_15 : decode cX4_matchUp 15 = .ok (.aload_n 0, 1) := by decide +kernel
theorem dX4_matchUp_16 : decode cX4_matchUp 16 = .ok (.getfield 31, 3) := by decide +kernel
theorem dX4_matchUp_19 : decode cX4_matchUp 19 = .ok (.ishl, 1) := by decide +kernel
theorem dX4_matchUp_20 : decode cX4_matchUp 20 = .ok (.if_icmp .ge 27, 3) := by decide +kernel
theorem dX4_matchUp_23 : decode cX4_matchUp 23 = .ok (.aload_n 0, 1) := by decide +kernel
theorem dX4_matchUp_24 : decode cX4_matchUp 24 = .ok (.iload_n 1, 1) := by decide +kernel
theorem dX4_matchUp_25 : decode cX4_matchUp 25 = .ok (.iload_n 2, 1) := by decide +kernel
theorem dX4_matchUp_26 : decode cX4_matchUp 26 = .ok (.aload_n 0, 1) := by decide +kernel
theorem dX4_matchUp_27 : decode cX4_matchUp 27 = .ok (.iload_n 1, 1) := by decide +kernel
theorem dX4_matchUp_28 : decode cX4_matchUp 28 = .ok (.iload_n 2, 1) := by decide +kernel
theorem dX4_matchUp_29 : decode cX4_matchUp 29 = .ok (.aload_n 0, 1) := by decide +kernel
theorem dX4_matchUp_30 : decode cX4_matchUp 30 = .ok (.iload_n 1, 1) := by decide +kernel
theorem dX4_matchUp_31 : decode cX4_matchUp 31 = .ok (.iload_n 2, 1) := by decide +kernel
theorem dX4_matchUp_32 : decode cX4_matchUp 32 = .ok (.invokevirtual 50, 3) := by decide +kernel
theorem dX4_matchUp_35 : decode cX4_matchUp 35 = .ok (.invokevirtual 53, 3) := by decide +kernel
theorem dX4_matchUp_38 : decode cX4_matchUp 38 = .ok (.invokevirtual 57, 3) := by decide +kernel
theorem dX4_matchUp_41 : decode cX4_matchUp 41 = .ok (.iinc 2 1, 3) := by decide +kernel
theorem dX4_matchUp_44 : decode cX4_matchUp 44 = .ok (.goto (-31), 3) := by decide +kernel
theorem dX4_matchUp_47 : decode cX4_matchUp 47 = .ok (.iinc 1 (-1), 3) := by decide +kernel
theorem dX4_matchUp_50 : decode cX4_matchUp 50 = .ok (.goto (-43), 3) := by decide +kernel
theorem dX4_matchUp_53 : decode cX4_matchUp 53 = .ok (.iconst 0, 1) := by decide +kernel
theorem dX4_matchUp_54 : decode cX4_matchUp 54 = .ok (.istore_n 1, 1) := by decide +kernel
theorem dX4_matchUp_55 : decode cX4_matchUp 55 = .ok (.iconst 0, 1) := by decide +kernel
theorem dX4_matchUp_56 : decode cX4_matchUp 56 = .ok (.istore_n 2, 1) := by decide +kernel
theorem dX4_matchUp_57 : decode cX4_matchUp 57 = .ok (.iload_n 2, 1) := by decide +kernel
theorem dX4_matchUp_58 : decode cX4_matchUp 58 = .ok (.aload_n 0, 1) := by decide +kernel
theorem dX4_matchUp_59 : decode cX4_matchUp 59 = .ok (.getfield 27, 3) := by decide +kernel
theorem dX4_matchUp_62 : decode cX4_matchUp 62 = .ok (.if_icmp .ge 38, 3) := by decide +kernel
theorem dX4_matchUp_65 : decode cX4_matchUp 65 = .ok (.aload_n 0, 1) := by decide +kernel
theorem dX4_matchUp_66 : decode cX4_matchUp 66 = .ok (.iload_n 2, 1) := by decide +kernel
theorem dX4_matchUp_67 : decode cX4_matchUp 67 = .ok (.iload_n 1, 1) := by decide +kernel
theorem dX4_matchUp_68 : decode cX4_matchUp 68 = .ok (.invokevirtual 50, 3) := by decide +kernel
theorem dX4_matchUp_71 : decode cX4_matchUp 71 = .ok (.istore_n 3, 1) := by decide +kernel
theorem dX4_matchUp_72 : decode cX4_matchUp 72 = .ok (.aload_n 0, 1) := by decide +kernel
theorem dX4_matchUp_73 : decode cX4_matchUp 73 = .ok (.iload_n 2, 1) := by decide +kernel
theorem dX4_matchUp_74 : decode cX4_matchUp 74 = .ok (.iload_n 3, 1) := by decide +kernel
theorem dX4_matchUp_75 : decode cX4_matchUp 75 = .ok (.invokevirtual 61, 3) := by decide +kernel
theorem dX4_matchUp_78 : decode cX4_matchUp 78 = .ok (.iload_n 1, 1) := by decide +kernel
theorem dX4_matchUp_79 : decode cX4_matchUp 79 = .ok (.iload_n 3, 1) := by decide +kernel
theorem dX4_matchUp_80 : decode cX4_matchUp 80 = .ok (.bipush (-9), 2) := by decide +kernel
theorem dX4_matchUp_82 : decode cX4_matchUp 82 = .ok (.if_icmp .ne 7, 3) := by decide +kernel
theorem dX4_matchUp_85 : decode cX4_matchUp 85 = .ok (.iconst 0, 1) := by decide +kernel
theorem dX4_matchUp_86 : decode cX4_matchUp 86 = .ok (.goto 6, 3) := by decide +kernel
theorem dX4_matchUp_89 : decode cX4_matchUp 89 = .ok (.iconst 1, 1) := by decide +kernel
theorem dX4_matchUp_90 : decode cX4_matchUp 90 = .ok (.iload_n 3, 1) := by decide +kernel
theorem dX4_matchUp_91 : decode cX4_matchUp 91 = .ok (.ishl, 1) := by decide +kernel
theorem dX4_matchUp_92 : decode cX4_matchUp 92 = .ok (.ior, 1) := by decide +kernel
theorem dX4_matchUp_93 : decode cX4_matchUp 93 = .ok (.istore_n 1, 1) := by decide +kernel
theorem dX4_matchUp_94 : decode cX4_matchUp 94 = .ok (.iinc 2 1, 3) := by decide +kernel
theorem dX4_matchUp_97 : decode cX4_matchUp 97 = .ok (.goto (-40), 3) := by decide +kernel
theorem dX4_matchUp_100 : decode cX4_matchUp 100 = .ok (.return_, 1) := by decide +kernel
theorem dX4_firstBest_0 : decode cX4_firstBest 0 = .ok (.bipush (-9), 2) := by decide +kernel
theorem dX4_firstBest_2 : decode cX4_firstBest 2 = .ok (.istore_n 3, 1) := by decide +kernel
theorem dX4_firstBest_3 : decode cX4_firstBest 3 = .ok (.iconst (-1), 1) := by decide +kernel
theorem dX4_firstBest_4 : decode cX4_firstBest 4 = .ok (.istore 4, 2) := by decide +kernel
theorem dX4_firstBest_6 : decode cX4_firstBest 6 = .ok (.iconst 0, 1) := by decide +kernel
theorem dX4_firstBest_7 : decode cX4_firstBest 7 = .ok (.istore 5, 2) := by decide +kernel
theorem dX4_firstBest_9 : decode cX4_firstBest 9 = .ok (.iload 5, 2) := by decide +kernel
theorem dX4_firstBest_11 : decode cX4_firstBest 11 = .ok (.aload_n 0, 1) := by decide +kernel
theorem dX4_firstBest_12 : decode cX4_firstBest 12 = .ok (.getfield 31, 3) := by decide +kernel
theorem dX4_firstBest_15 : decode cX4_firstBest 15 = .ok (.if_icmp .ge 48, 3) := by decide +kernel
theorem dX4_firstBest_18 : decode cX4_firstBest 18 = .ok (.aload_n 0, 1) := by decide +kernel
theorem dX4_firstBest_19 : decode cX4_firstBest 19 = .ok (.iload_n 1, 1) := by decide +kernel
theorem dX4_firstBest_20 : decode cX4_firstBest 20 = .ok (.iload_n 2, 1) := by decide +kernel
theorem dX4_firstBest_21 : decode cX4_firstBest 21 = .ok (.iload 5, 2) := by decide +kernel
theorem dX4_firstBest_23 : decode cX4_firstBest 23 = .ok (.invokevirtual 65, 3) := by decide +kernel
theorem dX4_firstBest_26 : decode cX4_firstBest 26 = .ok (.ifCond .eq 14, 3) := by decide +kernel
theorem dX4_firstBest_29 : decode cX4_firstBest 29 = .ok (.aload_n 0, 1) := by decide +kernel
theorem dX4_firstBest_30 : decode cX4_firstBest 30 = .ok (.iload_n 1, 1) := by decide +kernel
theorem dX4_firstBest_31 : decode cX4_firstBest 31 = .ok (.iload_n 2, 1) := by decide +kernel
theorem dX4_firstBest_32 : decode cX4_firstBest 32 = .ok (.iload 5, 2) := by decide +kernel
theorem dX4_firstBest_34 : decode cX4_firstBest 34 = .ok (.invokevirtual 53, 3) := by decide +kernel
theorem dX4_firstBest_37 : decode cX4_firstBest 37 = .ok (.goto 4, 3) := by decide +kernel
theorem dX4_firstBest_40 : decode cX4_firstBest 40 = .ok (.iconst (-1), 1) := by decide +kernel
theorem dX4_firstBest_41 : decode cX4_firstBest 41 = .ok (.istore 6, 2) := by decide +kernel
theorem dX4_firstBest_43 : decode cX4_firstBest 43 = .ok (.iload 6, 2) := by decide +kernel
theorem dX4_firstBest_45 : decode cX4_firstBest 45 = .ok (.iload 4, 2) := by decide +kernel
theorem dX4_firstBest_47 : decode cX4_firstBest 47 = .ok (.if_icmp .le 10, 3) := by decide +kernel
theorem dX4_firstBest_50 : decode cX4_firstBest 50 = .ok (.iload 5, 2) := by decide +kernel
theorem dX4_firstBest_52 : decode cX4_firstBest 52 = .ok (.istore_n 3, 1) := by decide +kernel
theorem dX4_firstBest_53 : decode cX4_firstBest 53 = .ok (.iload 6, 2) := by decide +kernel
theorem dX4_firstBest_55 : decode cX4_firstBest 55 = .ok (.istore 4, 2) := by decide +kernel
theorem dX4_firstBest_57 : decode cX4_firstBest 57 = .ok (.iinc 5 1, 3) := by decide +kernel
theorem dX4_firstBest_60 : decode cX4_firstBest 60 = .ok (.goto (-51), 3) := by decide +kernel
theorem dX4_firstBest_63 : decode cX4_firstBest 63 = .ok (.aload_n 0, 1) := by decide +kernel
theorem dX4_firstBest_64 : decode cX4_firstBest 64 = .ok (.iload_n 1, 1) := by decide +kernel
theorem dX4_firstBest_65 : decode cX4_firstBest 65 = .ok (.iload_n 2, 1) := by decide +kernel
theorem dX4_firstBest_66 : decode cX4_firstBest 66 = .ok (.bipush (-9), 2) := by decide +kernel
theorem dX4_firstBest_68 : decode cX4_firstBest 68 = .ok (.invokevirtual 53, 3) := by decide +kernel
theorem dX4_firstBest_71 : decode cX4_firstBest 71 = .ok (.iload 4, 2) := by decide +kernel
theorem dX4_firstBest_73 : decode cX4_firstBest 73 = .ok (.if_icmp .le 8, 3) := by decide +kernel
theorem dX4_firstBest_76 : decode cX4_firstBest 76 = .ok (.bipush (-9), 2) := by decide +kernel
theorem dX4_firstBest_78 : decode cX4_firstBest 78 = .ok (.goto 4, 3) := by decide +kernel
theorem dX4_firstBest_81 : decode cX4_firstBest 81 = .ok (.iload_n 3, 1) := by decide +kernel
theorem dX4_firstBest_82 : decode cX4_firstBest 82 = .ok (.ireturn, 1) := by decide +kernel
theorem dX4_isFreeToWin_0 : decode cX4_isFreeToWin 0 = .ok (.iload_n 1, 1) := by decide +kernel
theorem dX4_isFreeToWin_1 : decode cX4_isFreeToWin 1 = .ok (.ifCond .lt 12, 3) := by decide +kernel
theorem dX4_isFreeToWin_4 : decode cX4_isFreeToWin 4 = .ok (.iload_n 1, 1) := by decide +kernel
theorem dX4_isFreeToWin_5 : decode cX4_isFreeToWin 5 = .ok (.aload_n 0, 1) := by decide +kernel
theorem dX4_isFreeToWin_6 : decode cX4_isFreeToWin 6 = .ok (.getfield 15, 3) := by decide +kernel
theorem dX4_isFreeToWin_9 : decode cX4_isFreeToWin 9 = .ok (.arraylength, 1) := by decide +kernel
theorem dX4_isFreeToWin_10 : decode cX4_isFreeToWin 10 = .ok (.if_icmp .lt 7, 3) := by decide +kernel
theorem dX4_isFreeToWin_13 : decode cX4_isFreeToWin 13 = .ok (.iconst 0, 1) := by decide +kernel
theorem dX4_isFreeToWin_14 : decode cX4_isFreeToWin 14 = .ok (.goto 9, 3) := by decide +kernel
theorem dX4_isFreeToWin_17 : decode cX4_isFreeToWin 17 = .ok (.aload_n 0, 1) := by decide +kernel
theorem dX4_isFreeToWin_18 : decode cX4_isFreeToWin 18 = .ok (.getfield 15, 3) := by decide +kernel
theorem dX4_isFreeToWin_21 : decode cX4_isFreeToWin 21 = .ok (.iload_n 1, 1) := by decide +kernel
theorem dX4_isFreeToWin_22 : decode cX4_isFreeToWin 22 = .ok (.iaload, 1) := by decide +kernel
theorem dX4_isFreeToWin_23 : decode cX4_isFreeToWin 23 = .ok (.istore 4, 2) := by decide +kernel
theorem dX4_isFreeToWin_25 : decode cX4_isFreeToWin 25 = .ok (.iload 4, 2) := by decide +kernel
theorem dX4_isFreeToWin_27 : decode cX4_isFreeToWin 27 = .ok (.iload_n 3, 1) := by decide +kernel
theorem dX4_isFreeToWin_28 : decode cX4_isFreeToWin 28 = .ok (.ishr, 1) := by decide +kernel
theorem dX4_isFreeToWin_29 : decode cX4_isFreeToWin 29 = .ok (.iconst 1, 1) := by decide +kernel
theorem dX4_isFreeToWin_30 : decode cX4_isFreeToWin 30 = .ok (.iand, 1) := by decide +kernel
theorem dX4_isFreeToWin_31 : decode cX4_isFreeToWin 31 = .ok (.iconst 1, 1) := by decide +kernel
theorem dX4_isFreeToWin_32 : decode cX4_isFreeToWin 32 = .ok (.if_icmp .ne 15, 3) := by decide +kernel
theorem dX4_isFreeToWin_35 : decode cX4_isFreeToWin 35 = .ok (.iload_n 2, 1) := by decide +kernel
theorem dX4_isFreeToWin_36 : decode cX4_isFreeToWin 36 = .ok (.iload_n 3, 1) := by decide +kernel
theorem dX4_isFreeToWin_37 : decode cX4_isFreeToWin 37 = .ok (.ishr, 1) := by decide +kernel
theorem dX4_isFreeToWin_38 : decode cX4_isFreeToWin 38 = .ok (.iconst 1, 1) := by decide +kernel
theorem dX4_isFreeToWin_39 : decode cX4_isFreeToWin 39 = .ok (.iand, 1) := by decide +kernel
theorem dX4_isFreeToWin_40 : decode cX4_isFreeToWin 40 = .ok (.ifCond .ne 7, 3) := by decide +kernel
theorem dX4_isFreeToWin_43 : decode cX4_isFreeToWin 43 = .ok (.iconst 1, 1) := by decide +kernel
theorem dX4_isFreeToWin_44 : decode cX4_isFreeToWin 44 = .ok (.goto 4, 3) := by decide +kernel
theorem dX4_isFreeToWin_47 : decode cX4_isFreeToWin 47 = .ok (.iconst 0, 1) := by decide +kernel
theorem dX4_isFreeToWin_48 : decode cX4_isFreeToWin 48 = .ok (.ireturn, 1) := by decide +kernel
theorem dX4_worthWith_0 : decode cX4_worthWith 0 = .ok (.iload_n 3, 1) := by decide +kernel
theorem dX4_worthWith_1 : decode cX4_worthWith 1 = .ok (.bipush (-9), 2) := by decide +kernel
theorem dX4_worthWith_3 : decode cX4_worthWith 3 = .ok (.if_icmp .ne 12, 3) := by decide +kernel
theorem dX4_worthWith_6 : decode cX4_worthWith 6 = .ok (.aload_n 0, 1) := by decide +kernel
theorem dX4_worthWith_7 : decode cX4_worthWith 7 = .ok (.iload_n 1, 1) := by decide +kernel
theorem dX4_worthWith_8 : decode cX4_worthWith 8 = .ok (.iconst 1, 1) := by decide +kernel
theorem dX4_worthWith_9 : decode cX4_worthWith 9 = .ok (.iadd, 1) := by decide +kernel
theorem dX4_worthWith_10 : decode cX4_worthWith 10 = .ok (.iload_n 2, 1) := by decide +kernel
theorem dX4_worthWith_11 : decode cX4_worthWith 11 = .ok (.invokevirtual 68, 3) := by decide +kernel
theorem dX4_worthWith_14 : decode cX4_worthWith 14 = .ok (.ireturn, 1) := by decide +kernel
theorem dX4_worthWith_15 : decode cX4_worthWith 15 = .ok (.sipush 1000, 3) := by decide +kernel
theorem dX4_worthWith_18 : decode cX4_worthWith 18 = .ok (.aload_n 0, 1) := by decide +kernel
theorem dX4_worthWith_19 : decode cX4_worthWith 19 = .ok (.iload_n 1, 1) := by decide +kernel
theorem dX4_worthWith_20 : decode cX4_worthWith 20 = .ok (.iload_n 3, 1) := by decide +kernel
theorem dX4_worthWith_21 : decode cX4_worthWith 21 = .ok (.invokevirtual 46, 3) := by decide +kernel
theorem dX4_worthWith_24 : decode cX4_worthWith 24 = .ok (.isub, 1) := by decide +kernel
theorem dX4_worthWith_25 : decode cX4_worthWith 25 = .ok (.aload_n 0, 1) := by decide +kernel
theorem dX4_worthWith_26 : decode cX4_worthWith 26 = .ok (.iload_n 1, 1) := by decide +kernel
theorem dX4_worthWith_27 : decode cX4_worthWith 27 = .ok (.iconst 1, 1) := by decide +kernel
theorem dX4_worthWith_28 : decode cX4_worthWith 28 = .ok (.iadd, 1) := by decide +kernel
theorem dX4_worthWith_29 : decode cX4_worthWith 29 = .ok (.iload_n 2, 1) := by decide +kernel
theorem dX4_worthWith_30 : decode cX4_worthWith 30 = .ok (.iconst 1, 1) := by decide +kernel
theorem dX4_worthWith_31 : decode cX4_worthWith 31 = .ok (.iload_n 3, 1) := by decide +kernel
theorem dX4_worthWith_32 : decode cX4_worthWith 32 = .ok (.ishl, 1) := by decide +kernel
theorem dX4_worthWith_33 : decode cX4_worthWith 33 = .ok (.ior, 1) := by decide +kernel
theorem dX4_worthWith_34 : decode cX4_worthWith 34 = .ok (.invokevirtual 68, 3) := by decide +kernel
theorem dX4_worthWith_37 : decode cX4_worthWith 37 = .ok (.iadd, 1) := by decide +kernel
theorem dX4_worthWith_38 : decode cX4_worthWith 38 = .ok (.ireturn, 1) := by decide +kernel
theorem dX4_worthFrom_0 : decode cX4_worthFrom 0 = .ok (.iload_n 1, 1) := by decide +kernel
theorem dX4_worthFrom_1 : decode cX4_worthFrom 1 = .ok (.ifCond .lt 25, 3) := by decide +kernel
theorem dX4_worthFrom_4 : decode cX4_worthFrom 4 = .ok (.iload_n 1, 1) := by decide +kernel
theorem dX4_worthFrom_5 : decode cX4_worthFrom 5 = .ok (.aload_n 0, 1) := by decide +kernel
theorem dX4_worthFrom_6 : decode cX4_worthFrom 6 = .ok (.getfield 27, 3) := by decide +kernel
theorem dX4_worthFrom_9 : decode cX4_worthFrom 9 = .ok (.if_icmp .ge 17, 3) := by decide +kernel
theorem dX4_worthFrom_12 : decode cX4_worthFrom 12 = .ok (.iload_n 2, 1) := by decide +kernel
theorem dX4_worthFrom_13 : decode cX4_worthFrom 13 = .ok (.ifCond .lt 13, 3) := by decide +kernel
theorem dX4_worthFrom_16 : decode cX4_worthFrom 16 = .ok (.iload_n 2, 1) := by decide +kernel
theorem dX4_worthFrom_17 : decode cX4_worthFrom 17 = .ok (.bipush 16, 2) := by decide +kernel
theorem dX4_worthFrom_19 : decode cX4_worthFrom 19 = .ok (.if_icmp .ge 7, 3) := by decide +kernel
theorem dX4_worthFrom_22 : decode cX4_worthFrom 22 = .ok (.iconst 1, 1) := by decide +kernel
theorem dX4_worthFrom_23 : decode cX4_worthFrom 23 = .ok (.goto 4, 3) := by decide +kernel
theorem dX4_worthFrom_26 : decode cX4_worthFrom 26 = .ok (.iconst 0, 1) := by decide +kernel
theorem dX4_worthFrom_27 : decode cX4_worthFrom 27 = .ok (.istore_n 3, 1) := by decide +kernel
theorem dX4_worthFrom_28 : decode cX4_worthFrom 28 = .ok (.iload_n 1, 1) := by decide +kernel
theorem dX4_worthFrom_29 : decode cX4_worthFrom 29 = .ok (.bipush 16, 2) := by decide +kernel
theorem dX4_worthFrom_31 : decode cX4_worthFrom 31 = .ok (.imul, 1) := by decide +kernel
theorem dX4_worthFrom_32 : decode cX4_worthFrom 32 = .ok (.iload_n 2, 1) := by decide +kernel
theorem dX4_worthFrom_33 : decode cX4_worthFrom 33 = .ok (.iadd, 1) := by decide +kernel
theorem dX4_worthFrom_34 : decode cX4_worthFrom 34 = .ok (.istore 4, 2) := by decide +kernel
theorem dX4_worthFrom_36 : decode cX4_worthFrom 36 = .ok (.iload_n 3, 1) := by decide +kernel
theorem dX4_worthFrom_37 : decode cX4_worthFrom 37 = .ok (.ifCond .eq 23, 3) := by decide +kernel
theorem dX4_worthFrom_40 : decode cX4_worthFrom 40 = .ok (.iload 4, 2) := by decide +kernel
theorem dX4_worthFrom_42 : decode cX4_worthFrom 42 = .ok (.aload_n 0, 1) := by decide +kernel
theorem dX4_worthFrom_43 : decode cX4_worthFrom 43 = .ok (.getfield 24, 3) := by decide +kernel
theorem dX4_worthFrom_46 : decode cX4_worthFrom 46 = .ok (.arraylength, 1) := by decide +kernel
theorem dX4_worthFrom_47 : decode cX4_worthFrom 47 = .ok (.if_icmp .ge 13, 3) := by decide +kernel
theorem dX4_worthFrom_50 : decode cX4_worthFrom 50 = .ok (.aload_n 0, 1) := by decide +kernel
theorem dX4_worthFrom_51 : decode cX4_worthFrom 51 = .ok (.getfield 24, 3) := by decide +kernel
theorem dX4_worthFrom_54 : decode cX4_worthFrom 54 = .ok (.iload 4, 2) := by decide +kernel
theorem dX4_worthFrom_56 : decode cX4_worthFrom 56 = .ok (.iaload, 1) := by decide +kernel
theorem dX4_worthFrom_57 : decode cX4_worthFrom 57 = .ok (.goto 4, 3) := by decide +kernel
theorem dX4_worthFrom_60 : decode cX4_worthFrom 60 = .ok (.iconst 0, 1) := by decide +kernel
theorem dX4_worthFrom_61 : decode cX4_worthFrom 61 = .ok (.ireturn, 1) := by decide +kernel
theorem dX4_noteWorth_0 : decode cX4_noteWorth 0 = .ok (.iload_n 1, 1) := by decide +kernel
theorem dX4_noteWorth_1 : decode cX4_noteWorth 1 = .ok (.bipush 16, 2) := by decide +kernel
theorem dX4_noteWorth_3 : decode cX4_noteWorth 3 = .ok (.imul, 1) := by decide +kernel
theorem dX4_noteWorth_4 : decode cX4_noteWorth 4 = .ok (.iload_n 2, 1) := by decide +kernel
theorem dX4_noteWorth_5 : decode cX4_noteWorth 5 = .ok (.iadd, 1) := by decide +kernel
theorem dX4_noteWorth_6 : decode cX4_noteWorth 6 = .ok (.istore 4, 2) := by decide +kernel
theorem dX4_noteWorth_8 : decode cX4_noteWorth 8 = .ok (.iload 4, 2) := by decide +kernel
theorem dX4_noteWorth_10 : decode cX4_noteWorth 10 = .ok (.ifCond .lt 21, 3) := by decide +kernel
theorem dX4_noteWorth_13 : decode cX4_noteWorth 13 = .ok (.iload 4, 2) := by decide +kernel
theorem dX4_noteWorth_15 : decode cX4_noteWorth 15 = .ok (.aload_n 0, 1) := by decide +kernel
theorem dX4_noteWorth_16 : decode cX4_noteWorth 16 = .ok (.getfield 24, 3) := by decide +kernel
theorem dX4_noteWorth_19 : decode cX4_noteWorth 19 = .ok (.arraylength, 1) := by decide +kernel
theorem dX4_noteWorth_20 : decode cX4_noteWorth 20 = .ok (.if_icmp .ge 11, 3) := by decide +kernel
theorem dX4_noteWorth_23 : decode cX4_noteWorth 23 = .ok (.aload_n 0, 1) := by decide +kernel
theorem dX4_noteWorth_24 : decode cX4_noteWorth 24 = .ok (.getfield 24, 3) := by decide +kernel
theorem dX4_noteWorth_27 : decode cX4_noteWorth 27 = .ok (.iload 4, 2) := by decide +kernel
theorem dX4_noteWorth_29 : decode cX4_noteWorth 29 = .ok (.iload_n 3, 1) := by decide +kernel
theorem dX4_noteWorth_30 : decode cX4_noteWorth 30 = .ok (.iastore, 1) := by decide +kernel
theorem dX4_noteWorth_31 : decode cX4_noteWorth 31 = .ok (.return_, 1) := by decide +kernel
theorem dX4_wedAll_0 : decode cX4_wedAll 0 = .ok (.iconst 0, 1) := by decide +kernel
theorem dX4_wedAll_1 : decode cX4_wedAll 1 = .ok (.istore_n 1, 1) := by decide +kernel
theorem dX4_wedAll_2 : decode cX4_wedAll 2 = .ok (.iload_n 1, 1) := by decide +kernel
theorem dX4_wedAll_3 : decode cX4_wedAll 3 = .ok (.bipush 24, 2) := by decide +kernel
theorem dX4_wedAll_5 : decode cX4_wedAll 5 = .ok (.if_icmp .ge 31, 3) := by decide +kernel
theorem dX4_wedAll_8 : decode cX4_wedAll 8 = .ok (.aload_n 0, 1) := by decide +kernel
theorem dX4_wedAll_9 : decode cX4_wedAll 9 = .ok (.invokevirtual 71, 3) := by decide +kernel
theorem dX4_wedAll_12 : decode cX4_wedAll 12 = .ok (.istore_n 2, 1) := by decide +kernel
theorem dX4_wedAll_13 : decode cX4_wedAll 13 = .ok (.iload_n 2, 1) := by decide +kernel
theorem dX4_wedAll_14 : decode cX4_wedAll 14 = .ok (.bipush (-9), 2) := by decide +kernel
theorem dX4_wedAll_16 : decode cX4_wedAll 16 = .ok (.if_icmp .ne 4, 3) := by decide +kernel
theorem dX4_wedAll_19 : decode cX4_wedAll 19 = .ok (.return_, 1) := by decide +kernel
theorem dX4_wedAll_20 : decode cX4_wedAll 20 = .ok (.aload_n 0, 1) := by decide +kernel
theorem dX4_wedAll_21 : decode cX4_wedAll 21 = .ok (.iload_n 2, 1) := by decide +kernel
theorem dX4_wedAll_22 : decode cX4_wedAll 22 = .ok (.aload_n 0, 1) := by decide +kernel
theorem dX4_wedAll_23 : decode cX4_wedAll 23 = .ok (.iload_n 2, 1) := by decide +kernel
theorem dX4_wedAll_24 : decode cX4_wedAll 24 = .ok (.invokevirtual 75, 3) := by decide +kernel
theorem dX4_wedAll_27 : decode cX4_wedAll 27 = .ok (.invokevirtual 78, 3) := by decide +kernel
theorem dX4_wedAll_30 : decode cX4_wedAll 30 = .ok (.iinc 1 1, 3) := by decide +kernel
theorem dX4_wedAll_33 : decode cX4_wedAll 33 = .ok (.goto (-31), 3) := by decide +kernel
theorem dX4_wedAll_36 : decode cX4_wedAll 36 = .ok (.return_, 1) := by decide +kernel
theorem dX4_firstWhoAsks_0 : decode cX4_firstWhoAsks 0 = .ok (.iconst 0, 1) := by decide +kernel
theorem dX4_firstWhoAsks_1 : decode cX4_firstWhoAsks 1 = .ok (.istore_n 1, 1) := by decide +kernel
theorem dX4_firstWhoAsks_2 : decode cX4_firstWhoAsks 2 = .ok (.iload_n 1, 1) := by decide +kernel
theorem dX4_firstWhoAsks_3 : decode cX4_firstWhoAsks 3 = .ok (.aload_n 0, 1) := by decide +kernel
theorem dX4_firstWhoAsks_4 : decode cX4_firstWhoAsks 4 = .ok (.getfield 27, 3) := by decide +kernel
theorem dX4_firstWhoAsks_7 : decode cX4_firstWhoAsks 7 = .ok (.if_icmp .ge 31, 3) := by decide +kernel
theorem dX4_firstWhoAsks_10 : decode cX4_firstWhoAsks 10 = .ok (.aload_n 0, 1) := by decide +kernel
theorem dX4_firstWhoAsks_11 : decode cX4_firstWhoAsks 11 = .ok (.iload_n 1, 1) := by decide +kernel
theorem dX4_firstWhoAsks_12 : decode cX4_firstWhoAsks 12 = .ok (.invokevirtual 42, 3) := by decide +kernel
theorem dX4_firstWhoAsks_15 : decode cX4_firstWhoAsks 15 = .ok (.bipush (-9), 2) := by decide +kernel
theorem dX4_firstWhoAsks_17 : decode cX4_firstWhoAsks 17 = .ok (.if_icmp .ne 15, 3) := by decide +kernel
theorem dX4_firstWhoAsks_20 : decode cX4_firstWhoAsks 20 = .ok (.aload_n 0, 1) := by decide +kernel
theorem dX4_firstWhoAsks_21 : decode cX4_firstWhoAsks 21 = .ok (.iload_n 1, 1) := by decide +kernel
theorem dX4_firstWhoAsks_22 : decode cX4_firstWhoAsks 22 = .ok (.invokevirtual 75, 3) := by decide +kernel
theorem dX4_firstWhoAsks_25 : decode cX4_firstWhoAsks 25 = .ok (.bipush (-9), 2) := by decide +kernel
theorem dX4_firstWhoAsks_27 : decode cX4_firstWhoAsks 27 = .ok (.if_icmp .eq 5, 3) := by decide +kernel
theorem dX4_firstWhoAsks_30 : decode cX4_firstWhoAsks 30 = .ok (.iload_n 1, 1) := by decide +kernel
theorem dX4_firstWhoAsks_31 : decode cX4_firstWhoAsks 31 = .ok (.ireturn, 1) := by decide +kernel
theorem dX4_firstWhoAsks_32 : decode cX4_firstWhoAsks 32 = .ok (.iinc 1 1, 3) := by decide +kernel
theorem dX4_firstWhoAsks_35 : decode cX4_firstWhoAsks 35 = .ok (.goto (-33), 3) := by decide +kernel
theorem dX4_firstWhoAsks_38 : decode cX4_firstWhoAsks 38 = .ok (.bipush (-9), 2) := by decide +kernel
theorem dX4_firstWhoAsks_40 : decode cX4_firstWhoAsks 40 = .ok (.ireturn, 1) := by decide +kernel
theorem dX4_dearest_0 : decode cX4_dearest 0 = .ok (.bipush (-9), 2) := by decide +kernel
theorem dX4_dearest_2 : decode cX4_dearest 2 = .ok (.istore_n 2, 1) := by decide +kernel
theorem dX4_dearest_3 : decode cX4_dearest 3 = .ok (.iconst 0, 1) := by decide +kernel
theorem dX4_dearest_4 : decode cX4_dearest 4 = .ok (.istore_n 3, 1) := by decide +kernel
theorem dX4_dearest_5 : decode cX4_dearest 5 = .ok (.iload_n 3, 1) := by decide +kernel
theorem dX4_dearest_6 : decode cX4_dearest 6 = .ok (.aload_n 0, 1) := by decide +kernel
theorem dX4_dearest_7 : decode cX4_dearest 7 = .ok (.getfield 31, 3) := by decide +kernel
theorem dX4_dearest_10 : decode cX4_dearest 10 = .ok (.if_icmp .ge 41, 3) := by decide +kernel
theorem dX4_dearest_13 : decode cX4_dearest 13 = .ok (.aload_n 0, 1) := by decide +kernel
theorem dX4_dearest_14 : decode cX4_dearest 14 = .ok (.iload_n 1, 1) := by decide +kernel
theorem dX4_dearest_15 : decode cX4_dearest 15 = .ok (.iload_n 3, 1) := by decide +kernel
theorem dX4_dearest_16 : decode cX4_dearest 16 = .ok (.invokevirtual 81, 3) := by decide +kernel
theorem dX4_dearest_19 : decode cX4_dearest 19 = .ok (.ifCond .ne 26, 3) := by decide +kernel
theorem dX4_dearest_22 : decode cX4_dearest 22 = .ok (.iload_n 2, 1) := by decide +kernel
theorem dX4_dearest_23 : decode cX4_dearest 23 = .ok (.bipush (-9), 2) := by decide +kernel
theorem dX4_dearest_25 : decode cX4_dearest 25 = .ok (.if_icmp .eq 18, 3) := by decide +kernel
theorem dX4_dearest_28 : decode cX4_dearest 28 = .ok (.aload_n 0, 1) := by decide +kernel
theorem dX4_dearest_29 : decode cX4_dearest 29 = .ok (.iload_n 1, 1) := by decide +kernel
theorem dX4_dearest_30 : decode cX4_dearest 30 = .ok (.iload_n 3, 1) := by decide +kernel
theorem dX4_dearest_31 : decode cX4_dearest 31 = .ok (.invokevirtual 46, 3) := by decide +kernel
theorem dX4_dearest_34 : decode cX4_dearest 34 = .ok (.aload_n 0, 1) := by decide +kernel
theorem dX4_dearest_35 : decode cX4_dearest 35 = .ok (.iload_n 1, 1) := by decide +kernel
theorem dX4_dearest_36 : decode cX4_dearest 36 = .ok (.iload_n 2, 1) := by decide +kernel
theorem dX4_dearest_37 : decode cX4_dearest 37 = .ok (.invokevirtual 46, 3) := by decide +kernel
theorem dX4_dearest_40 : decode cX4_dearest 40 = .ok (.if_icmp .ge 5, 3) := by decide +kernel
theorem dX4_dearest_43 : decode cX4_dearest 43 = .ok (.iload_n 3, 1) := by decide +kernel
theorem dX4_dearest_44 : decode cX4_dearest 44 = .ok (.istore_n 2, 1) := by decide +kernel
theorem dX4_dearest_45 : decode cX4_dearest 45 = .ok (.iinc 3 1, 3) := by decide +kernel
theorem dX4_dearest_48 : decode cX4_dearest 48 = .ok (.goto (-43), 3) := by decide +kernel
theorem dX4_dearest_51 : decode cX4_dearest 51 = .ok (.iload_n 2, 1) := by decide +kernel
theorem dX4_dearest_52 : decode cX4_dearest 52 = .ok (.ireturn, 1) := by decide +kernel
theorem dX4_ask_0 : decode cX4_ask 0 = .ok (.aload_n 0, 1) := by decide +kernel
theorem dX4_ask_1 : decode cX4_ask 1 = .ok (.iload_n 2, 1) := by decide +kernel
theorem dX4_ask_2 : decode cX4_ask 2 = .ok (.invokevirtual 84, 3) := by decide +kernel
theorem dX4_ask_5 : decode cX4_ask 5 = .ok (.istore_n 3, 1) := by decide +kernel
theorem dX4_ask_6 : decode cX4_ask 6 = .ok (.iload_n 3, 1) := by decide +kernel
theorem dX4_ask_7 : decode cX4_ask 7 = .ok (.bipush (-9), 2) := by decide +kernel
theorem dX4_ask_9 : decode cX4_ask 9 = .ok (.if_icmp .ne 12, 3) := by decide +kernel
theorem dX4_ask_12 : decode cX4_ask 12 = .ok (.aload_n 0, 1) := by decide +kernel
theorem dX4_ask_13 : decode cX4_ask 13 = .ok (.iload_n 1, 1) := by decide +kernel
theorem dX4_ask_14 : decode cX4_ask 14 = .ok (.iload_n 2, 1) := by decide +kernel
theorem dX4_ask_15 : decode cX4_ask 15 = .ok (.invokevirtual 61, 3) := by decide +kernel
theorem dX4_ask_18 : decode cX4_ask 18 = .ok (.goto 41, 3) := by decide +kernel
theorem dX4_ask_21 : decode cX4_ask 21 = .ok (.aload_n 0, 1) := by decide +kernel
theorem dX4_ask_22 : decode cX4_ask 22 = .ok (.iload_n 2, 1) := by decide +kernel
theorem dX4_ask_23 : decode cX4_ask 23 = .ok (.iload_n 1, 1) := by decide +kernel
theorem dX4_ask_24 : decode cX4_ask 24 = .ok (.iload_n 3, 1) := by decide +kernel
theorem dX4_ask_25 : decode cX4_ask 25 = .ok (.invokevirtual 87, 3) := by decide +kernel
theorem dX4_ask_28 : decode cX4_ask 28 = .ok (.ifCond .eq 25, 3) := by decide +kernel
theorem dX4_ask_31 : decode cX4_ask 31 = .ok (.aload_n 0, 1) := by decide +kernel
theorem dX4_ask_32 : decode cX4_ask 32 = .ok (.iload_n 3, 1) := by decide +kernel
theorem dX4_ask_33 : decode cX4_ask 33 = .ok (.bipush (-9), 2) := by decide +kernel
theorem dX4_ask_35 : decode cX4_ask 35 = .ok (.invokevirtual 61, 3) := by decide +kernel
theorem dX4_ask_38 : decode cX4_ask 38 = .ok (.aload_n 0, 1) := by decide +kernel
theorem dX4_ask_39 : decode cX4_ask 39 = .ok (.iload_n 3, 1) := by decide +kernel
theorem dX4_ask_40 : decode cX4_ask 40 = .ok (.iload_n 2, 1) := by decide +kernel
theorem dX4_ask_41 : decode cX4_ask 41 = .ok (.invokevirtual 90, 3) := by decide +kernel
theorem dX4_ask_44 : decode cX4_ask 44 = .ok (.aload_n 0, 1) := by decide +kernel
theorem dX4_ask_45 : decode cX4_ask 45 = .ok (.iload_n 1, 1) := by decide +kernel
theorem dX4_ask_46 : decode cX4_ask 46 = .ok (.iload_n 2, 1) := by decide +kernel
theorem dX4_ask_47 : decode cX4_ask 47 = .ok (.invokevirtual 61, 3) := by decide +kernel
theorem dX4_ask_50 : decode cX4_ask 50 = .ok (.goto 9, 3) := by decide +kernel
theorem dX4_ask_53 : decode cX4_ask 53 = .ok (.aload_n 0, 1) := by decide +kernel
theorem dX4_ask_54 : decode cX4_ask 54 = .ok (.iload_n 1, 1) := by decide +kernel
theorem dX4_ask_55 : decode cX4_ask 55 = .ok (.iload_n 2, 1) := by decide +kernel
theorem dX4_ask_56 : decode cX4_ask 56 = .ok (.invokevirtual 90, 3) := by decide +kernel
theorem dX4_ask_59 : decode cX4_ask 59 = .ok (.return_, 1) := by decide +kernel
theorem dX4_throwerWith_0 : decode cX4_throwerWith 0 = .ok (.iconst 0, 1) := by decide +kernel
theorem dX4_throwerWith_1 : decode cX4_throwerWith 1 = .ok (.istore_n 2, 1) := by decide +kernel
theorem dX4_throwerWith_2 : decode cX4_throwerWith 2 = .ok (.iload_n 2, 1) := by decide +kernel
theorem dX4_throwerWith_3 : decode cX4_throwerWith 3 = .ok (.aload_n 0, 1) := by decide +kernel
theorem dX4_throwerWith_4 : decode cX4_throwerWith 4 = .ok (.getfield 27, 3) := by decide +kernel
theorem dX4_throwerWith_7 : decode cX4_throwerWith 7 = .ok (.if_icmp .ge 20, 3) := by decide +kernel
theorem dX4_throwerWith_10 : decode cX4_throwerWith 10 = .ok (.aload_n 0, 1) := by decide +kernel
theorem dX4_throwerWith_11 : decode cX4_throwerWith 11 = .ok (.iload_n 2, 1) := by decide +kernel
theorem dX4_throwerWith_12 : decode cX4_throwerWith 12 = .ok (.invokevirtual 42, 3) := by decide +kernel
theorem dX4_throwerWith_15 : decode cX4_throwerWith 15 = .ok (.iload_n 1, 1) := by decide +kernel
theorem dX4_throwerWith_16 : decode cX4_throwerWith 16 = .ok (.if_icmp .ne 5, 3) := by decide +kernel
theorem dX4_throwerWith_19 : decode cX4_throwerWith 19 = .ok (.iload_n 2, 1) := by decide +kernel
theorem dX4_throwerWith_20 : decode cX4_throwerWith 20 = .ok (.ireturn, 1) := by decide +kernel
theorem dX4_throwerWith_21 : decode cX4_throwerWith 21 = .ok (.iinc 2 1, 3) := by decide +kernel
theorem dX4_throwerWith_24 : decode cX4_throwerWith 24 = .ok (.goto (-22), 3) := by decide +kernel
theorem dX4_throwerWith_27 : decode cX4_throwerWith 27 = .ok (.bipush (-9), 2) := by decide +kernel
theorem dX4_throwerWith_29 : decode cX4_throwerWith 29 = .ok (.ireturn, 1) := by decide +kernel
theorem dX4_wouldRather_0 : decode cX4_wouldRather 0 = .ok (.aload_n 0, 1) := by decide +kernel
theorem dX4_wouldRather_1 : decode cX4_wouldRather 1 = .ok (.iload_n 2, 1) := by decide +kernel
theorem dX4_wouldRather_2 : decode cX4_wouldRather 2 = .ok (.iload_n 1, 1) := by decide +kernel
theorem dX4_wouldRather_3 : decode cX4_wouldRather 3 = .ok (.invokevirtual 46, 3) := by decide +kernel
theorem dX4_wouldRather_6 : decode cX4_wouldRather 6 = .ok (.istore 4, 2) := by decide +kernel
theorem dX4_wouldRather_8 : decode cX4_wouldRather 8 = .ok (.aload_n 0, 1) := by decide +kernel
theorem dX4_wouldRather_9 : decode cX4_wouldRather 9 = .ok (.iload_n 3, 1) := by decide +kernel
theorem dX4_wouldRather_10 : decode cX4_wouldRather 10 = .ok (.iload_n 1, 1) := by decide +kernel
theorem dX4_wouldRather_11 : decode cX4_wouldRather 11 = .ok (.invokevirtual 46, 3) := by decide +kernel
theorem dX4_wouldRather_14 : decode cX4_wouldRather 14 = .ok (.istore 5, 2) := by decide +kernel
theorem dX4_wouldRather_16 : decode cX4_wouldRather 16 = .ok (.iload 4, 2) := by decide +kernel
theorem dX4_wouldRather_18 : decode cX4_wouldRather 18 = .ok (.iload 5, 2) := by decide +kernel
theorem dX4_wouldRather_20 : decode cX4_wouldRather 20 = .ok (.if_icmp .lt 15, 3) := by decide +kernel
theorem dX4_wouldRather_23 : decode cX4_wouldRather 23 = .ok (.iload 4, 2) := by decide +kernel
theorem dX4_wouldRather_25 : decode cX4_wouldRather 25 = .ok (.iload 5, 2) := by decide +kernel
theorem dX4_wouldRather_27 : decode cX4_wouldRather 27 = .ok (.if_icmp .ne 12, 3) := by decide +kernel
theorem dX4_wouldRather_30 : decode cX4_wouldRather 30 = .ok (.iload_n 2, 1) := by decide +kernel
theorem dX4_wouldRather_31 : decode cX4_wouldRather 31 = .ok (.iload_n 3, 1) := by decide +kernel
theorem dX4_wouldRather_32 : decode cX4_wouldRather 32 = .ok (.if_icmp .ge 7, 3) := by decide +kernel
theorem dX4_wouldRather_35 : decode cX4_wouldRather 35 = .ok (.iconst 1, 1) := by decide +kernel
theorem dX4_wouldRather_36 : decode cX4_wouldRather 36 = .ok (.goto 4, 3) := by decide +kernel
theorem dX4_wouldRather_39 : decode cX4_wouldRather 39 = .ok (.iconst 0, 1) := by decide +kernel
theorem dX4_wouldRather_40 : decode cX4_wouldRather 40 = .ok (.ireturn, 1) := by decide +kernel
theorem dX4_isRefused_0 : decode cX4_isRefused 0 = .ok (.iload_n 1, 1) := by decide +kernel
theorem dX4_isRefused_1 : decode cX4_isRefused 1 = .ok (.ifCond .lt 26, 3) := by decide +kernel
theorem dX4_isRefused_4 : decode cX4_isRefused 4 = .ok (.iload_n 1, 1) := by decide +kernel
theorem dX4_isRefused_5 : decode cX4_isRefused 5 = .ok (.aload_n 0, 1) := by decide +kernel
theorem dX4_isRefused_6 : decode cX4_isRefused 6 = .ok (.getfield 21, 3) := by decide +kernel
theorem dX4_isRefused_9 : decode cX4_isRefused 9 = .ok (.arraylength, 1) := by decide +kernel
theorem dX4_isRefused_10 : decode cX4_isRefused 10 = .ok (.if_icmp .ge 17, 3) := by decide +kernel
theorem dX4_isRefused_13 : decode cX4_isRefused 13 = .ok (.aload_n 0, 1) := by decide +kernel
theorem dX4_isRefused_14 : decode cX4_isRefused 14 = .ok (.getfield 21, 3) := by decide +kernel
theorem dX4_isRefused_17 : decode cX4_isRefused 17 = .ok (.iload_n 1, 1) := by decide +kernel
theorem dX4_isRefused_18 : decode cX4_isRefused 18 = .ok (.iaload, 1) := by decide +kernel
theorem dX4_isRefused_19 : decode cX4_isRefused 19 = .ok (.iload_n 2, 1) := by decide +kernel
theorem dX4_isRefused_20 : decode cX4_isRefused 20 = .ok (.ishr, 1) := by decide +kernel
theorem dX4_isRefused_21 : decode cX4_isRefused 21 = .ok (.iconst 1, 1) := by decide +kernel
theorem dX4_isRefused_22 : decode cX4_isRefused 22 = .ok (.iand, 1) := by decide +kernel
theorem dX4_isRefused_23 : decode cX4_isRefused 23 = .ok (.iconst 1, 1) := by decide +kernel
theorem dX4_isRefused_24 : decode cX4_isRefused 24 = .ok (.if_icmp .ne 7, 3) := by decide +kernel
theorem dX4_isRefused_27 : decode cX4_isRefused 27 = .ok (.iconst 1, 1) := by decide +kernel
theorem dX4_isRefused_28 : decode cX4_isRefused 28 = .ok (.goto 4, 3) := by decide +kernel
theorem dX4_isRefused_31 : decode cX4_isRefused 31 = .ok (.iconst 0, 1) := by decide +kernel
theorem dX4_isRefused_32 : decode cX4_isRefused 32 = .ok (.ireturn, 1) := by decide +kernel
theorem dX4_refuse_0 : decode cX4_refuse 0 = .ok (.iload_n 1, 1) := by decide +kernel
theorem dX4_refuse_1 : decode cX4_refuse 1 = .ok (.ifCond .lt 24, 3) := by decide +kernel
theorem dX4_refuse_4 : decode cX4_refuse 4 = .ok (.iload_n 1, 1) := by decide +kernel
theorem dX4_refuse_5 : decode cX4_refuse 5 = .ok (.aload_n 0, 1) := by decide +kernel
theorem dX4_refuse_6 : decode cX4_refuse 6 = .ok (.getfield 21, 3) := by decide +kernel
theorem dX4_refuse_9 : decode cX4_refuse 9 = .ok (.arraylength, 1) := by decide +kernel
theorem dX4_refuse_10 : decode cX4_refuse 10 = .ok (.if_icmp .ge 15, 3) := by decide +kernel
theorem dX4_refuse_13 : decode cX4_refuse 13 = .ok (.aload_n 0, 1) := by decide +kernel
theorem dX4_refuse_14 : decode cX4_refuse 14 = .ok (.getfield 21, 3) := by decide +kernel
theorem dX4_refuse_17 : decode cX4_refuse 17 = .ok (.iload_n 1, 1) := by decide +kernel
theorem dX4_refuse_18 : decode cX4_refuse 18 = .ok (.dup2, 1) := by decide +kernel
theorem dX4_refuse_19 : decode cX4_refuse 19 = .ok (.iaload, 1) := by decide +kernel
theorem dX4_refuse_20 : decode cX4_refuse 20 = .ok (.iconst 1, 1) := by decide +kernel
theorem dX4_refuse_21 : decode cX4_refuse 21 = .ok (.iload_n 2, 1) := by decide +kernel
theorem dX4_refuse_22 : decode cX4_refuse 22 = .ok (.ishl, 1) := by decide +kernel
theorem dX4_refuse_23 : decode cX4_refuse 23 = .ok (.ior, 1) := by decide +kernel
theorem dX4_refuse_24 : decode cX4_refuse 24 = .ok (.iastore, 1) := by decide +kernel
theorem dX4_refuse_25 : decode cX4_refuse 25 = .ok (.return_, 1) := by decide +kernel
theorem dX5_init_0 : decode cX5_init 0 = .ok (.aload_n 0, 1) := by decide +kernel
theorem dX5_init_1 : decode cX5_init 1 = .ok (.invokespecial 3, 3) := by decide +kernel
theorem dX5_init_4 : decode cX5_init 4 = .ok (.aload_n 0, 1) := by decide +kernel
theorem dX5_init_5 : decode cX5_init 5 = .ok (.bipush 8, 2) := by decide +kernel
theorem dX5_init_7 : decode cX5_init 7 = .ok (.newarray .int, 2) := by decide +kernel
theorem dX5_init_9 : decode cX5_init 9 = .ok (.putfield 9, 3) := by decide +kernel
theorem dX5_init_12 : decode cX5_init 12 = .ok (.aload_n 0, 1) := by decide +kernel
theorem dX5_init_13 : decode cX5_init 13 = .ok (.bipush 8, 2) := by decide +kernel
theorem dX5_init_15 : decode cX5_init 15 = .ok (.newarray .int, 2) := by decide +kernel
theorem dX5_init_17 : decode cX5_init 17 = .ok (.putfield 15, 3) := by decide +kernel
theorem dX5_init_20 : decode cX5_init 20 = .ok (.aload_n 0, 1) := by decide +kernel
theorem dX5_init_21 : decode cX5_init 21 = .ok (.bipush 8, 2) := by decide +kernel
theorem dX5_init_23 : decode cX5_init 23 = .ok (.newarray .int, 2) := by decide +kernel
theorem dX5_init_25 : decode cX5_init 25 = .ok (.putfield 18, 3) := by decide +kernel
theorem dX5_init_28 : decode cX5_init 28 = .ok (.return_, 1) := by decide +kernel
theorem dX5_isFull_0 : decode cX5_isFull 0 = .ok (.aload_n 0, 1) := by decide +kernel
theorem dX5_isFull_1 : decode cX5_isFull 1 = .ok (.getfield 21, 3) := by decide +kernel
theorem dX5_isFull_4 : decode cX5_isFull 4 = .ok (.bipush 8, 2) := by decide +kernel
theorem dX5_isFull_6 : decode cX5_isFull 6 = .ok (.if_icmp .lt 7, 3) := by decide +kernel
theorem dX5_isFull_9 : decode cX5_isFull 9 = .ok (.iconst 1, 1) := by decide +kernel
theorem dX5_isFull_10 : decode cX5_isFull 10 = .ok (.goto 4, 3) := by decide +kernel
theorem dX5_isFull_13 : decode cX5_isFull 13 = .ok (.iconst 0, 1) := by decide +kernel
theorem dX5_isFull_14 : decode cX5_isFull 14 = .ok (.ireturn, 1) := by decide +kernel
theorem dX5_take_0 : decode cX5_take 0 = .ok (.aload_n 0, 1) := by decide +kernel
theorem dX5_take_1 : decode cX5_take 1 = .ok (.getfield 21, 3) := by decide +kernel
theorem dX5_take_4 : decode cX5_take 4 = .ok (.istore 4, 2) := by decide +kernel
theorem dX5_take_6 : decode cX5_take 6 = .ok (.iload 4, 2) := by decide +kernel
theorem dX5_take_8 : decode cX5_take 8 = .ok (.ifCond .lt 44, 3) := by decide +kernel
theorem dX5_take_11 : decode cX5_take 11 = .ok (.iload 4, 2) := by decide +kernel
theorem dX5_take_13 : decode cX5_take 13 = .ok (.bipush 8, 2) := by decide +kernel
theorem dX5_take_15 : decode cX5_take 15 = .ok (.if_icmp .ge 37, 3) := by decide +kernel
theorem dX5_take_18 : decode cX5_take 18 = .ok (.aload_n 0, 1) := by decide +kernel
theorem dX5_take_19 : decode cX5_take 19 = .ok (.getfield 9, 3) := by decide +kernel
theorem dX5_take_22 : decode cX5_take 22 = .ok (.iload 4, 2) := by decide +kernel
theorem dX5_take_24 : decode cX5_take 24 = .ok (.iload_n 1, 1) := by decide +kernel
theorem dX5_take_25 : decode cX5_take 25 = .ok (.iastore, 1) := by decide +kernel
theorem dX5_take_26 : decode cX5_take 26 = .ok (.aload_n 0, 1) := by decide +kernel
theorem dX5_take_27 : decode cX5_take 27 = .ok (.getfield 15, 3) := by decide +kernel
theorem dX5_take_30 : decode cX5_take 30 = .ok (.iload 4, 2) := by decide +kernel
theorem dX5_take_32 : decode cX5_take 32 = .ok (.iload_n 2, 1) := by decide +kernel
theorem dX5_take_33 : decode cX5_take 33 = .ok (.iastore, 1) := by decide +kernel
theorem dX5_take_34 : decode cX5_take 34 = .ok (.aload_n 0, 1) := by decide +kernel
theorem dX5_take_35 : decode cX5_take 35 = .ok (.getfield 18, 3) := by decide +kernel
theorem dX5_take_38 : decode cX5_take 38 = .ok (.iload 4, 2) := by decide +kernel
theorem dX5_take_40 : decode cX5_take 40 = .ok (.iload_n 3, 1) := by decide +kernel
theorem dX5_take_41 : decode cX5_take 41 = .ok (.iastore, 1) := by decide +kernel
theorem dX5_take_42 : decode cX5_take 42 = .ok (.aload_n 0, 1) := by decide +kernel
theorem dX5_take_43 : decode cX5_take 43 = .ok (.dup, 1) := by decide +kernel
theorem dX5_take_44 : decode cX5_take 44 = .ok (.getfield 21, 3) := by decide +kernel
theorem dX5_take_47 : decode cX5_take 47 = .ok (.iconst 1, 1) := by decide +kernel
theorem dX5_take_48 : decode cX5_take 48 = .ok (.iadd, 1) := by decide +kernel
theorem dX5_take_49 : decode cX5_take 49 = .ok (.putfield 21, 3) := by decide +kernel
theorem dX5_take_52 : decode cX5_take 52 = .ok (.iload 4, 2) := by decide +kernel
theorem dX5_take_54 : decode cX5_take 54 = .ok (.ireturn, 1) := by decide +kernel
theorem dX5_throwerAt_0 : decode cX5_throwerAt 0 = .ok (.iload_n 1, 1) := by decide +kernel
theorem dX5_throwerAt_1 : decode cX5_throwerAt 1 = .ok (.ifCond .lt 12, 3) := by decide +kernel
theorem dX5_throwerAt_4 : decode cX5_throwerAt 4 = .ok (.iload_n 1, 1) := by decide +kernel
theorem dX5_throwerAt_5 : decode cX5_throwerAt 5 = .ok (.aload_n 0, 1) := by decide +kernel
theorem dX5_throwerAt_6 : decode cX5_throwerAt 6 = .ok (.getfield 9, 3) := by decide +kernel
theorem dX5_throwerAt_9 : decode cX5_throwerAt 9 = .ok (.arraylength, 1) := by decide +kernel
theorem dX5_throwerAt_10 : decode cX5_throwerAt 10 = .ok (.if_icmp .lt 8, 3) := by decide +kernel
theorem dX5_throwerAt_13 : decode cX5_throwerAt 13 = .ok (.bipush (-9), 2) := by decide +kernel
theorem dX5_throwerAt_15 : decode cX5_throwerAt 15 = .ok (.goto 9, 3) := by decide +kernel
theorem dX5_throwerAt_18 : decode cX5_throwerAt 18 = .ok (.aload_n 0, 1) := by decide +kernel
theorem dX5_throwerAt_19 : decode cX5_throwerAt 19 = .ok (.getfield 9, 3) := by decide +kernel
theorem dX5_throwerAt_22 : decode cX5_throwerAt 22 = .ok (.iload_n 1, 1) := by decide +kernel
theorem dX5_throwerAt_23 : decode cX5_throwerAt 23 = .ok (.iaload, 1) := by decide +kernel
theorem dX5_throwerAt_24 : decode cX5_throwerAt 24 = .ok (.ireturn, 1) := by decide +kernel
theorem dX5_girlAt_0 : decode cX5_girlAt 0 = .ok (.iload_n 1, 1) := by decide +kernel
theorem dX5_girlAt_1 : decode cX5_girlAt 1 = .ok (.ifCond .lt 12, 3) := by decide +kernel
theorem dX5_girlAt_4 : decode cX5_girlAt 4 = .ok (.iload_n 1, 1) := by decide +kernel
theorem dX5_girlAt_5 : decode cX5_girlAt 5 = .ok (.aload_n 0, 1) := by decide +kernel
theorem dX5_girlAt_6 : decode cX5_girlAt 6 = .ok (.getfield 15, 3) := by decide +kernel
theorem dX5_girlAt_9 : decode cX5_girlAt 9 = .ok (.arraylength, 1) := by decide +kernel
theorem dX5_girlAt_10 : decode cX5_girlAt 10 = .ok (.if_icmp .lt 8, 3) := by decide +kernel
theorem dX5_girlAt_13 : decode cX5_girlAt 13 = .ok (.bipush (-9), 2) := by decide +kernel
theorem dX5_girlAt_15 : decode cX5_girlAt 15 = .ok (.goto 9, 3) := by decide +kernel
theorem dX5_girlAt_18 : decode cX5_girlAt 18 = .ok (.aload_n 0, 1) := by decide +kernel
theorem dX5_girlAt_19 : decode cX5_girlAt 19 = .ok (.getfield 15, 3) := by decide +kernel
theorem dX5_girlAt_22 : decode cX5_girlAt 22 = .ok (.iload_n 1, 1) := by decide +kernel
theorem dX5_girlAt_23 : decode cX5_girlAt 23 = .ok (.iaload, 1) := by decide +kernel
theorem dX5_girlAt_24 : decode cX5_girlAt 24 = .ok (.ireturn, 1) := by decide +kernel
theorem dX5_nearAt_0 : decode cX5_nearAt 0 = .ok (.iload_n 1, 1) := by decide +kernel
theorem dX5_nearAt_1 : decode cX5_nearAt 1 = .ok (.ifCond .lt 12, 3) := by decide +kernel
theorem dX5_nearAt_4 : decode cX5_nearAt 4 = .ok (.iload_n 1, 1) := by decide +kernel
theorem dX5_nearAt_5 : decode cX5_nearAt 5 = .ok (.aload_n 0, 1) := by decide +kernel
theorem dX5_nearAt_6 : decode cX5_nearAt 6 = .ok (.getfield 18, 3) := by decide +kernel
theorem dX5_nearAt_9 : decode cX5_nearAt 9 = .ok (.arraylength, 1) := by decide +kernel
theorem dX5_nearAt_10 : decode cX5_nearAt 10 = .ok (.if_icmp .lt 8, 3) := by decide +kernel
theorem dX5_nearAt_13 : decode cX5_nearAt 13 = .ok (.bipush (-9), 2) := by decide +kernel
theorem dX5_nearAt_15 : decode cX5_nearAt 15 = .ok (.goto 9, 3) := by decide +kernel
theorem dX5_nearAt_18 : decode cX5_nearAt 18 = .ok (.aload_n 0, 1) := by decide +kernel
theorem dX5_nearAt_19 : decode cX5_nearAt 19 = .ok (.getfield 18, 3) := by decide +kernel
theorem dX5_nearAt_22 : decode cX5_nearAt 22 = .ok (.iload_n 1, 1) := by decide +kernel
theorem dX5_nearAt_23 : decode cX5_nearAt 23 = .ok (.iaload, 1) := by decide +kernel
theorem dX5_nearAt_24 : decode cX5_nearAt 24 = .ok (.ireturn, 1) := by decide +kernel
theorem dX6_init_0 : decode cX6_init 0 = .ok (.aload_n 0, 1) := by decide +kernel
theorem dX6_init_1 : decode cX6_init 1 = .ok (.invokespecial 3, 3) := by decide +kernel
theorem dX6_init_4 : decode cX6_init 4 = .ok (.aload_n 0, 1) := by decide +kernel
theorem dX6_init_5 : decode cX6_init 5 = .ok (.iload_n 1, 1) := by decide +kernel
theorem dX6_init_6 : decode cX6_init 6 = .ok (.putfield 9, 3) := by decide +kernel
theorem dX6_init_9 : decode cX6_init 9 = .ok (.aload_n 0, 1) := by decide +kernel
theorem dX6_init_10 : decode cX6_init 10 = .ok (.iload_n 2, 1) := by decide +kernel
theorem dX6_init_11 : decode cX6_init 11 = .ok (.putfield 15, 3) := by decide +kernel
theorem dX6_init_14 : decode cX6_init 14 = .ok (.return_, 1) := by decide +kernel
theorem dX6_kind_0 : decode cX6_kind 0 = .ok (.iconst 0, 1) := by decide +kernel
theorem dX6_kind_1 : decode cX6_kind 1 = .ok (.ireturn, 1) := by decide +kernel
theorem dX6_reach_0 : decode cX6_reach 0 = .ok (.aload_n 0, 1) := by decide +kernel
theorem dX6_reach_1 : decode cX6_reach 1 = .ok (.invokevirtual 18, 3) := by decide +kernel
theorem dX6_reach_4 : decode cX6_reach 4 = .ok (.aload_n 0, 1) := by decide +kernel
theorem dX6_reach_5 : decode cX6_reach 5 = .ok (.getfield 15, 3) := by decide +kernel
theorem dX6_reach_8 : decode cX6_reach 8 = .ok (.invokestatic 22, 3) := by decide +kernel
theorem dX6_reach_11 : decode cX6_reach 11 = .ok (.ireturn, 1) := by decide +kernel
theorem dX6_telling_0 : decode cX6_telling 0 = .ok (.aload_n 0, 1) := by decide +kernel
theorem dX6_telling_1 : decode cX6_telling 1 = .ok (.aload_n 1, 1) := by decide +kernel
theorem dX6_telling_2 : decode cX6_telling 2 = .ok (.invokevirtual 26, 3) := by decide +kernel
theorem dX6_telling_5 : decode cX6_telling 5 = .ok (.ireturn, 1) := by decide +kernel
theorem dX6_plainTelling_0 : decode cX6_plainTelling 0 = .ok (.aload_n 1, 1) := by decide +kernel
theorem dX6_plainTelling_1 : decode cX6_plainTelling 1 = .ok (.iconst 1, 1) := by decide +kernel
theorem dX6_plainTelling_2 : decode cX6_plainTelling 2 = .ok (.invokevirtual 30, 3) := by decide +kernel
theorem dX6_plainTelling_5 : decode cX6_plainTelling 5 = .ok (.aload_n 0, 1) := by decide +kernel
theorem dX6_plainTelling_6 : decode cX6_plainTelling 6 = .ok (.getfield 15, 3) := by decide +kernel
theorem dX6_plainTelling_9 : decode cX6_plainTelling 9 = .ok (.ireturn, 1) := by decide +kernel
theorem dX6_cheering_0 : decode cX6_cheering 0 = .ok (.aload_n 1, 1) := by decide +kernel
theorem dX6_cheering_1 : decode cX6_cheering 1 = .ok (.iconst 4, 1) := by decide +kernel
theorem dX6_cheering_2 : decode cX6_cheering 2 = .ok (.invokevirtual 30, 3) := by decide +kernel
theorem dX6_cheering_5 : decode cX6_cheering 5 = .ok (.aload_n 0, 1) := by decide +kernel
theorem dX6_cheering_6 : decode cX6_cheering 6 = .ok (.getfield 9, 3) := by decide +kernel
theorem dX6_cheering_9 : decode cX6_cheering 9 = .ok (.ireturn, 1) := by decide +kernel
theorem dX7_init_0 : decode cX7_init 0 = .ok (.aload_n 0, 1) := by decide +kernel
theorem dX7_init_1 : decode cX7_init 1 = .ok (.invokespecial 3, 3) := by decide +kernel
theorem dX7_init_4 : decode cX7_init 4 = .ok (.aload_n 0, 1) := by decide +kernel
theorem dX7_init_5 : decode cX7_init 5 = .ok (.iconst (-1), 1) := by decide +kernel
theorem dX7_init_6 : decode cX7_init 6 = .ok (.putfield 11, 3) := by decide +kernel
theorem dX7_init_9 : decode cX7_init 9 = .ok (.aload_n 0, 1) := by decide +kernel
theorem dX7_init_10 : decode cX7_init 10 = .ok (.bipush 60, 2) := by decide +kernel
theorem dX7_init_12 : decode cX7_init 12 = .ok (.newarray .int, 2) := by decide +kernel
theorem dX7_init_14 : decode cX7_init 14 = .ok (.putfield 15, 3) := by decide +kernel
theorem dX7_init_17 : decode cX7_init 17 = .ok (.return_, 1) := by decide +kernel
theorem dX7_hasNothing_0 : decode cX7_hasNothing 0 = .ok (.aload_n 0, 1) := by decide +kernel
theorem dX7_hasNothing_1 : decode cX7_hasNothing 1 = .ok (.getfield 11, 3) := by decide +kernel
theorem dX7_hasNothing_4 : decode cX7_hasNothing 4 = .ok (.iconst (-1), 1) := by decide +kernel
theorem dX7_hasNothing_5 : decode cX7_hasNothing 5 = .ok (.if_icmp .ne 7, 3) := by decide +kernel
theorem dX7_hasNothing_8 : decode cX7_hasNothing 8 = .ok (.iconst 1, 1) := by decide +kernel
theorem dX7_hasNothing_9 : decode cX7_hasNothing 9 = .ok (.goto 4, 3) := by decide +kernel
theorem dX7_hasNothing_12 : decode cX7_hasNothing 12 = .ok (.iconst 0, 1) := by decide +kernel
theorem dX7_hasNothing_13 : decode cX7_hasNothing 13 = .ok (.ireturn, 1) := by decide +kernel
theorem dX7_forget_0 : decode cX7_forget 0 = .ok (.aload_n 0, 1) := by decide +kernel
theorem dX7_forget_1 : decode cX7_forget 1 = .ok (.iconst (-1), 1) := by decide +kernel
theorem dX7_forget_2 : decode cX7_forget 2 = .ok (.putfield 11, 3) := by decide +kernel
theorem dX7_forget_5 : decode cX7_forget 5 = .ok (.aload_n 0, 1) := by decide +kernel
theorem dX7_forget_6 : decode cX7_forget 6 = .ok (.iconst 0, 1) := by decide +kernel
theorem dX7_forget_7 : decode cX7_forget 7 = .ok (.putfield 19, 3) := by decide +kernel
theorem dX7_forget_10 : decode cX7_forget 10 = .ok (.return_, 1) := by decide +kernel
theorem dX7_renew_0 : decode cX7_renew 0 = .ok (.aload_n 0, 1) := by decide +kernel
theorem dX7_renew_1 : decode cX7_renew 1 = .ok (.iload_n 1, 1) := by decide +kernel
theorem dX7_renew_2 : decode cX7_renew 2 = .ok (.putfield 11, 3) := by decide +kernel
theorem dX7_renew_5 : decode cX7_renew 5 = .ok (.aload_n 0, 1) := by decide +kernel
theorem dX7_renew_6 : decode cX7_renew 6 = .ok (.iload_n 2, 1) := by decide +kernel
theorem dX7_renew_7 : decode cX7_renew 7 = .ok (.putfield 19, 3) := by decide +kernel
theorem dX7_renew_10 : decode cX7_renew 10 = .ok (.iconst 0, 1) := by decide +kernel
theorem dX7_renew_11 : decode cX7_renew 11 = .ok (.istore_n 3, 1) := by decide +kernel
theorem dX7_renew_12 : decode cX7_renew 12 = .ok (.iload_n 3, 1) := by decide +kernel
theorem dX7_renew_13 : decode cX7_renew 13 = .ok (.aload_n 0, 1) := by decide +kernel
theorem dX7_renew_14 : decode cX7_renew 14 = .ok (.getfield 15, 3) := by decide +kernel
theorem dX7_renew_17 : decode cX7_renew 17 = .ok (.arraylength, 1) := by decide +kernel
theorem dX7_renew_18 : decode cX7_renew 18 = .ok (.if_icmp .ge 16, 3) := by decide +kernel
theorem dX7_renew_21 : decode cX7_renew 21 = .ok (.aload_n 0, 1) := by decide +kernel
theorem dX7_renew_22 : decode cX7_renew 22 = .ok (.getfield 15, 3) := by decide +kernel
theorem dX7_renew_25 : decode cX7_renew 25 = .ok (.iload_n 3, 1) := by decide +kernel
theorem dX7_renew_26 : decode cX7_renew 26 = .ok (.iconst 0, 1) := by decide +kernel
theorem dX7_renew_27 : decode cX7_renew 27 = .ok (.iastore, 1) := by decide +kernel
theorem dX7_renew_28 : decode cX7_renew 28 = .ok (.iinc 3 1, 3) := by decide +kernel
theorem dX7_renew_31 : decode cX7_renew 31 = .ok (.goto (-19), 3) := by decide +kernel
theorem dX7_renew_34 : decode cX7_renew 34 = .ok (.return_, 1) := by decide +kernel
theorem dX7_faultAs_0 : decode cX7_faultAs 0 = .ok (.aload_n 0, 1) := by decide +kernel
theorem dX7_faultAs_1 : decode cX7_faultAs 1 = .ok (.invokevirtual 22, 3) := by decide +kernel
theorem dX7_faultAs_4 : decode cX7_faultAs 4 = .ok (.ifCond .eq 5, 3) := by decide +kernel
theorem dX7_faultAs_7 : decode cX7_faultAs 7 = .ok (.iconst 1, 1) := by decide +kernel
theorem dX7_faultAs_8 : decode cX7_faultAs 8 = .ok (.ireturn, 1) := by decide +kernel
theorem dX7_faultAs_9 : decode cX7_faultAs 9 = .ok (.aload_n 0, 1) := by decide +kernel
theorem dX7_faultAs_10 : decode cX7_faultAs 10 = .ok (.getfield 11, 3) := by decide +kernel
theorem dX7_faultAs_13 : decode cX7_faultAs 13 = .ok (.iload_n 1, 1) := by decide +kernel
theorem dX7_faultAs_14 : decode cX7_faultAs 14 = .ok (.if_icmp .ne 7, 3) := by decide +kernel
theorem dX7_faultAs_17 : decode cX7_faultAs 17 = .ok (.iconst 0, 1) := by decide +kernel
theorem dX7_faultAs_18 : decode cX7_faultAs 18 = .ok (.goto 4, 3) := by decide +kernel
theorem dX7_faultAs_21 : decode cX7_faultAs 21 = .ok (.iconst 2, 1) := by decide +kernel
theorem dX7_faultAs_22 : decode cX7_faultAs 22 = .ok (.ireturn, 1) := by decide +kernel
theorem dX7_hasCell_0 : decode cX7_hasCell 0 = .ok (.iload_n 1, 1) := by decide +kernel
theorem dX7_hasCell_1 : decode cX7_hasCell 1 = .ok (.ifCond .lt 15, 3) := by decide +kernel
theorem dX7_hasCell_4 : decode cX7_hasCell 4 = .ok (.iload_n 1, 1) := by decide +kernel
theorem dX7_hasCell_5 : decode cX7_hasCell 5 = .ok (.aload_n 0, 1) := by decide +kernel
theorem dX7_hasCell_6 : decode cX7_hasCell 6 = .ok (.getfield 19, 3) := by decide +kernel
theorem dX7_hasCell_9 : decode cX7_hasCell 9 = .ok (.if_icmp .ge 7, 3) := by decide +kernel
theorem dX7_hasCell_12 : decode cX7_hasCell 12 = .ok (.iconst 1, 1) := by decide +kernel
theorem dX7_hasCell_13 : decode cX7_hasCell 13 = .ok (.goto 4, 3) := by decide +kernel
theorem dX7_hasCell_16 : decode cX7_hasCell 16 = .ok (.iconst 0, 1) := by decide +kernel
theorem dX7_hasCell_17 : decode cX7_hasCell 17 = .ok (.ireturn, 1) := by decide +kernel
theorem dX7_reaches_0 : decode cX7_reaches 0 = .ok (.iload_n 1, 1) := by decide +kernel
theorem dX7_reaches_1 : decode cX7_reaches 1 = .ok (.ifCond .lt 29, 3) := by decide +kernel
theorem dX7_reaches_4 : decode cX7_reaches 4 = .ok (.iload_n 1, 1) := by decide +kernel
theorem dX7_reaches_5 : decode cX7_reaches 5 = .ok (.aload_n 0, 1) := by decide +kernel
theorem dX7_reaches_6 : decode cX7_reaches 6 = .ok (.getfield 19, 3) := by decide +kernel
theorem dX7_reaches_9 : decode cX7_reaches 9 = .ok (.if_icmp .gt 21, 3) := by decide +kernel
theorem dX7_reaches_12 : decode cX7_reaches 12 = .ok (.iload_n 2, 1) := by decide +kernel
theorem dX7_reaches_13 : decode cX7_reaches 13 = .ok (.ifCond .lt 17, 3) := by decide +kernel
theorem dX7_reaches_16 : decode cX7_reaches 16 = .ok (.iload_n 2, 1) := by decide +kernel
theorem dX7_reaches_17 : decode cX7_reaches 17 = .ok (.aload_n 0, 1) := by decide +kernel
theorem dX7_reaches_18 : decode cX7_reaches 18 = .ok (.getfield 19, 3) := by decide +kernel
theorem dX7_reaches_21 : decode cX7_reaches 21 = .ok (.iload_n 1, 1) := by decide +kernel
theorem dX7_reaches_22 : decode cX7_reaches 22 = .ok (.isub, 1) := by decide +kernel
theorem dX7_reaches_23 : decode cX7_reaches 23 = .ok (.if_icmp .gt 7, 3) := by decide +kernel
theorem dX7_reaches_26 : decode cX7_reaches 26 = .ok (.iconst 1, 1) := by decide +kernel
theorem dX7_reaches_27 : decode cX7_reaches 27 = .ok (.goto 4, 3) := by decide +kernel
theorem dX7_reaches_30 : decode cX7_reaches 30 = .ok (.iconst 0, 1) := by decide +kernel
theorem dX7_reaches_31 : decode cX7_reaches 31 = .ok (.ireturn, 1) := by decide +kernel
theorem dX7_at_0 : decode cX7_at 0 = .ok (.aload_n 0, 1) := by decide +kernel
theorem dX7_at_1 : decode cX7_at 1 = .ok (.iload_n 1, 1) := by decide +kernel
theorem dX7_at_2 : decode cX7_at 2 = .ok (.invokevirtual 26, 3) := by decide +kernel
theorem dX7_at_5 : decode cX7_at 5 = .ok (.ifCond .eq 21, 3) := by decide +kernel
theorem dX7_at_8 : decode cX7_at 8 = .ok (.iload_n 1, 1) := by decide +kernel
theorem dX7_at_9 : decode cX7_at 9 = .ok (.aload_n 0, 1) := by decide +kernel
theorem dX7_at_10 : decode cX7_at 10 = .ok (.getfield 15, 3) := by decide +kernel
theorem dX7_at_13 : decode cX7_at 13 = .ok (.arraylength, 1) := by decide +kernel
theorem dX7_at_14 : decode cX7_at 14 = .ok (.if_icmp .ge 12, 3) := by decide +kernel
theorem dX7_at_17 : decode cX7_at 17 = .ok (.aload_n 0, 1) := by decide +kernel
theorem dX7_at_18 : decode cX7_at 18 = .ok (.getfield 15, 3) := by decide +kernel
theorem dX7_at_21 : decode cX7_at 21 = .ok (.iload_n 1, 1) := by decide +kernel
theorem dX7_at_22 : decode cX7_at 22 = .ok (.iaload, 1) := by decide +kernel
theorem dX7_at_23 : decode cX7_at 23 = .ok (.goto 4, 3) := by decide +kernel
theorem dX7_at_26 : decode cX7_at 26 = .ok (.iconst 0, 1) := by decide +kernel
theorem dX7_at_27 : decode cX7_at 27 = .ok (.ireturn, 1) := by decide +kernel
theorem dX7_store_0 : decode cX7_store 0 = .ok (.aload_n 0, 1) := by decide +kernel
theorem dX7_store_1 : decode cX7_store 1 = .ok (.iload_n 1, 1) := by decide +kernel
theorem dX7_store_2 : decode cX7_store 2 = .ok (.invokevirtual 26, 3) := by decide +kernel
theorem dX7_store_5 : decode cX7_store 5 = .ok (.ifCond .eq 23, 3) := by decide +kernel
theorem dX7_store_8 : decode cX7_store 8 = .ok (.iload_n 1, 1) := by decide +kernel
theorem dX7_store_9 : decode cX7_store 9 = .ok (.aload_n 0, 1) := by decide +kernel
theorem dX7_store_10 : decode cX7_store 10 = .ok (.getfield 15, 3) := by decide +kernel
theorem dX7_store_13 : decode cX7_store 13 = .ok (.arraylength, 1) := by decide +kernel
theorem dX7_store_14 : decode cX7_store 14 = .ok (.if_icmp .ge 14, 3) := by decide +kernel
theorem dX7_store_17 : decode cX7_store 17 = .ok (.aload_n 0, 1) := by decide +kernel
theorem dX7_store_18 : decode cX7_store 18 = .ok (.getfield 15, 3) := by decide +kernel
theorem dX7_store_21 : decode cX7_store 21 = .ok (.iload_n 1, 1) := by decide +kernel
theorem dX7_store_22 : decode cX7_store 22 = .ok (.aload_n 0, 1) := by decide +kernel
theorem dX7_store_23 : decode cX7_store 23 = .ok (.iload_n 2, 1) := by decide +kernel
theorem dX7_store_24 : decode cX7_store 24 = .ok (.invokevirtual 30, 3) := by decide +kernel
theorem dX7_store_27 : decode cX7_store 27 = .ok (.iastore, 1) := by decide +kernel
theorem dX7_store_28 : decode cX7_store 28 = .ok (.return_, 1) := by decide +kernel
theorem dX7_cut_0 : decode cX7_cut 0 = .ok (.aload_n 0, 1) := by decide +kernel
theorem dX7_cut_1 : decode cX7_cut 1 = .ok (.getfield 11, 3) := by decide +kernel
theorem dX7_cut_4 : decode cX7_cut 4 = .ok (.lookupswitch 34 #[(0, 28), (1, 31)], 28) := by decide +kernel
theorem dX7_cut_32 : decode cX7_cut 32 = .ok (.iload_n 1, 1) := by decide +kernel
theorem dX7_cut_33 : decode cX7_cut 33 = .ok (.i2b, 1) := by decide +kernel
theorem dX7_cut_34 : decode cX7_cut 34 = .ok (.ireturn, 1) := by decide +kernel
theorem dX7_cut_35 : decode cX7_cut 35 = .ok (.iload_n 1, 1) := by decide +kernel
theorem dX7_cut_36 : decode cX7_cut 36 = .ok (.i2s, 1) := by decide +kernel
theorem dX7_cut_37 : decode cX7_cut 37 = .ok (.ireturn, 1) := by decide +kernel
theorem dX7_cut_38 : decode cX7_cut 38 = .ok (.iload_n 1, 1) := by decide +kernel
theorem dX7_cut_39 : decode cX7_cut 39 = .ok (.ireturn, 1) := by decide +kernel
theorem dX7_takeCells_0 : decode cX7_takeCells 0 = .ok (.iload_n 2, 1) := by decide +kernel
theorem dX7_takeCells_1 : decode cX7_takeCells 1 = .ok (.iload_n 3, 1) := by decide +kernel
theorem dX7_takeCells_2 : decode cX7_takeCells 2 = .ok (.if_icmp .ge 39, 3) := by decide +kernel
theorem dX7_takeCells_5 : decode cX7_takeCells 5 = .ok (.iload 4, 2) := by decide +kernel
theorem dX7_takeCells_7 : decode cX7_takeCells 7 = .ok (.iconst 1, 1) := by decide +kernel
theorem dX7_takeCells_8 : decode cX7_takeCells 8 = .ok (.isub, 1) := by decide +kernel
theorem dX7_takeCells_9 : decode cX7_takeCells 9 = .ok (.istore 5, 2) := by decide +kernel
theorem dX7_takeCells_11 : decode cX7_takeCells 11 = .ok (.iload 5, 2) := by decide +kernel
theorem dX7_takeCells_13 : decode cX7_takeCells 13 = .ok (.ifCond .lt 25, 3) := by decide +kernel
theorem dX7_takeCells_16 : decode cX7_takeCells 16 = .ok (.aload_n 0, 1) := by decide +kernel
theorem dX7_takeCells_17 : decode cX7_takeCells 17 = .ok (.iload_n 3, 1) := by decide +kernel
theorem dX7_takeCells_18 : decode cX7_takeCells 18 = .ok (.iload 5, 2) := by decide +kernel
theorem dX7_takeCells_20 : decode cX7_takeCells 20 = .ok (.iadd, 1) := by decide +kernel
theorem dX7_takeCells_21 : decode cX7_takeCells 21 = .ok (.aload_n 1, 1) := by decide +kernel
theorem dX7_takeCells_22 : decode cX7_takeCells 22 = .ok (.iload_n 2, 1) := by decide +kernel
theorem dX7_takeCells_23 : decode cX7_takeCells 23 = .ok (.iload 5, 2) := by decide +kernel
theorem dX7_takeCells_25 : decode cX7_takeCells 25 = .ok (.iadd, 1) := by decide +kernel
theorem dX7_takeCells_26 : decode cX7_takeCells 26 = .ok (.invokevirtual 34, 3) := by decide +kernel
theorem dX7_takeCells_29 : decode cX7_takeCells 29 = .ok (.invokevirtual 37, 3) := by decide +kernel
theorem dX7_takeCells_32 : decode cX7_takeCells 32 = .ok (.iinc 5 (-1), 3) := by decide +kernel
theorem dX7_takeCells_35 : decode cX7_takeCells 35 = .ok (.goto (-24), 3) := by decide +kernel
theorem dX7_takeCells_38 : decode cX7_takeCells 38 = .ok (.goto 35, 3) := by decide +kernel
theorem dX7_takeCells_41 : decode cX7_takeCells 41 = .ok (.iconst 0, 1) := by decide +kernel
theorem dX7_takeCells_42 : decode cX7_takeCells 42 = .ok (.istore 5, 2) := by decide +kernel
theorem dX7_takeCells_44 : decode cX7_takeCells 44 = .ok (.iload 5, 2) := by decide +kernel
theorem dX7_takeCells_46 : decode cX7_takeCells 46 = .ok (.iload 4, 2) := by decide +kernel
theorem dX7_takeCells_48 : decode cX7_takeCells 48 = .ok (.if_icmp .ge 25, 3) := by decide +kernel
theorem dX7_takeCells_51 : decode cX7_takeCells 51 = .ok (.aload_n 0, 1) := by decide +kernel
theorem dX7_takeCells_52 : decode cX7_takeCells 52 = .ok (.iload_n 3, 1) := by decide +kernel
theorem dX7_takeCells_53 : decode cX7_takeCells 53 = .ok (.iload 5, 2) := by decide +kernel
theorem dX7_takeCells_55 : decode cX7_takeCells 55 = .ok (.iadd, 1) := by decide +kernel
theorem dX7_takeCells_56 : decode cX7_takeCells 56 = .ok (.aload_n 1, 1) := by decide +kernel
theorem dX7_takeCells_57 : decode cX7_takeCells 57 = .ok (.iload_n 2, 1) := by decide +kernel
theorem dX7_takeCells_58 : decode cX7_takeCells 58 = .ok (.iload 5, 2) := by decide +kernel
theorem dX7_takeCells_60 : decode cX7_takeCells 60 = .ok (.iadd, 1) := by decide +kernel
theorem dX7_takeCells_61 : decode cX7_takeCells 61 = .ok (.invokevirtual 34, 3) := by decide +kernel
theorem dX7_takeCells_64 : decode cX7_takeCells 64 = .ok (.invokevirtual 37, 3) := by decide +kernel
theorem dX7_takeCells_67 : decode cX7_takeCells 67 = .ok (.iinc 5 1, 3) := by decide +kernel
theorem dX7_takeCells_70 : decode cX7_takeCells 70 = .ok (.goto (-26), 3) := by decide +kernel
theorem dX7_takeCells_73 : decode cX7_takeCells 73 = .ok (.return_, 1) := by decide +kernel
theorem dX8_init_0 : decode cX8_init 0 = .ok (.aload_n 0, 1) := by decide +kernel
theorem dX8_init_1 : decode cX8_init 1 = .ok (.iload_n 1, 1) := by decide +kernel
theorem dX8_init_2 : decode cX8_init 2 = .ok (.iload_n 2, 1) := by decide +kernel
theorem dX8_init_3 : decode cX8_init 3 = .ok (.invokespecial 3, 3) := by decide +kernel
theorem dX8_init_6 : decode cX8_init 6 = .ok (.return_, 1) := by decide +kernel
theorem dX8_kind_0 : decode cX8_kind 0 = .ok (.iconst 2, 1) := by decide +kernel
theorem dX8_kind_1 : decode cX8_kind 1 = .ok (.ireturn, 1) := by decide +kernel
theorem dX8_telling_0 : decode cX8_telling 0 = .ok (.aload_n 1, 1) := by decide +kernel
theorem dX8_telling_1 : decode cX8_telling 1 = .ok (.iconst 3, 1) := by decide +kernel
theorem dX8_telling_2 : decode cX8_telling 2 = .ok (.invokevirtual 9, 3) := by decide +kernel
theorem dX8_telling_5 : decode cX8_telling 5 = .ok (.aload_n 0, 1) := by decide +kernel
theorem dX8_telling_6 : decode cX8_telling 6 = .ok (.aload_n 1, 1) := by decide +kernel
theorem dX8_telling_7 : decode cX8_telling 7 = .ok (.invokespecial 15, 3) := by decide +kernel
theorem dX8_telling_10 : decode cX8_telling 10 = .ok (.istore_n 2, 1) := by decide +kernel
theorem dX8_telling_11 : decode cX8_telling 11 = .ok (.iload_n 2, 1) := by decide +kernel
theorem dX8_telling_12 : decode cX8_telling 12 = .ok (.aload_n 0, 1) := by decide +kernel
theorem dX8_telling_13 : decode cX8_telling 13 = .ok (.aload_n 1, 1) := by decide +kernel
theorem dX8_telling_14 : decode cX8_telling 14 = .ok (.invokevirtual 19, 3) := by decide +kernel
theorem dX8_telling_17 : decode cX8_telling 17 = .ok (.iadd, 1) := by decide +kernel
theorem dX8_telling_18 : decode cX8_telling 18 = .ok (.ireturn, 1) := by decide +kernel
theorem dX8_cheering_0 : decode cX8_cheering 0 = .ok (.aload_n 1, 1) := by decide +kernel
theorem dX8_cheering_1 : decode cX8_cheering 1 = .ok (.iconst 5, 1) := by decide +kernel
theorem dX8_cheering_2 : decode cX8_cheering 2 = .ok (.invokevirtual 9, 3) := by decide +kernel
theorem dX8_cheering_5 : decode cX8_cheering 5 = .ok (.bipush 50, 2) := by decide +kernel
theorem dX8_cheering_7 : decode cX8_cheering 7 = .ok (.ireturn, 1) := by decide +kernel
theorem dX9_init_0 : decode cX9_init 0 = .ok (.aload_n 0, 1) := by decide +kernel
theorem dX9_init_1 : decode cX9_init 1 = .ok (.invokespecial 3, 3) := by decide +kernel
theorem dX9_init_4 : decode cX9_init 4 = .ok (.aload_n 0, 1) := by decide +kernel
theorem dX9_init_5 : decode cX9_init 5 = .ok (.iconst 4, 1) := by decide +kernel
theorem dX9_init_6 : decode cX9_init 6 = .ok (.newarray .int, 2) := by decide +kernel
theorem dX9_init_8 : decode cX9_init 8 = .ok (.putfield 9, 3) := by decide +kernel
theorem dX9_init_11 : decode cX9_init 11 = .ok (.aload_n 0, 1) := by decide +kernel
theorem dX9_init_12 : decode cX9_init 12 = .ok (.iconst 4, 1) := by decide +kernel
theorem dX9_init_13 : decode cX9_init 13 = .ok (.newarray .int, 2) := by decide +kernel
theorem dX9_init_15 : decode cX9_init 15 = .ok (.putfield 15, 3) := by decide +kernel
theorem dX9_init_18 : decode cX9_init 18 = .ok (.aload_n 0, 1) := by decide +kernel
theorem dX9_init_19 : decode cX9_init 19 = .ok (.iconst 5, 1) := by decide +kernel
theorem dX9_init_20 : decode cX9_init 20 = .ok (.newarray .int, 2) := by decide +kernel
theorem dX9_init_22 : decode cX9_init 22 = .ok (.putfield 18, 3) := by decide +kernel
theorem dX9_init_25 : decode cX9_init 25 = .ok (.aload_n 0, 1) := by decide +kernel
theorem dX9_init_26 : decode cX9_init 26 = .ok (.iconst 5, 1) := by decide +kernel
theorem dX9_init_27 : decode cX9_init 27 = .ok (.newarray .int, 2) := by decide +kernel
theorem dX9_init_29 : decode cX9_init 29 = .ok (.putfield 21, 3) := by decide +kernel
theorem dX9_init_32 : decode cX9_init 32 = .ok (.return_, 1) := by decide +kernel
theorem dX9_firstFault_0 : decode cX9_firstFault 0 = .ok (.aload_n 0, 1) := by decide +kernel
theorem dX9_firstFault_1 : decode cX9_firstFault 1 = .ok (.iconst 0, 1) := by decide +kernel
theorem dX9_firstFault_2 : decode cX9_firstFault 2 = .ok (.putfield 24, 3) := by decide +kernel
theorem dX9_firstFault_5 : decode cX9_firstFault 5 = .ok (.aload_n 0, 1) := by decide +kernel
theorem dX9_firstFault_6 : decode cX9_firstFault 6 = .ok (.iconst 0, 1) := by decide +kernel
theorem dX9_firstFault_7 : decode cX9_firstFault 7 = .ok (.putfield 28, 3) := by decide +kernel
theorem dX9_firstFault_10 : decode cX9_firstFault 10 = .ok (.aload_n 0, 1) := by decide +kernel
theorem dX9_firstFault_11 : decode cX9_firstFault 11 = .ok (.iconst 0, 1) := by decide +kernel
theorem dX9_firstFault_12 : decode cX9_firstFault 12 = .ok (.putfield 31, 3) := by decide +kernel
theorem dX9_firstFault_15 : decode cX9_firstFault 15 = .ok (.iconst 0, 1) := by decide +kernel
theorem dX9_firstFault_16 : decode cX9_firstFault 16 = .ok (.istore 4, 2) := by decide +kernel
theorem dX9_firstFault_18 : decode cX9_firstFault 18 = .ok (.iload 4, 2) := by decide +kernel
theorem dX9_firstFault_20 : decode cX9_firstFault 20 = .ok (.iload_n 3, 1) := by decide +kernel
theorem dX9_firstFault_21 : decode cX9_firstFault 21 = .ok (.if_icmp .ge 27, 3) := by decide +kernel
theorem dX9_firstFault_24 : decode cX9_firstFault 24 = .ok (.aload_n 0, 1) := by decide +kernel
theorem dX9_firstFault_25 : decode cX9_firstFault 25 = .ok (.aload_n 1, 1) := by decide +kernel
theorem dX9_firstFault_26 : decode cX9_firstFault 26 = .ok (.iload_n 2, 1) := by decide +kernel
theorem dX9_firstFault_27 : decode cX9_firstFault 27 = .ok (.iload 4, 2) := by decide +kernel
theorem dX9_firstFault_29 : decode cX9_firstFault 29 = .ok (.iadd, 1) := by decide +kernel
theorem dX9_firstFault_30 : decode cX9_firstFault 30 = .ok (.invokevirtual 34, 3) := by decide +kernel
theorem dX9_firstFault_33 : decode cX9_firstFault 33 = .ok (.invokevirtual 40, 3) := by decide +kernel
theorem dX9_firstFault_36 : decode cX9_firstFault 36 = .ok (.ifCond .ne 6, 3) := by decide +kernel
theorem dX9_firstFault_39 : decode cX9_firstFault 39 = .ok (.iload 4, 2) := by decide +kernel
theorem dX9_firstFault_41 : decode cX9_firstFault 41 = .ok (.ireturn, 1) := by decide +kernel
theorem dX9_firstFault_42 : decode cX9_firstFault 42 = .ok (.iinc 4 1, 3) := by decide +kernel
theorem dX9_firstFault_45 : decode cX9_firstFault 45 = .ok (.goto (-27), 3) := by decide +kernel
theorem dX9_firstFault_48 : decode cX9_firstFault 48 = .ok (.aload_n 0, 1) := by decide +kernel
theorem dX9_firstFault_49 : decode cX9_firstFault 49 = .ok (.getfield 24, 3) := by decide +kernel
theorem dX9_firstFault_52 : decode cX9_firstFault 52 = .ok (.bipush 7, 2) := by decide +kernel
theorem dX9_firstFault_54 : decode cX9_firstFault 54 = .ok (.if_icmp .ne 8, 3) := by decide +kernel
theorem dX9_firstFault_57 : decode cX9_firstFault 57 = .ok (.bipush (-9), 2) := by decide +kernel
theorem dX9_firstFault_59 : decode cX9_firstFault 59 = .ok (.goto 4, 3) := by decide +kernel
theorem dX9_firstFault_62 : decode cX9_firstFault 62 = .ok (.iload_n 3, 1) := by decide +kernel
theorem dX9_firstFault_63 : decode cX9_firstFault 63 = .ok (.ireturn, 1) := by decide +kernel
theorem dX9_goesOnWith_0 : decode cX9_goesOnWith 0 = .ok (.aload_n 0, 1) := by decide +kernel
theorem dX9_goesOnWith_1 : decode cX9_goesOnWith 1 = .ok (.getfield 24, 3) := by decide +kernel
theorem dX9_goesOnWith_4 : decode cX9_goesOnWith 4 = .ok (.tableswitch 112 0 6 #[44, 61, 70, 76, 85, 94, 103], 44) := by decide +kernel
theorem dX9_goesOnWith_48 : decode cX9_goesOnWith 48 = .ok (.aload_n 0, 1) := by decide +kernel
theorem dX9_goesOnWith_49 : decode cX9_goesOnWith 49 = .ok (.iconst 1, 1) := by decide +kernel
theorem dX9_goesOnWith_50 : decode cX9_goesOnWith 50 = .ok (.iload_n 1, 1) := by decide +kernel
theorem dX9_goesOnWith_51 : decode cX9_goesOnWith 51 = .ok (.bipush 113, 2) := by decide +kernel
theorem dX9_goesOnWith_53 : decode cX9_goesOnWith 53 = .ok (.if_icmp .ne 7, 3) := by decide +kernel
theorem dX9_goesOnWith_56 : decode cX9_goesOnWith 56 = .ok (.iconst 1, 1) := by decide +kernel
theorem dX9_goesOnWith_57 : decode cX9_goesOnWith 57 = .ok (.goto 4, 3) := by decide +kernel
theorem dX9_goesOnWith_60 : decode cX9_goesOnWith 60 = .ok (.iconst 0, 1) := by decide +kernel
theorem dX9_goesOnWith_61 : decode cX9_goesOnWith 61 = .ok (.invokevirtual 44, 3) := by decide +kernel
theorem dX9_goesOnWith_64 : decode cX9_goesOnWith 64 = .ok (.ireturn, 1) := by decide +kernel
theorem dX9_goesOnWith_65 : decode cX9_goesOnWith 65 = .ok (.aload_n 0, 1) := by decide +kernel
theorem dX9_goesOnWith_66 : decode cX9_goesOnWith 66 = .ok (.iload_n 1, 1) := by decide +kernel
theorem dX9_goesOnWith_67 : decode cX9_goesOnWith 67 = .ok (.invokestatic 48, 3) := by decide +kernel
theorem dX9_goesOnWith_70 : decode cX9_goesOnWith 70 = .ok (.invokevirtual 51, 3) := by decide +kernel
theorem dX9_goesOnWith_73 : decode cX9_goesOnWith 73 = .ok (.ireturn, 1) := by decide +kernel
theorem dX9_goesOnWith_74 : decode cX9_goesOnWith 74 = .ok (.aload_n 0, 1) := by decide +kernel
theorem dX9_goesOnWith_75 : decode cX9_goesOnWith 75 = .ok (.iload_n 1, 1) := by decide +kernel
theorem dX9_goesOnWith_76 : decode cX9_goesOnWith 76 = .ok (.invokevirtual 54, 3) := by decide +kernel
theorem dX9_goesOnWith_79 : decode cX9_goesOnWith 79 = .ok (.ireturn, 1) := by decide +kernel
theorem dX9_goesOnWith_80 : decode cX9_goesOnWith 80 = .ok (.aload_n 0, 1) := by decide +kernel
theorem dX9_goesOnWith_81 : decode cX9_goesOnWith 81 = .ok (.iload_n 1, 1) := by decide +kernel
theorem dX9_goesOnWith_82 : decode cX9_goesOnWith 82 = .ok (.invokestatic 48, 3) := by decide +kernel
theorem dX9_goesOnWith_85 : decode cX9_goesOnWith 85 = .ok (.invokevirtual 57, 3) := by decide +kernel
theorem dX9_goesOnWith_88 : decode cX9_goesOnWith 88 = .ok (.ireturn, 1) := by decide +kernel
theorem dX9_goesOnWith_89 : decode cX9_goesOnWith 89 = .ok (.aload_n 0, 1) := by decide +kernel
theorem dX9_goesOnWith_90 : decode cX9_goesOnWith 90 = .ok (.iload_n 1, 1) := by decide +kernel
theorem dX9_goesOnWith_91 : decode cX9_goesOnWith 91 = .ok (.invokestatic 48, 3) := by decide +kernel
theorem dX9_goesOnWith_94 : decode cX9_goesOnWith 94 = .ok (.invokevirtual 60, 3) := by decide +kernel
theorem dX9_goesOnWith_97 : decode cX9_goesOnWith 97 = .ok (.ireturn, 1) := by decide +kernel
theorem dX9_goesOnWith_98 : decode cX9_goesOnWith 98 = .ok (.aload_n 0, 1) := by decide +kernel
theorem dX9_goesOnWith_99 : decode cX9_goesOnWith 99 = .ok (.iload_n 1, 1) := by decide +kernel
theorem dX9_goesOnWith_100 : decode cX9_goesOnWith 100 = .ok (.invokestatic 63, 3) := by decide +kernel
theorem dX9_goesOnWith_103 : decode cX9_goesOnWith 103 = .ok (.invokevirtual 66, 3) := by decide +kernel
theorem dX9_goesOnWith_106 : decode cX9_goesOnWith 106 = .ok (.ireturn, 1) := by decide +kernel
theorem dX9_goesOnWith_107 : decode cX9_goesOnWith 107 = .ok (.aload_n 0, 1) := by decide +kernel
theorem dX9_goesOnWith_108 : decode cX9_goesOnWith 108 = .ok (.iload_n 1, 1) := by decide +kernel
theorem dX9_goesOnWith_109 : decode cX9_goesOnWith 109 = .ok (.invokestatic 48, 3) := by decide +kernel
theorem dX9_goesOnWith_112 : decode cX9_goesOnWith 112 = .ok (.invokevirtual 69, 3) := by decide +kernel
theorem dX9_goesOnWith_115 : decode cX9_goesOnWith 115 = .ok (.ireturn, 1) := by decide +kernel
theorem dX9_goesOnWith_116 : decode cX9_goesOnWith 116 = .ok (.aload_n 0, 1) := by decide +kernel
theorem dX9_goesOnWith_117 : decode cX9_goesOnWith 117 = .ok (.iconst 5, 1) := by decide +kernel
theorem dX9_goesOnWith_118 : decode cX9_goesOnWith 118 = .ok (.iload_n 1, 1) := by decide +kernel
theorem dX9_goesOnWith_119 : decode cX9_goesOnWith 119 = .ok (.bipush 59, 2) := by decide +kernel
theorem dX9_goesOnWith_121 : decode cX9_goesOnWith 121 = .ok (.if_icmp .ne 15, 3) := by decide +kernel
theorem dX9_goesOnWith_124 : decode cX9_goesOnWith 124 = .ok (.aload_n 0, 1) := by decide +kernel
theorem dX9_goesOnWith_125 : decode cX9_goesOnWith 125 = .ok (.getfield 31, 3) := by decide +kernel
theorem dX9_goesOnWith_128 : decode cX9_goesOnWith 128 = .ok (.iconst 5, 1) := by decide +kernel
theorem dX9_goesOnWith_129 : decode cX9_goesOnWith 129 = .ok (.if_icmp .ge 7, 3) := by decide +kernel
theorem dX9_goesOnWith_132 : decode cX9_goesOnWith 132 = .ok (.iconst 1, 1) := by decide +kernel
theorem dX9_goesOnWith_133 : decode cX9_goesOnWith 133 = .ok (.goto 4, 3) := by decide +kernel
theorem dX9_goesOnWith_136 : decode cX9_goesOnWith 136 = .ok (.iconst 0, 1) := by decide +kernel
theorem dX9_goesOnWith_137 : decode cX9_goesOnWith 137 = .ok (.invokevirtual 44, 3) := by decide +kernel
theorem dX9_goesOnWith_140 : decode cX9_goesOnWith 140 = .ok (.ireturn, 1) := by decide +kernel
theorem dX9_thenAwait_0 : decode cX9_thenAwait 0 = .ok (.aload_n 0, 1) := by decide +kernel
theorem dX9_thenAwait_1 : decode cX9_thenAwait 1 = .ok (.iload_n 1, 1) := by decide +kernel
theorem dX9_thenAwait_2 : decode cX9_thenAwait 2 = .ok (.putfield 24, 3) := by decide +kernel
theorem dX9_thenAwait_5 : decode cX9_thenAwait 5 = .ok (.iload_n 2, 1) := by decide +kernel
theorem dX9_thenAwait_6 : decode cX9_thenAwait 6 = .ok (.ireturn, 1) := by decide +kernel
theorem dX9_takesFrost_0 : decode cX9_takesFrost 0 = .ok (.aload_n 0, 1) := by decide +kernel
theorem dX9_takesFrost_1 : decode cX9_takesFrost 1 = .ok (.iload_n 1, 1) := by decide +kernel
theorem dX9_takesFrost_2 : decode cX9_takesFrost 2 = .ok (.putfield 72, 3) := by decide +kernel
theorem dX9_takesFrost_5 : decode cX9_takesFrost 5 = .ok (.aload_n 0, 1) := by decide +kernel
theorem dX9_takesFrost_6 : decode cX9_takesFrost 6 = .ok (.iconst 2, 1) := by decide +kernel
theorem dX9_takesFrost_7 : decode cX9_takesFrost 7 = .ok (.iload_n 1, 1) := by decide +kernel
theorem dX9_takesFrost_8 : decode cX9_takesFrost 8 = .ok (.iconst 0, 1) := by decide +kernel
theorem dX9_takesFrost_9 : decode cX9_takesFrost 9 = .ok (.iconst 3, 1) := by decide +kernel
theorem dX9_takesFrost_10 : decode cX9_takesFrost 10 = .ok (.invokestatic 75, 3) := by decide +kernel
theorem dX9_takesFrost_13 : decode cX9_takesFrost 13 = .ok (.invokevirtual 44, 3) := by decide +kernel
theorem dX9_takesFrost_16 : decode cX9_takesFrost 16 = .ok (.ireturn, 1) := by decide +kernel
theorem dX9_takesMark_0 : decode cX9_takesMark 0 = .ok (.iload_n 1, 1) := by decide +kernel
theorem dX9_takesMark_1 : decode cX9_takesMark 1 = .ok (.bipush 44, 2) := by decide +kernel
theorem dX9_takesMark_3 : decode cX9_takesMark 3 = .ok (.if_icmp .ne 22, 3) := by decide +kernel
theorem dX9_takesMark_6 : decode cX9_takesMark 6 = .ok (.aload_n 0, 1) := by decide +kernel
theorem dX9_takesMark_7 : decode cX9_takesMark 7 = .ok (.iconst 3, 1) := by decide +kernel
theorem dX9_takesMark_8 : decode cX9_takesMark 8 = .ok (.aload_n 0, 1) := by decide +kernel
theorem dX9_takesMark_9 : decode cX9_takesMark 9 = .ok (.getfield 28, 3) := by decide +kernel
theorem dX9_takesMark_12 : decode cX9_takesMark 12 = .ok (.iconst 4, 1) := by decide +kernel
theorem dX9_takesMark_13 : decode cX9_takesMark 13 = .ok (.if_icmp .ge 7, 3) := by decide +kernel
theorem dX9_takesMark_16 : decode cX9_takesMark 16 = .ok (.iconst 1, 1) := by decide +kernel
theorem dX9_takesMark_17 : decode cX9_takesMark 17 = .ok (.goto 4, 3) := by decide +kernel
theorem dX9_takesMark_20 : decode cX9_takesMark 20 = .ok (.iconst 0, 1) := by decide +kernel
theorem dX9_takesMark_21 : decode cX9_takesMark 21 = .ok (.invokevirtual 44, 3) := by decide +kernel
theorem dX9_takesMark_24 : decode cX9_takesMark 24 = .ok (.ireturn, 1) := by decide +kernel
theorem dX9_takesMark_25 : decode cX9_takesMark 25 = .ok (.aload_n 0, 1) := by decide +kernel
theorem dX9_takesMark_26 : decode cX9_takesMark 26 = .ok (.iconst 5, 1) := by decide +kernel
theorem dX9_takesMark_27 : decode cX9_takesMark 27 = .ok (.iload_n 1, 1) := by decide +kernel
theorem dX9_takesMark_28 : decode cX9_takesMark 28 = .ok (.bipush 59, 2) := by decide +kernel
theorem dX9_takesMark_30 : decode cX9_takesMark 30 = .ok (.if_icmp .ne 14, 3) := by decide +kernel
theorem dX9_takesMark_33 : decode cX9_takesMark 33 = .ok (.aload_n 0, 1) := by decide +kernel
theorem dX9_takesMark_34 : decode cX9_takesMark 34 = .ok (.getfield 28, 3) := by decide +kernel
theorem dX9_takesMark_37 : decode cX9_takesMark 37 = .ok (.ifCond .le 7, 3) := by decide +kernel
theorem dX9_takesMark_40 : decode cX9_takesMark 40 = .ok (.iconst 1, 1) := by decide +kernel
theorem dX9_takesMark_41 : decode cX9_takesMark 41 = .ok (.goto 4, 3) := by decide +kernel
theorem dX9_takesMark_44 : decode cX9_takesMark 44 = .ok (.iconst 0, 1) := by decide +kernel
theorem dX9_takesMark_45 : decode cX9_takesMark 45 = .ok (.invokevirtual 44, 3) := by decide +kernel
theorem dX9_takesMark_48 : decode cX9_takesMark 48 = .ok (.ireturn, 1) := by decide +kernel
theorem dX9_takesYards_0 : decode cX9_takesYards 0 = .ok (.aload_n 0, 1) := by decide +kernel
theorem dX9_takesYards_1 : decode cX9_takesYards 1 = .ok (.getfield 28, 3) := by decide +kernel
theorem dX9_takesYards_4 : decode cX9_takesYards 4 = .ok (.ifCond .lt 25, 3) := by decide +kernel
theorem dX9_takesYards_7 : decode cX9_takesYards 7 = .ok (.aload_n 0, 1) := by decide +kernel
theorem dX9_takesYards_8 : decode cX9_takesYards 8 = .ok (.getfield 28, 3) := by decide +kernel
theorem dX9_takesYards_11 : decode cX9_takesYards 11 = .ok (.aload_n 0, 1) := by decide +kernel
theorem dX9_takesYards_12 : decode cX9_takesYards 12 = .ok (.getfield 9, 3) := by decide +kernel
theorem dX9_takesYards_15 : decode cX9_takesYards 15 = .ok (.arraylength, 1) := by decide +kernel
theorem dX9_takesYards_16 : decode cX9_takesYards 16 = .ok (.if_icmp .ge 13, 3) := by decide +kernel
theorem dX9_takesYards_19 : decode cX9_takesYards 19 = .ok (.aload_n 0, 1) := by decide +kernel
theorem dX9_takesYards_20 : decode cX9_takesYards 20 = .ok (.getfield 9, 3) := by decide +kernel
theorem dX9_takesYards_23 : decode cX9_takesYards 23 = .ok (.aload_n 0, 1) := by decide +kernel
theorem dX9_takesYards_24 : decode cX9_takesYards 24 = .ok (.getfield 28, 3) := by decide +kernel
theorem dX9_takesYards_27 : decode cX9_takesYards 27 = .ok (.iload_n 1, 1) := by decide +kernel
theorem dX9_takesYards_28 : decode cX9_takesYards 28 = .ok (.iastore, 1) := by decide +kernel
theorem dX9_takesYards_29 : decode cX9_takesYards 29 = .ok (.aload_n 0, 1) := by decide +kernel
theorem dX9_takesYards_30 : decode cX9_takesYards 30 = .ok (.iconst 4, 1) := by decide +kernel
theorem dX9_takesYards_31 : decode cX9_takesYards 31 = .ok (.iload_n 1, 1) := by decide +kernel
theorem dX9_takesYards_32 : decode cX9_takesYards 32 = .ok (.iconst 1, 1) := by decide +kernel
theorem dX9_takesYards_33 : decode cX9_takesYards 33 = .ok (.bipush 9, 2) := by decide +kernel
theorem dX9_takesYards_35 : decode cX9_takesYards 35 = .ok (.invokestatic 75, 3) := by decide +kernel
theorem dX9_takesYards_38 : decode cX9_takesYards 38 = .ok (.invokevirtual 44, 3) := by decide +kernel
theorem dX9_takesYards_41 : decode cX9_takesYards 41 = .ok (.ireturn, 1) := by decide +kernel
theorem dX9_takesLeaning_0 : decode cX9_takesLeaning 0 = .ok (.aload_n 0, 1) := by decide +kernel
theorem dX9_takesLeaning_1 : decode cX9_takesLeaning 1 = .ok (.getfield 28, 3) := by decide +kernel
theorem dX9_takesLeaning_4 : decode cX9_takesLeaning 4 = .ok (.ifCond .lt 25, 3) := by decide +kernel
theorem dX9_takesLeaning_7 : decode cX9_takesLeaning 7 = .ok (.aload_n 0, 1) := by decide +kernel
theorem dX9_takesLeaning_8 : decode cX9_takesLeaning 8 = .ok (.getfield 28, 3) := by decide +kernel
theorem dX9_takesLeaning_11 : decode cX9_takesLeaning 11 = .ok (.aload_n 0, 1) := by decide +kernel
theorem dX9_takesLeaning_12 : decode cX9_takesLeaning 12 = .ok (.getfield 15, 3) := by decide +kernel
theorem dX9_takesLeaning_15 : decode cX9_takesLeaning 15 = .ok (.arraylength, 1) := by decide +kernel
theorem dX9_takesLeaning_16 : decode cX9_takesLeaning 16 = .ok (.if_icmp .ge 13, 3) := by decide +kernel
theorem dX9_takesLeaning_19 : decode cX9_takesLeaning 19 = .ok (.aload_n 0, 1) := by decide +kernel
theorem dX9_takesLeaning_20 : decode cX9_takesLeaning 20 = .ok (.getfield 15, 3) := by decide +kernel
theorem dX9_takesLeaning_23 : decode cX9_takesLeaning 23 = .ok (.aload_n 0, 1) := by decide +kernel
theorem dX9_takesLeaning_24 : decode cX9_takesLeaning 24 = .ok (.getfield 28, 3) := by decide +kernel
theorem dX9_takesLeaning_27 : decode cX9_takesLeaning 27 = .ok (.iload_n 1, 1) := by decide +kernel
theorem dX9_takesLeaning_28 : decode cX9_takesLeaning 28 = .ok (.iastore, 1) := by decide +kernel
theorem dX9_takesLeaning_29 : decode cX9_takesLeaning 29 = .ok (.aload_n 0, 1) := by decide +kernel
theorem dX9_takesLeaning_30 : decode cX9_takesLeaning 30 = .ok (.dup, 1) := by decide +kernel
theorem dX9_takesLeaning_31 : decode cX9_takesLeaning 31 = .ok (.getfield 28, 3) := by decide +kernel
theorem dX9_takesLeaning_34 : decode cX9_takesLeaning 34 = .ok (.iconst 1, 1) := by decide +kernel
theorem dX9_takesLeaning_35 : decode cX9_takesLeaning 35 = .ok (.iadd, 1) := by decide +kernel
theorem dX9_takesLeaning_36 : decode cX9_takesLeaning 36 = .ok (.putfield 28, 3) := by decide +kernel
theorem dX9_takesLeaning_39 : decode cX9_takesLeaning 39 = .ok (.aload_n 0, 1) := by decide +kernel
theorem dX9_takesLeaning_40 : decode cX9_takesLeaning 40 = .ok (.iconst 2, 1) := by decide +kernel
theorem dX9_takesLeaning_41 : decode cX9_takesLeaning 41 = .ok (.iload_n 1, 1) := by decide +kernel
theorem dX9_takesLeaning_42 : decode cX9_takesLeaning 42 = .ok (.iconst 0, 1) := by decide +kernel
theorem dX9_takesLeaning_43 : decode cX9_takesLeaning 43 = .ok (.bipush 9, 2) := by decide +kernel
theorem dX9_takesLeaning_45 : decode cX9_takesLeaning 45 = .ok (.invokestatic 75, 3) := by decide +kernel
theorem dX9_takesLeaning_48 : decode cX9_takesLeaning 48 = .ok (.invokevirtual 44, 3) := by decide +kernel
theorem dX9_takesLeaning_51 : decode cX9_takesLeaning 51 = .ok (.ireturn, 1) := by decide +kernel
theorem dX9_takesLetter_0 : decode cX9_takesLetter 0 = .ok (.aload_n 0, 1) := by decide +kernel
theorem dX9_takesLetter_1 : decode cX9_takesLetter 1 = .ok (.getfield 31, 3) := by decide +kernel
theorem dX9_takesLetter_4 : decode cX9_takesLetter 4 = .ok (.ifCond .lt 25, 3) := by decide +kernel
theorem dX9_takesLetter_7 : decode cX9_takesLetter 7 = .ok (.aload_n 0, 1) := by decide +kernel
theorem dX9_takesLetter_8 : decode cX9_takesLetter 8 = .ok (.getfield 31, 3) := by decide +kernel
theorem dX9_takesLetter_11 : decode cX9_takesLetter 11 = .ok (.aload_n 0, 1) := by decide +kernel
theorem dX9_takesLetter_12 : decode cX9_takesLetter 12 = .ok (.getfield 18, 3) := by decide +kernel
theorem dX9_takesLetter_15 : decode cX9_takesLetter 15 = .ok (.arraylength, 1) := by decide +kernel
theorem dX9_takesLetter_16 : decode cX9_takesLetter 16 = .ok (.if_icmp .ge 13, 3) := by decide +kernel
theorem dX9_takesLetter_19 : decode cX9_takesLetter 19 = .ok (.aload_n 0, 1) := by decide +kernel
theorem dX9_takesLetter_20 : decode cX9_takesLetter 20 = .ok (.getfield 18, 3) := by decide +kernel
theorem dX9_takesLetter_23 : decode cX9_takesLetter 23 = .ok (.aload_n 0, 1) := by decide +kernel
theorem dX9_takesLetter_24 : decode cX9_takesLetter 24 = .ok (.getfield 31, 3) := by decide +kernel
theorem dX9_takesLetter_27 : decode cX9_takesLetter 27 = .ok (.iload_n 1, 1) := by decide +kernel
theorem dX9_takesLetter_28 : decode cX9_takesLetter 28 = .ok (.iastore, 1) := by decide +kernel
theorem dX9_takesLetter_29 : decode cX9_takesLetter 29 = .ok (.aload_n 0, 1) := by decide +kernel
theorem dX9_takesLetter_30 : decode cX9_takesLetter 30 = .ok (.bipush 6, 2) := by decide +kernel
theorem dX9_takesLetter_32 : decode cX9_takesLetter 32 = .ok (.iload_n 1, 1) := by decide +kernel
theorem dX9_takesLetter_33 : decode cX9_takesLetter 33 = .ok (.iconst 0, 1) := by decide +kernel
theorem dX9_takesLetter_34 : decode cX9_takesLetter 34 = .ok (.iconst 2, 1) := by decide +kernel
theorem dX9_takesLetter_35 : decode cX9_takesLetter 35 = .ok (.invokestatic 75, 3) := by decide +kernel
theorem dX9_takesLetter_38 : decode cX9_takesLetter 38 = .ok (.invokevirtual 44, 3) := by decide +kernel
theorem dX9_takesLetter_41 : decode cX9_takesLetter 41 = .ok (.ireturn, 1) := by decide +kernel
theorem dX9_takesArm_0 : decode cX9_takesArm 0 = .ok (.aload_n 0, 1) := by decide +kernel
theorem dX9_takesArm_1 : decode cX9_takesArm 1 = .ok (.getfield 31, 3) := by decide +kernel
theorem dX9_takesArm_4 : decode cX9_takesArm 4 = .ok (.ifCond .lt 25, 3) := by decide +kernel
theorem dX9_takesArm_7 : decode cX9_takesArm 7 = .ok (.aload_n 0, 1) := by decide +kernel
theorem dX9_takesArm_8 : decode cX9_takesArm 8 = .ok (.getfield 31, 3) := by decide +kernel
theorem dX9_takesArm_11 : decode cX9_takesArm 11 = .ok (.aload_n 0, 1) := by decide +kernel
theorem dX9_takesArm_12 : decode cX9_takesArm 12 = .ok (.getfield 21, 3) := by decide +kernel
theorem dX9_takesArm_15 : decode cX9_takesArm 15 = .ok (.arraylength, 1) := by decide +kernel
theorem dX9_takesArm_16 : decode cX9_takesArm 16 = .ok (.if_icmp .ge 13, 3) := by decide +kernel
theorem dX9_takesArm_19 : decode cX9_takesArm 19 = .ok (.aload_n 0, 1) := by decide +kernel
theorem dX9_takesArm_20 : decode cX9_takesArm 20 = .ok (.getfield 21, 3) := by decide +kernel
theorem dX9_takesArm_23 : decode cX9_takesArm 23 = .ok (.aload_n 0, 1) := by decide +kernel
theorem dX9_takesArm_24 : decode cX9_takesArm 24 = .ok (.getfield 31, 3) := by decide +kernel
theorem dX9_takesArm_27 : decode cX9_takesArm 27 = .ok (.iload_n 1, 1) := by decide +kernel
theorem dX9_takesArm_28 : decode cX9_takesArm 28 = .ok (.iastore, 1) := by decide +kernel
theorem dX9_takesArm_29 : decode cX9_takesArm 29 = .ok (.aload_n 0, 1) := by decide +kernel
theorem dX9_takesArm_30 : decode cX9_takesArm 30 = .ok (.dup, 1) := by decide +kernel
theorem dX9_takesArm_31 : decode cX9_takesArm 31 = .ok (.getfield 31, 3) := by decide +kernel
theorem dX9_takesArm_34 : decode cX9_takesArm 34 = .ok (.iconst 1, 1) := by decide +kernel
theorem dX9_takesArm_35 : decode cX9_takesArm 35 = .ok (.iadd, 1) := by decide +kernel
theorem dX9_takesArm_36 : decode cX9_takesArm 36 = .ok (.putfield 31, 3) := by decide +kernel
theorem dX9_takesArm_39 : decode cX9_takesArm 39 = .ok (.aload_n 0, 1) := by decide +kernel
theorem dX9_takesArm_40 : decode cX9_takesArm 40 = .ok (.bipush 7, 2) := by decide +kernel
theorem dX9_takesArm_42 : decode cX9_takesArm 42 = .ok (.iload_n 1, 1) := by decide +kernel
theorem dX9_takesArm_43 : decode cX9_takesArm 43 = .ok (.iconst 1, 1) := by decide +kernel
theorem dX9_takesArm_44 : decode cX9_takesArm 44 = .ok (.bipush 9, 2) := by decide +kernel
theorem dX9_takesArm_46 : decode cX9_takesArm 46 = .ok (.invokestatic 75, 3) := by decide +kernel
theorem dX9_takesArm_49 : decode cX9_takesArm 49 = .ok (.invokevirtual 44, 3) := by decide +kernel
theorem dX9_takesArm_52 : decode cX9_takesArm 52 = .ok (.ireturn, 1) := by decide +kernel
theorem dX9_digit_0 : decode cX9_digit 0 = .ok (.iload_n 0, 1) := by decide +kernel
theorem dX9_digit_1 : decode cX9_digit 1 = .ok (.bipush 48, 2) := by decide +kernel
theorem dX9_digit_3 : decode cX9_digit 3 = .ok (.if_icmp .lt 16, 3) := by decide +kernel
theorem dX9_digit_6 : decode cX9_digit 6 = .ok (.iload_n 0, 1) := by decide +kernel
theorem dX9_digit_7 : decode cX9_digit 7 = .ok (.bipush 57, 2) := by decide +kernel
theorem dX9_digit_9 : decode cX9_digit 9 = .ok (.if_icmp .gt 10, 3) := by decide +kernel
theorem dX9_digit_12 : decode cX9_digit 12 = .ok (.iload_n 0, 1) := by decide +kernel
theorem dX9_digit_13 : decode cX9_digit 13 = .ok (.bipush 48, 2) := by decide +kernel
theorem dX9_digit_15 : decode cX9_digit 15 = .ok (.isub, 1) := by decide +kernel
theorem dX9_digit_16 : decode cX9_digit 16 = .ok (.goto 5, 3) := by decide +kernel
theorem dX9_digit_19 : decode cX9_digit 19 = .ok (.bipush (-9), 2) := by decide +kernel
theorem dX9_digit_21 : decode cX9_digit 21 = .ok (.ireturn, 1) := by decide +kernel
theorem dX9_kindBy_0 : decode cX9_kindBy 0 = .ok (.iload_n 0, 1) := by decide +kernel
theorem dX9_kindBy_1 : decode cX9_kindBy 1 = .ok (.lookupswitch 41 #[(108, 37), (114, 35), (115, 39)], 35) := by decide +kernel
theorem dX9_kindBy_36 : decode cX9_kindBy 36 = .ok (.iconst 0, 1) := by decide +kernel
theorem dX9_kindBy_37 : decode cX9_kindBy 37 = .ok (.ireturn, 1) := by decide +kernel
theorem dX9_kindBy_38 : decode cX9_kindBy 38 = .ok (.iconst 1, 1) := by decide +kernel
theorem dX9_kindBy_39 : decode cX9_kindBy 39 = .ok (.ireturn, 1) := by decide +kernel
theorem dX9_kindBy_40 : decode cX9_kindBy 40 = .ok (.iconst 2, 1) := by decide +kernel
theorem dX9_kindBy_41 : decode cX9_kindBy 41 = .ok (.ireturn, 1) := by decide +kernel
theorem dX9_kindBy_42 : decode cX9_kindBy 42 = .ok (.bipush (-9), 2) := by decide +kernel
theorem dX9_kindBy_44 : decode cX9_kindBy 44 = .ok (.ireturn, 1) := by decide +kernel
theorem dX9_yardsAt_0 : decode cX9_yardsAt 0 = .ok (.iload_n 1, 1) := by decide +kernel
theorem dX9_yardsAt_1 : decode cX9_yardsAt 1 = .ok (.ifCond .lt 12, 3) := by decide +kernel
theorem dX9_yardsAt_4 : decode cX9_yardsAt 4 = .ok (.iload_n 1, 1) := by decide +kernel
theorem dX9_yardsAt_5 : decode cX9_yardsAt 5 = .ok (.aload_n 0, 1) := by decide +kernel
theorem dX9_yardsAt_6 : decode cX9_yardsAt 6 = .ok (.getfield 9, 3) := by decide +kernel
theorem dX9_yardsAt_9 : decode cX9_yardsAt 9 = .ok (.arraylength, 1) := by decide +kernel
theorem dX9_yardsAt_10 : decode cX9_yardsAt 10 = .ok (.if_icmp .lt 7, 3) := by decide +kernel
theorem dX9_yardsAt_13 : decode cX9_yardsAt 13 = .ok (.iconst 1, 1) := by decide +kernel
theorem dX9_yardsAt_14 : decode cX9_yardsAt 14 = .ok (.goto 9, 3) := by decide +kernel
theorem dX9_yardsAt_17 : decode cX9_yardsAt 17 = .ok (.aload_n 0, 1) := by decide +kernel
theorem dX9_yardsAt_18 : decode cX9_yardsAt 18 = .ok (.getfield 9, 3) := by decide +kernel
theorem dX9_yardsAt_21 : decode cX9_yardsAt 21 = .ok (.iload_n 1, 1) := by decide +kernel
theorem dX9_yardsAt_22 : decode cX9_yardsAt 22 = .ok (.iaload, 1) := by decide +kernel
theorem dX9_yardsAt_23 : decode cX9_yardsAt 23 = .ok (.ireturn, 1) := by decide +kernel
theorem dX9_leaningAt_0 : decode cX9_leaningAt 0 = .ok (.iload_n 1, 1) := by decide +kernel
theorem dX9_leaningAt_1 : decode cX9_leaningAt 1 = .ok (.ifCond .lt 12, 3) := by decide +kernel
theorem dX9_leaningAt_4 : decode cX9_leaningAt 4 = .ok (.iload_n 1, 1) := by decide +kernel
theorem dX9_leaningAt_5 : decode cX9_leaningAt 5 = .ok (.aload_n 0, 1) := by decide +kernel
theorem dX9_leaningAt_6 : decode cX9_leaningAt 6 = .ok (.getfield 15, 3) := by decide +kernel
theorem dX9_leaningAt_9 : decode cX9_leaningAt 9 = .ok (.arraylength, 1) := by decide +kernel
theorem dX9_leaningAt_10 : decode cX9_leaningAt 10 = .ok (.if_icmp .lt 7, 3) := by decide +kernel
theorem dX9_leaningAt_13 : decode cX9_leaningAt 13 = .ok (.iconst 0, 1) := by decide +kernel
theorem dX9_leaningAt_14 : decode cX9_leaningAt 14 = .ok (.goto 9, 3) := by decide +kernel
theorem dX9_leaningAt_17 : decode cX9_leaningAt 17 = .ok (.aload_n 0, 1) := by decide +kernel
theorem dX9_leaningAt_18 : decode cX9_leaningAt 18 = .ok (.getfield 15, 3) := by decide +kernel
theorem dX9_leaningAt_21 : decode cX9_leaningAt 21 = .ok (.iload_n 1, 1) := by decide +kernel
theorem dX9_leaningAt_22 : decode cX9_leaningAt 22 = .ok (.iaload, 1) := by decide +kernel
theorem dX9_leaningAt_23 : decode cX9_leaningAt 23 = .ok (.ireturn, 1) := by decide +kernel
theorem dX9_kindAt_0 : decode cX9_kindAt 0 = .ok (.iload_n 1, 1) := by decide +kernel
theorem dX9_kindAt_1 : decode cX9_kindAt 1 = .ok (.ifCond .lt 12, 3) := by decide +kernel
theorem dX9_kindAt_4 : decode cX9_kindAt 4 = .ok (.iload_n 1, 1) := by decide +kernel
theorem dX9_kindAt_5 : decode cX9_kindAt 5 = .ok (.aload_n 0, 1) := by decide +kernel
theorem dX9_kindAt_6 : decode cX9_kindAt 6 = .ok (.getfield 18, 3) := by decide +kernel
theorem dX9_kindAt_9 : decode cX9_kindAt 9 = .ok (.arraylength, 1) := by decide +kernel
theorem dX9_kindAt_10 : decode cX9_kindAt 10 = .ok (.if_icmp .lt 7, 3) := by decide +kernel
theorem dX9_kindAt_13 : decode cX9_kindAt 13 = .ok (.iconst 0, 1) := by decide +kernel
theorem dX9_kindAt_14 : decode cX9_kindAt 14 = .ok (.goto 9, 3) := by decide +kernel
theorem dX9_kindAt_17 : decode cX9_kindAt 17 = .ok (.aload_n 0, 1) := by decide +kernel
theorem dX9_kindAt_18 : decode cX9_kindAt 18 = .ok (.getfield 18, 3) := by decide +kernel
theorem dX9_kindAt_21 : decode cX9_kindAt 21 = .ok (.iload_n 1, 1) := by decide +kernel
theorem dX9_kindAt_22 : decode cX9_kindAt 22 = .ok (.iaload, 1) := by decide +kernel
theorem dX9_kindAt_23 : decode cX9_kindAt 23 = .ok (.ireturn, 1) := by decide +kernel
theorem dX9_armAt_0 : decode cX9_armAt 0 = .ok (.iload_n 1, 1) := by decide +kernel
theorem dX9_armAt_1 : decode cX9_armAt 1 = .ok (.ifCond .lt 12, 3) := by decide +kernel
theorem dX9_armAt_4 : decode cX9_armAt 4 = .ok (.iload_n 1, 1) := by decide +kernel
theorem dX9_armAt_5 : decode cX9_armAt 5 = .ok (.aload_n 0, 1) := by decide +kernel
theorem dX9_armAt_6 : decode cX9_armAt 6 = .ok (.getfield 21, 3) := by decide +kernel
theorem dX9_armAt_9 : decode cX9_armAt 9 = .ok (.arraylength, 1) := by decide +kernel
theorem dX9_armAt_10 : decode cX9_armAt 10 = .ok (.if_icmp .lt 7, 3) := by decide +kernel
theorem dX9_armAt_13 : decode cX9_armAt 13 = .ok (.iconst 1, 1) := by decide +kernel
theorem dX9_armAt_14 : decode cX9_armAt 14 = .ok (.goto 9, 3) := by decide +kernel
theorem dX9_armAt_17 : decode cX9_armAt 17 = .ok (.aload_n 0, 1) := by decide +kernel
theorem dX9_armAt_18 : decode cX9_armAt 18 = .ok (.getfield 21, 3) := by decide +kernel
theorem dX9_armAt_21 : decode cX9_armAt 21 = .ok (.iload_n 1, 1) := by decide +kernel
theorem dX9_armAt_22 : decode cX9_armAt 22 = .ok (.iaload, 1) := by decide +kernel
theorem dX9_armAt_23 : decode cX9_armAt 23 = .ok (.ireturn, 1) := by decide +kernel
theorem dX10_init_0 : decode cX10_init 0 = .ok (.aload_n 0, 1) := by decide +kernel
theorem dX10_init_1 : decode cX10_init 1 = .ok (.invokespecial 1, 3) := by decide +kernel
theorem dX10_init_4 : decode cX10_init 4 = .ok (.return_, 1) := by decide +kernel
theorem dX10_leave_0 : decode cX10_leave 0 = .ok (.aload_n 0, 1) := by decide +kernel
theorem dX10_leave_1 : decode cX10_leave 1 = .ok (.bipush 31, 2) := by decide +kernel
theorem dX10_leave_3 : decode cX10_leave 3 = .ok (.aload_n 0, 1) := by decide +kernel
theorem dX10_leave_4 : decode cX10_leave 4 = .ok (.getfield 7, 3) := by decide +kernel
theorem dX10_leave_7 : decode cX10_leave 7 = .ok (.imul, 1) := by decide +kernel
theorem dX10_leave_8 : decode cX10_leave 8 = .ok (.iload_n 1, 1) := by decide +kernel
theorem dX10_leave_9 : decode cX10_leave 9 = .ok (.iadd, 1) := by decide +kernel
theorem dX10_leave_10 : decode cX10_leave 10 = .ok (.putfield 7, 3) := by decide +kernel
theorem dX10_leave_13 : decode cX10_leave 13 = .ok (.return_, 1) := by decide +kernel
theorem dX11_init_0 : decode cX11_init 0 = .ok (.aload_n 0, 1) := by decide +kernel
theorem dX11_init_1 : decode cX11_init 1 = .ok (.invokespecial 3, 3) := by decide +kernel
theorem dX11_init_4 : decode cX11_init 4 = .ok (.aload_n 0, 1) := by decide +kernel
theorem dX11_init_5 : decode cX11_init 5 = .ok (.new 9, 3) := by decide +kernel
theorem dX11_init_8 : decode cX11_init 8 = .ok (.dup, 1) := by decide +kernel
theorem dX11_init_9 : decode cX11_init 9 = .ok (.invokespecial 11, 3) := by decide +kernel
theorem dX11_init_12 : decode cX11_init 12 = .ok (.putfield 12, 3) := by decide +kernel
theorem dX11_init_15 : decode cX11_init 15 = .ok (.aload_n 0, 1) := by decide +kernel
theorem dX11_init_16 : decode cX11_init 16 = .ok (.iconst 5, 1) := by decide +kernel
theorem dX11_init_17 : decode cX11_init 17 = .ok (.anewarray 18, 3) := by decide +kernel
theorem dX11_init_20 : decode cX11_init 20 = .ok (.putfield 20, 3) := by decide +kernel
theorem dX11_init_23 : decode cX11_init 23 = .ok (.aload_n 0, 1) := by decide +kernel
theorem dX11_init_24 : decode cX11_init 24 = .ok (.new 24, 3) := by decide +kernel
theorem dX11_init_27 : decode cX11_init 27 = .ok (.dup, 1) := by decide +kernel
theorem dX11_init_28 : decode cX11_init 28 = .ok (.invokespecial 26, 3) := by decide +kernel
theorem dX11_init_31 : decode cX11_init 31 = .ok (.putfield 27, 3) := by decide +kernel
theorem dX11_init_34 : decode cX11_init 34 = .ok (.aload_n 0, 1) := by decide +kernel
theorem dX11_init_35 : decode cX11_init 35 = .ok (.iconst 4, 1) := by decide +kernel
theorem dX11_init_36 : decode cX11_init 36 = .ok (.anewarray 31, 3) := by decide +kernel
theorem dX11_init_39 : decode cX11_init 39 = .ok (.putfield 33, 3) := by decide +kernel
theorem dX11_init_42 : decode cX11_init 42 = .ok (.aload_n 0, 1) := by decide +kernel
theorem dX11_init_43 : decode cX11_init 43 = .ok (.new 37, 3) := by decide +kernel
theorem dX11_init_46 : decode cX11_init 46 = .ok (.dup, 1) := by decide +kernel
theorem dX11_init_47 : decode cX11_init 47 = .ok (.invokespecial 39, 3) := by decide +kernel
theorem dX11_init_50 : decode cX11_init 50 = .ok (.putfield 40, 3) := by decide +kernel
theorem dX11_init_53 : decode cX11_init 53 = .ok (.aload_n 0, 1) := by decide +kernel
theorem dX11_init_54 : decode cX11_init 54 = .ok (.new 44, 3) := by decide +kernel
theorem dX11_init_57 : decode cX11_init 57 = .ok (.dup, 1) := by decide +kernel
theorem dX11_init_58 : decode cX11_init 58 = .ok (.invokespecial 46, 3) := by decide +kernel
theorem dX11_init_61 : decode cX11_init 61 = .ok (.putfield 47, 3) := by decide +kernel
theorem dX11_init_64 : decode cX11_init 64 = .ok (.aload_n 0, 1) := by decide +kernel
theorem dX11_init_65 : decode cX11_init 65 = .ok (.new 51, 3) := by decide +kernel
theorem dX11_init_68 : decode cX11_init 68 = .ok (.dup, 1) := by decide +kernel
theorem dX11_init_69 : decode cX11_init 69 = .ok (.invokespecial 53, 3) := by decide +kernel
theorem dX11_init_72 : decode cX11_init 72 = .ok (.putfield 54, 3) := by decide +kernel
theorem dX11_init_75 : decode cX11_init 75 = .ok (.aload_n 0, 1) := by decide +kernel
theorem dX11_init_76 : decode cX11_init 76 = .ok (.new 58, 3) := by decide +kernel
theorem dX11_init_79 : decode cX11_init 79 = .ok (.dup, 1) := by decide +kernel
theorem dX11_init_80 : decode cX11_init 80 = .ok (.invokespecial 60, 3) := by decide +kernel
theorem dX11_init_83 : decode cX11_init 83 = .ok (.putfield 61, 3) := by decide +kernel
theorem dX11_init_86 : decode cX11_init 86 = .ok (.iconst 0, 1) := by decide +kernel
theorem dX11_init_87 : decode cX11_init 87 = .ok (.istore_n 1, 1) := by decide +kernel
theorem dX11_init_88 : decode cX11_init 88 = .ok (.iload_n 1, 1) := by decide +kernel
theorem dX11_init_89 : decode cX11_init 89 = .ok (.aload_n 0, 1) := by decide +kernel
theorem dX11_init_90 : decode cX11_init 90 = .ok (.getfield 33, 3) := by decide +kernel
theorem dX11_init_93 : decode cX11_init 93 = .ok (.arraylength, 1) := by decide +kernel
theorem dX11_init_94 : decode cX11_init 94 = .ok (.if_icmp .ge 22, 3) := by decide +kernel
theorem dX11_init_97 : decode cX11_init 97 = .ok (.aload_n 0, 1) := by decide +kernel
theorem dX11_init_98 : decode cX11_init 98 = .ok (.getfield 33, 3) := by decide +kernel
theorem dX11_init_101 : decode cX11_init 101 = .ok (.iload_n 1, 1) := by decide +kernel
theorem dX11_init_102 : decode cX11_init 102 = .ok (.new 31, 3) := by decide +kernel
theorem dX11_init_105 : decode cX11_init 105 = .ok (.dup, 1) := by decide +kernel
theorem dX11_init_106 : decode cX11_init 106 = .ok (.invokespecial 65, 3) := by decide +kernel
theorem dX11_init_109 : decode cX11_init 109 = .ok (.aastore, 1) := by decide +kernel
theorem dX11_init_110 : decode cX11_init 110 = .ok (.iinc 1 1, 3) := by decide +kernel
theorem dX11_init_113 : decode cX11_init 113 = .ok (.goto (-25), 3) := by decide +kernel
theorem dX11_init_116 : decode cX11_init 116 = .ok (.return_, 1) := by decide +kernel
theorem dX11_dale_0 : decode cX11_dale 0 = .ok (.aload_n 0, 1) := by decide +kernel
theorem dX11_dale_1 : decode cX11_dale 1 = .ok (.iconst 0, 1) := by decide +kernel
theorem dX11_dale_2 : decode cX11_dale 2 = .ok (.putfield 66, 3) := by decide +kernel
theorem dX11_dale_5 : decode cX11_dale 5 = .ok (.aload_n 0, 1) := by decide +kernel
theorem dX11_dale_6 : decode cX11_dale 6 = .ok (.iload_n 1, 1) := by decide +kernel
theorem dX11_dale_7 : decode cX11_dale 7 = .ok (.invokevirtual 70, 3) := by decide +kernel
theorem dX11_dale_10 : decode cX11_dale 10 = .ok (.astore 5, 2) := by decide +kernel
theorem dX11_dale_12 : decode cX11_dale 12 = .ok (.aload 5, 2) := by decide +kernel
theorem dX11_dale_14 : decode cX11_dale 14 = .ok (.ifnonnull 5, 3) := by decide +kernel
theorem dX11_dale_17 : decode cX11_dale 17 = .ok (.iconst (-1), 1) := by decide +kernel
theorem dX11_dale_18 : decode cX11_dale 18 = .ok (.ireturn, 1) := by decide +kernel
theorem dX11_dale_19 : decode cX11_dale 19 = .ok (.iload_n 2, 1) := by decide +kernel
theorem dX11_dale_20 : decode cX11_dale 20 = .ok (.invokestatic 74, 3) := by decide +kernel
theorem dX11_dale_23 : decode cX11_dale 23 = .ok (.ifCond .ne 6, 3) := by decide +kernel
theorem dX11_dale_26 : decode cX11_dale 26 = .ok (.bipush (-2), 2) := by decide +kernel
theorem dX11_dale_28 : decode cX11_dale 28 = .ok (.ireturn, 1) := by decide +kernel
theorem dX11_dale_29 : decode cX11_dale 29 = .ok (.aload 5, 2) := by decide +kernel
theorem dX11_dale_31 : decode cX11_dale 31 = .ok (.iload_n 2, 1) := by decide +kernel
theorem dX11_dale_32 : decode cX11_dale 32 = .ok (.invokevirtual 78, 3) := by decide +kernel
theorem dX11_dale_35 : decode cX11_dale 35 = .ok (.istore 6, 2) := by decide +kernel
theorem dX11_dale_37 : decode cX11_dale 37 = .ok (.iload 6, 2) := by decide +kernel
theorem dX11_dale_39 : decode cX11_dale 39 = .ok (.ifCond .ne 11, 3) := by decide +kernel
theorem dX11_dale_42 : decode cX11_dale 42 = .ok (.iload 4, 2) := by decide +kernel
theorem dX11_dale_44 : decode cX11_dale 44 = .ok (.ifCond .ge 6, 3) := by decide +kernel
theorem dX11_dale_47 : decode cX11_dale 47 = .ok (.iconst 4, 1) := by decide +kernel
theorem dX11_dale_48 : decode cX11_dale 48 = .ok (.istore 6, 2) := by decide +kernel
theorem dX11_dale_50 : decode cX11_dale 50 = .ok (.iload 6, 2) := by decide +kernel
theorem dX11_dale_52 : decode cX11_dale 52 = .ok (.ifCond .ne 17, 3) := by decide +kernel
theorem dX11_dale_55 : decode cX11_dale 55 = .ok (.aload 5, 2) := by decide +kernel
theorem dX11_dale_57 : decode cX11_dale 57 = .ok (.iload_n 3, 1) := by decide +kernel
theorem dX11_dale_58 : decode cX11_dale 58 = .ok (.iload 4, 2) := by decide +kernel
theorem dX11_dale_60 : decode cX11_dale 60 = .ok (.invokevirtual 82, 3) := by decide +kernel
theorem dX11_dale_63 : decode cX11_dale 63 = .ok (.ifCond .ne 6, 3) := by decide +kernel
theorem dX11_dale_66 : decode cX11_dale 66 = .ok (.iconst 3, 1) := by decide +kernel
theorem dX11_dale_67 : decode cX11_dale 67 = .ok (.istore 6, 2) := by decide +kernel
theorem dX11_dale_69 : decode cX11_dale 69 = .ok (.iload 6, 2) := by decide +kernel
theorem dX11_dale_71 : decode cX11_dale 71 = .ok (.ifCond .eq 10, 3) := by decide +kernel
theorem dX11_dale_74 : decode cX11_dale 74 = .ok (.aload_n 0, 1) := by decide +kernel
theorem dX11_dale_75 : decode cX11_dale 75 = .ok (.iload 6, 2) := by decide +kernel
theorem dX11_dale_77 : decode cX11_dale 77 = .ok (.invokevirtual 86, 3) := by decide +kernel
theorem dX11_dale_80 : decode cX11_dale 80 = .ok (.ireturn, 1) := by decide +kernel
theorem dX11_dale_81 : decode cX11_dale 81 = .ok (.aload_n 0, 1) := by decide +kernel
theorem dX11_dale_82 : decode cX11_dale 82 = .ok (.getfield 47, 3) := by decide +kernel
theorem dX11_dale_85 : decode cX11_dale 85 = .ok (.aload 5, 2) := by decide +kernel
theorem dX11_dale_87 : decode cX11_dale 87 = .ok (.iload_n 3, 1) := by decide +kernel
theorem dX11_dale_88 : decode cX11_dale 88 = .ok (.iload 4, 2) := by decide +kernel
theorem dX11_dale_90 : decode cX11_dale 90 = .ok (.invokevirtual 89, 3) := by decide +kernel
theorem dX11_dale_93 : decode cX11_dale 93 = .ok (.istore 7, 2) := by decide +kernel
theorem dX11_dale_95 : decode cX11_dale 95 = .ok (.iload 7, 2) := by decide +kernel
theorem dX11_dale_97 : decode cX11_dale 97 = .ok (.bipush (-9), 2) := by decide +kernel
theorem dX11_dale_99 : decode cX11_dale 99 = .ok (.if_icmp .eq 9, 3) := by decide +kernel
theorem dX11_dale_102 : decode cX11_dale 102 = .ok (.bipush (-100), 2) := by decide +kernel
theorem dX11_dale_104 : decode cX11_dale 104 = .ok (.iload 7, 2) := by decide +kernel
theorem dX11_dale_106 : decode cX11_dale 106 = .ok (.isub, 1) := by decide +kernel
theorem dX11_dale_107 : decode cX11_dale 107 = .ok (.ireturn, 1) := by decide +kernel
theorem dX11_dale_108 : decode cX11_dale 108 = .ok (.aload_n 0, 1) := by decide +kernel
theorem dX11_dale_109 : decode cX11_dale 109 = .ok (.invokevirtual 93, 3) := by decide +kernel
theorem dX11_dale_112 : decode cX11_dale 112 = .ok (.aload_n 0, 1) := by decide +kernel
theorem dX11_dale_113 : decode cX11_dale 113 = .ok (.getfield 96, 3) := by decide +kernel
theorem dX11_dale_116 : decode cX11_dale 116 = .ok (.ireturn, 1) := by decide +kernel
theorem dX11_ofGirl_0 : decode cX11_ofGirl 0 = .ok (.aload_n 0, 1) := by decide +kernel
theorem dX11_ofGirl_1 : decode cX11_ofGirl 1 = .ok (.getfield 12, 3) := by decide +kernel
theorem dX11_ofGirl_4 : decode cX11_ofGirl 4 = .ok (.iload_n 1, 1) := by decide +kernel
theorem dX11_ofGirl_5 : decode cX11_ofGirl 5 = .ok (.invokevirtual 99, 3) := by decide +kernel
theorem dX11_ofGirl_8 : decode cX11_ofGirl 8 = .ok (.astore_n 3, 1) := by decide +kernel
theorem dX11_ofGirl_9 : decode cX11_ofGirl 9 = .ok (.aload_n 3, 1) := by decide +kernel
theorem dX11_ofGirl_10 : decode cX11_ofGirl 10 = .ok (.ifnonnull 5, 3) := by decide +kernel
theorem dX11_ofGirl_13 : decode cX11_ofGirl 13 = .ok (.iconst (-1), 1) := by decide +kernel
theorem dX11_ofGirl_14 : decode cX11_ofGirl 14 = .ok (.ireturn, 1) := by decide +kernel
theorem dX11_ofGirl_15 : decode cX11_ofGirl 15 = .ok (.iload_n 2, 1) := by decide +kernel
theorem dX11_ofGirl_16 : decode cX11_ofGirl 16 = .ok (.tableswitch 70 0 5 #[40, 45, 50, 55, 60, 65], 40) := by decide +kernel
theorem dX11_ofGirl_56 : decode cX11_ofGirl 56 = .ok (.aload_n 3, 1) := by decide +kernel
theorem dX11_ofGirl_57 : decode cX11_ofGirl 57 = .ok (.getfield 103, 3) := by decide +kernel
theorem dX11_ofGirl_60 : decode cX11_ofGirl 60 = .ok (.ireturn, 1) := by decide +kernel
theorem dX11_ofGirl_61 : decode cX11_ofGirl 61 = .ok (.aload_n 3, 1) := by decide +kernel
theorem dX11_ofGirl_62 : decode cX11_ofGirl 62 = .ok (.getfield 108, 3) := by decide +kernel
theorem dX11_ofGirl_65 : decode cX11_ofGirl 65 = .ok (.ireturn, 1) := by decide +kernel
theorem dX11_ofGirl_66 : decode cX11_ofGirl 66 = .ok (.aload_n 3, 1) := by decide +kernel
theorem dX11_ofGirl_67 : decode cX11_ofGirl 67 = .ok (.getfield 111, 3) := by decide +kernel
theorem dX11_ofGirl_70 : decode cX11_ofGirl 70 = .ok (.ireturn, 1) := by decide +kernel
theorem dX11_ofGirl_71 : decode cX11_ofGirl 71 = .ok (.aload_n 3, 1) := by decide +kernel
theorem dX11_ofGirl_72 : decode cX11_ofGirl 72 = .ok (.invokevirtual 114, 3) := by decide +kernel
theorem dX11_ofGirl_75 : decode cX11_ofGirl 75 = .ok (.ireturn, 1) := by decide +kernel
theorem dX11_ofGirl_76 : decode cX11_ofGirl 76 = .ok (.aload_n 3, 1) := by decide +kernel
theorem dX11_ofGirl_77 : decode cX11_ofGirl 77 = .ok (.invokevirtual 118, 3) := by decide +kernel
theorem dX11_ofGirl_80 : decode cX11_ofGirl 80 = .ok (.ireturn, 1) := by decide +kernel
theorem dX11_ofGirl_81 : decode cX11_ofGirl 81 = .ok (.aload_n 3, 1) := by decide +kernel
theorem dX11_ofGirl_82 : decode cX11_ofGirl 82 = .ok (.invokevirtual 121, 3) := by decide +kernel
theorem dX11_ofGirl_85 : decode cX11_ofGirl 85 = .ok (.ireturn, 1) := by decide +kernel
theorem dX11_ofGirl_86 : decode cX11_ofGirl 86 = .ok (.bipush (-2), 2) := by decide +kernel
theorem dX11_ofGirl_88 : decode cX11_ofGirl 88 = .ok (.ireturn, 1) := by decide +kernel
theorem dX11_ofThrower_0 : decode cX11_ofThrower 0 = .ok (.aload_n 0, 1) := by decide +kernel
theorem dX11_ofThrower_1 : decode cX11_ofThrower 1 = .ok (.iload_n 1, 1) := by decide +kernel
theorem dX11_ofThrower_2 : decode cX11_ofThrower 2 = .ok (.invokevirtual 124, 3) := by decide +kernel
theorem dX11_ofThrower_5 : decode cX11_ofThrower 5 = .ok (.astore_n 3, 1) := by decide +kernel
theorem dX11_ofThrower_6 : decode cX11_ofThrower 6 = .ok (.aload_n 3, 1) := by decide +kernel
theorem dX11_ofThrower_7 : decode cX11_ofThrower 7 = .ok (.ifnonnull 5, 3) := by decide +kernel
theorem dX11_ofThrower_10 : decode cX11_ofThrower 10 = .ok (.iconst (-1), 1) := by decide +kernel
theorem dX11_ofThrower_11 : decode cX11_ofThrower 11 = .ok (.ireturn, 1) := by decide +kernel
theorem dX11_ofThrower_12 : decode cX11_ofThrower 12 = .ok (.iload_n 2, 1) := by decide +kernel
theorem dX11_ofThrower_13 : decode cX11_ofThrower 13 = .ok (.tableswitch 68 0 4 #[35, 40, 45, 50, 59], 35) := by decide +kernel
theorem dX11_ofThrower_48 : decode cX11_ofThrower 48 = .ok (.aload_n 3, 1) := by decide +kernel
theorem dX11_ofThrower_49 : decode cX11_ofThrower 49 = .ok (.invokevirtual 128, 3) := by decide +kernel
theorem dX11_ofThrower_52 : decode cX11_ofThrower 52 = .ok (.ireturn, 1) := by decide +kernel
theorem dX11_ofThrower_53 : decode cX11_ofThrower 53 = .ok (.aload_n 3, 1) := by decide +kernel
theorem dX11_ofThrower_54 : decode cX11_ofThrower 54 = .ok (.getfield 131, 3) := by decide +kernel
theorem dX11_ofThrower_57 : decode cX11_ofThrower 57 = .ok (.ireturn, 1) := by decide +kernel
theorem dX11_ofThrower_58 : decode cX11_ofThrower 58 = .ok (.aload_n 3, 1) := by decide +kernel
theorem dX11_ofThrower_59 : decode cX11_ofThrower 59 = .ok (.invokevirtual 134, 3) := by decide +kernel
theorem dX11_ofThrower_62 : decode cX11_ofThrower 62 = .ok (.ireturn, 1) := by decide +kernel
theorem dX11_ofThrower_63 : decode cX11_ofThrower 63 = .ok (.aload_n 0, 1) := by decide +kernel
theorem dX11_ofThrower_64 : decode cX11_ofThrower 64 = .ok (.getfield 12, 3) := by decide +kernel
theorem dX11_ofThrower_67 : decode cX11_ofThrower 67 = .ok (.iload_n 1, 1) := by decide +kernel
theorem dX11_ofThrower_68 : decode cX11_ofThrower 68 = .ok (.invokevirtual 137, 3) := by decide +kernel
theorem dX11_ofThrower_71 : decode cX11_ofThrower 71 = .ok (.ireturn, 1) := by decide +kernel
theorem dX11_ofThrower_72 : decode cX11_ofThrower 72 = .ok (.aload_n 0, 1) := by decide +kernel
theorem dX11_ofThrower_73 : decode cX11_ofThrower 73 = .ok (.getfield 12, 3) := by decide +kernel
theorem dX11_ofThrower_76 : decode cX11_ofThrower 76 = .ok (.iload_n 1, 1) := by decide +kernel
theorem dX11_ofThrower_77 : decode cX11_ofThrower 77 = .ok (.invokevirtual 140, 3) := by decide +kernel
theorem dX11_ofThrower_80 : decode cX11_ofThrower 80 = .ok (.ireturn, 1) := by decide +kernel
theorem dX11_ofThrower_81 : decode cX11_ofThrower 81 = .ok (.bipush (-2), 2) := by decide +kernel
theorem dX11_ofThrower_83 : decode cX11_ofThrower 83 = .ok (.ireturn, 1) := by decide +kernel
theorem dX11_freeze_0 : decode cX11_freeze 0 = .ok (.iload_n 1, 1) := by decide +kernel
theorem dX11_freeze_1 : decode cX11_freeze 1 = .ok (.iconst 0, 1) := by decide +kernel
theorem dX11_freeze_2 : decode cX11_freeze 2 = .ok (.iconst 3, 1) := by decide +kernel
theorem dX11_freeze_3 : decode cX11_freeze 3 = .ok (.invokestatic 143, 3) := by decide +kernel
theorem dX11_freeze_6 : decode cX11_freeze 6 = .ok (.ifCond .ne 6, 3) := by decide +kernel
theorem dX11_freeze_9 : decode cX11_freeze 9 = .ok (.bipush (-2), 2) := by decide +kernel
theorem dX11_freeze_11 : decode cX11_freeze 11 = .ok (.ireturn, 1) := by decide +kernel
theorem dX11_freeze_12 : decode cX11_freeze 12 = .ok (.aload_n 0, 1) := by decide +kernel
theorem dX11_freeze_13 : decode cX11_freeze 13 = .ok (.getfield 96, 3) := by decide +kernel
theorem dX11_freeze_16 : decode cX11_freeze 16 = .ok (.ifCond .ne 6, 3) := by decide +kernel
theorem dX11_freeze_19 : decode cX11_freeze 19 = .ok (.bipush (-3), 2) := by decide +kernel
theorem dX11_freeze_21 : decode cX11_freeze 21 = .ok (.ireturn, 1) := by decide +kernel
theorem dX11_freeze_22 : decode cX11_freeze 22 = .ok (.aload_n 0, 1) := by decide +kernel
theorem dX11_freeze_23 : decode cX11_freeze 23 = .ok (.getfield 12, 3) := by decide +kernel
theorem dX11_freeze_26 : decode cX11_freeze 26 = .ok (.getfield 147, 3) := by decide +kernel
theorem dX11_freeze_29 : decode cX11_freeze 29 = .ok (.istore_n 2, 1) := by decide +kernel
theorem dX11_freeze_30 : decode cX11_freeze 30 = .ok (.aload_n 0, 1) := by decide +kernel
theorem dX11_freeze_31 : decode cX11_freeze 31 = .ok (.getfield 12, 3) := by decide +kernel
theorem dX11_freeze_34 : decode cX11_freeze 34 = .ok (.iload_n 1, 1) := by decide +kernel
theorem dX11_freeze_35 : decode cX11_freeze 35 = .ok (.putfield 147, 3) := by decide +kernel
theorem dX11_freeze_38 : decode cX11_freeze 38 = .ok (.iload_n 2, 1) := by decide +kernel
theorem dX11_freeze_39 : decode cX11_freeze 39 = .ok (.ireturn, 1) := by decide +kernel
theorem dX11_lean_0 : decode cX11_lean 0 = .ok (.aload_n 0, 1) := by decide +kernel
theorem dX11_lean_1 : decode cX11_lean 1 = .ok (.getfield 12, 3) := by decide +kernel
theorem dX11_lean_4 : decode cX11_lean 4 = .ok (.iload_n 1, 1) := by decide +kernel
theorem dX11_lean_5 : decode cX11_lean 5 = .ok (.invokevirtual 99, 3) := by decide +kernel
theorem dX11_lean_8 : decode cX11_lean 8 = .ok (.astore_n 3, 1) := by decide +kernel
theorem dX11_lean_9 : decode cX11_lean 9 = .ok (.aload_n 3, 1) := by decide +kernel
theorem dX11_lean_10 : decode cX11_lean 10 = .ok (.ifnonnull 5, 3) := by decide +kernel
theorem dX11_lean_13 : decode cX11_lean 13 = .ok (.iconst (-1), 1) := by decide +kernel
theorem dX11_lean_14 : decode cX11_lean 14 = .ok (.ireturn, 1) := by decide +kernel
theorem dX11_lean_15 : decode cX11_lean 15 = .ok (.iload_n 2, 1) := by decide +kernel
theorem dX11_lean_16 : decode cX11_lean 16 = .ok (.iconst 0, 1) := by decide +kernel
theorem dX11_lean_17 : decode cX11_lean 17 = .ok (.bipush 9, 2) := by decide +kernel
theorem dX11_lean_19 : decode cX11_lean 19 = .ok (.invokestatic 143, 3) := by decide +kernel
theorem dX11_lean_22 : decode cX11_lean 22 = .ok (.ifCond .ne 6, 3) := by decide +kernel
theorem dX11_lean_25 : decode cX11_lean 25 = .ok (.bipush (-2), 2) := by decide +kernel
theorem dX11_lean_27 : decode cX11_lean 27 = .ok (.ireturn, 1) := by decide +kernel
theorem dX11_lean_28 : decode cX11_lean 28 = .ok (.aload_n 3, 1) := by decide +kernel
theorem dX11_lean_29 : decode cX11_lean 29 = .ok (.getfield 108, 3) := by decide +kernel
theorem dX11_lean_32 : decode cX11_lean 32 = .ok (.istore 4, 2) := by decide +kernel
theorem dX11_lean_34 : decode cX11_lean 34 = .ok (.aload_n 3, 1) := by decide +kernel
theorem dX11_lean_35 : decode cX11_lean 35 = .ok (.iload_n 2, 1) := by decide +kernel
theorem dX11_lean_36 : decode cX11_lean 36 = .ok (.putfield 108, 3) := by decide +kernel
theorem dX11_lean_39 : decode cX11_lean 39 = .ok (.iload 4, 2) := by decide +kernel
theorem dX11_lean_41 : decode cX11_lean 41 = .ok (.ireturn, 1) := by decide +kernel
theorem dX11_place_0 : decode cX11_place 0 = .ok (.aload_n 0, 1) := by decide +kernel
theorem dX11_place_1 : decode cX11_place 1 = .ok (.getfield 12, 3) := by decide +kernel
theorem dX11_place_4 : decode cX11_place 4 = .ok (.iload_n 1, 1) := by decide +kernel
theorem dX11_place_5 : decode cX11_place 5 = .ok (.invokevirtual 99, 3) := by decide +kernel
theorem dX11_place_8 : decode cX11_place 8 = .ok (.astore_n 3, 1) := by decide +kernel
theorem dX11_place_9 : decode cX11_place 9 = .ok (.aload_n 3, 1) := by decide +kernel
theorem dX11_place_10 : decode cX11_place 10 = .ok (.ifnonnull 5, 3) := by decide +kernel
theorem dX11_place_13 : decode cX11_place 13 = .ok (.iconst (-1), 1) := by decide +kernel
theorem dX11_place_14 : decode cX11_place 14 = .ok (.ireturn, 1) := by decide +kernel
theorem dX11_place_15 : decode cX11_place 15 = .ok (.iload_n 2, 1) := by decide +kernel
theorem dX11_place_16 : decode cX11_place 16 = .ok (.iconst 1, 1) := by decide +kernel
theorem dX11_place_17 : decode cX11_place 17 = .ok (.bipush 9, 2) := by decide +kernel
theorem dX11_place_19 : decode cX11_place 19 = .ok (.invokestatic 143, 3) := by decide +kernel
theorem dX11_place_22 : decode cX11_place 22 = .ok (.ifCond .ne 6, 3) := by decide +kernel
theorem dX11_place_25 : decode cX11_place 25 = .ok (.bipush (-2), 2) := by decide +kernel
theorem dX11_place_27 : decode cX11_place 27 = .ok (.ireturn, 1) := by decide +kernel
theorem dX11_place_28 : decode cX11_place 28 = .ok (.aload_n 3, 1) := by decide +kernel
theorem dX11_place_29 : decode cX11_place 29 = .ok (.getfield 103, 3) := by decide +kernel
theorem dX11_place_32 : decode cX11_place 32 = .ok (.istore 4, 2) := by decide +kernel
theorem dX11_place_34 : decode cX11_place 34 = .ok (.aload_n 3, 1) := by decide +kernel
theorem dX11_place_35 : decode cX11_place 35 = .ok (.iload_n 2, 1) := by decide +kernel
theorem dX11_place_36 : decode cX11_place 36 = .ok (.putfield 103, 3) := by decide +kernel
theorem dX11_place_39 : decode cX11_place 39 = .ok (.iload 4, 2) := by decide +kernel
theorem dX11_place_41 : decode cX11_place 41 = .ok (.ireturn, 1) := by decide +kernel
theorem dX11_train_0 : decode cX11_train 0 = .ok (.aload_n 0, 1) := by decide +kernel
theorem dX11_train_1 : decode cX11_train 1 = .ok (.iload_n 1, 1) := by decide +kernel
theorem dX11_train_2 : decode cX11_train 2 = .ok (.invokevirtual 124, 3) := by decide +kernel
theorem dX11_train_5 : decode cX11_train 5 = .ok (.astore_n 3, 1) := by decide +kernel
theorem dX11_train_6 : decode cX11_train 6 = .ok (.aload_n 3, 1) := by decide +kernel
theorem dX11_train_7 : decode cX11_train 7 = .ok (.ifnonnull 5, 3) := by decide +kernel
theorem dX11_train_10 : decode cX11_train 10 = .ok (.iconst (-1), 1) := by decide +kernel
theorem dX11_train_11 : decode cX11_train 11 = .ok (.ireturn, 1) := by decide +kernel
theorem dX11_train_12 : decode cX11_train 12 = .ok (.iload_n 2, 1) := by decide +kernel
theorem dX11_train_13 : decode cX11_train 13 = .ok (.iconst 1, 1) := by decide +kernel
theorem dX11_train_14 : decode cX11_train 14 = .ok (.bipush 9, 2) := by decide +kernel
theorem dX11_train_16 : decode cX11_train 16 = .ok (.invokestatic 143, 3) := by decide +kernel
theorem dX11_train_19 : decode cX11_train 19 = .ok (.ifCond .ne 6, 3) := by decide +kernel
theorem dX11_train_22 : decode cX11_train 22 = .ok (.bipush (-2), 2) := by decide +kernel
theorem dX11_train_24 : decode cX11_train 24 = .ok (.ireturn, 1) := by decide +kernel
theorem dX11_train_25 : decode cX11_train 25 = .ok (.aload_n 3, 1) := by decide +kernel
theorem dX11_train_26 : decode cX11_train 26 = .ok (.getfield 131, 3) := by decide +kernel
theorem dX11_train_29 : decode cX11_train 29 = .ok (.istore 4, 2) := by decide +kernel
theorem dX11_train_31 : decode cX11_train 31 = .ok (.aload_n 3, 1) := by decide +kernel
theorem dX11_train_32 : decode cX11_train 32 = .ok (.iload_n 2, 1) := by decide +kernel
theorem dX11_train_33 : decode cX11_train 33 = .ok (.putfield 131, 3) := by decide +kernel
theorem dX11_train_36 : decode cX11_train 36 = .ok (.iload 4, 2) := by decide +kernel
theorem dX11_train_38 : decode cX11_train 38 = .ok (.ireturn, 1) := by decide +kernel
theorem dX11_measure_0 : decode cX11_measure 0 = .ok (.aload_n 0, 1) := by decide +kernel
theorem dX11_measure_1 : decode cX11_measure 1 = .ok (.iload_n 1, 1) := by decide +kernel
theorem dX11_measure_2 : decode cX11_measure 2 = .ok (.invokevirtual 124, 3) := by decide +kernel
theorem dX11_measure_5 : decode cX11_measure 5 = .ok (.astore_n 3, 1) := by decide +kernel
theorem dX11_measure_6 : decode cX11_measure 6 = .ok (.aload_n 0, 1) := by decide +kernel
theorem dX11_measure_7 : decode cX11_measure 7 = .ok (.getfield 12, 3) := by decide +kernel
theorem dX11_measure_10 : decode cX11_measure 10 = .ok (.iload_n 2, 1) := by decide +kernel
theorem dX11_measure_11 : decode cX11_measure 11 = .ok (.invokevirtual 99, 3) := by decide +kernel
theorem dX11_measure_14 : decode cX11_measure 14 = .ok (.astore 4, 2) := by decide +kernel
theorem dX11_measure_16 : decode cX11_measure 16 = .ok (.aload_n 3, 1) := by decide +kernel
theorem dX11_measure_17 : decode cX11_measure 17 = .ok (.ifnull 8, 3) := by decide +kernel
theorem dX11_measure_20 : decode cX11_measure 20 = .ok (.aload 4, 2) := by decide +kernel
theorem dX11_measure_22 : decode cX11_measure 22 = .ok (.ifnonnull 5, 3) := by decide +kernel
theorem dX11_measure_25 : decode cX11_measure 25 = .ok (.iconst (-1), 1) := by decide +kernel
theorem dX11_measure_26 : decode cX11_measure 26 = .ok (.ireturn, 1) := by decide +kernel
theorem dX11_measure_27 : decode cX11_measure 27 = .ok (.aload 4, 2) := by decide +kernel
theorem dX11_measure_29 : decode cX11_measure 29 = .ok (.aload_n 3, 1) := by decide +kernel
theorem dX11_measure_30 : decode cX11_measure 30 = .ok (.invokevirtual 134, 3) := by decide +kernel
theorem dX11_measure_33 : decode cX11_measure 33 = .ok (.aload_n 0, 1) := by decide +kernel
theorem dX11_measure_34 : decode cX11_measure 34 = .ok (.getfield 12, 3) := by decide +kernel
theorem dX11_measure_37 : decode cX11_measure 37 = .ok (.getfield 147, 3) := by decide +kernel
theorem dX11_measure_40 : decode cX11_measure 40 = .ok (.invokevirtual 150, 3) := by decide +kernel
theorem dX11_measure_43 : decode cX11_measure 43 = .ok (.ireturn, 1) := by decide +kernel
theorem dX11_hurl_0 : decode cX11_hurl 0 = .ok (.aload_n 0, 1) := by decide +kernel
theorem dX11_hurl_1 : decode cX11_hurl 1 = .ok (.iload_n 1, 1) := by decide +kernel
theorem dX11_hurl_2 : decode cX11_hurl 2 = .ok (.invokevirtual 124, 3) := by decide +kernel
theorem dX11_hurl_5 : decode cX11_hurl 5 = .ok (.astore_n 3, 1) := by decide +kernel
theorem dX11_hurl_6 : decode cX11_hurl 6 = .ok (.aload_n 0, 1) := by decide +kernel
theorem dX11_hurl_7 : decode cX11_hurl 7 = .ok (.getfield 12, 3) := by decide +kernel
theorem dX11_hurl_10 : decode cX11_hurl 10 = .ok (.iload_n 2, 1) := by decide +kernel
theorem dX11_hurl_11 : decode cX11_hurl 11 = .ok (.invokevirtual 99, 3) := by decide +kernel
theorem dX11_hurl_14 : decode cX11_hurl 14 = .ok (.astore 4, 2) := by decide +kernel
theorem dX11_hurl_16 : decode cX11_hurl 16 = .ok (.aload_n 3, 1) := by decide +kernel
theorem dX11_hurl_17 : decode cX11_hurl 17 = .ok (.ifnull 8, 3) := by decide +kernel
theorem dX11_hurl_20 : decode cX11_hurl 20 = .ok (.aload 4, 2) := by decide +kernel
theorem dX11_hurl_22 : decode cX11_hurl 22 = .ok (.ifnonnull 5, 3) := by decide +kernel
theorem dX11_hurl_25 : decode cX11_hurl 25 = .ok (.iconst (-1), 1) := by decide +kernel
theorem dX11_hurl_26 : decode cX11_hurl 26 = .ok (.ireturn, 1) := by decide +kernel
theorem dX11_hurl_27 : decode cX11_hurl 27 = .ok (.aload 4, 2) := by decide +kernel
theorem dX11_hurl_29 : decode cX11_hurl 29 = .ok (.invokevirtual 154, 3) := by decide +kernel
theorem dX11_hurl_32 : decode cX11_hurl 32 = .ok (.ifCond .eq 6, 3) := by decide +kernel
theorem dX11_hurl_35 : decode cX11_hurl 35 = .ok (.bipush (-4), 2) := by decide +kernel
theorem dX11_hurl_37 : decode cX11_hurl 37 = .ok (.ireturn, 1) := by decide +kernel
theorem dX11_hurl_38 : decode cX11_hurl 38 = .ok (.aload 4, 2) := by decide +kernel
theorem dX11_hurl_40 : decode cX11_hurl 40 = .ok (.aload_n 3, 1) := by decide +kernel
theorem dX11_hurl_41 : decode cX11_hurl 41 = .ok (.invokevirtual 134, 3) := by decide +kernel
theorem dX11_hurl_44 : decode cX11_hurl 44 = .ok (.aload_n 0, 1) := by decide +kernel
theorem dX11_hurl_45 : decode cX11_hurl 45 = .ok (.getfield 12, 3) := by decide +kernel
theorem dX11_hurl_48 : decode cX11_hurl 48 = .ok (.getfield 147, 3) := by decide +kernel
theorem dX11_hurl_51 : decode cX11_hurl 51 = .ok (.invokevirtual 150, 3) := by decide +kernel
theorem dX11_hurl_54 : decode cX11_hurl 54 = .ok (.istore 5, 2) := by decide +kernel
theorem dX11_hurl_56 : decode cX11_hurl 56 = .ok (.aload 4, 2) := by decide +kernel
theorem dX11_hurl_58 : decode cX11_hurl 58 = .ok (.iload_n 1, 1) := by decide +kernel
theorem dX11_hurl_59 : decode cX11_hurl 59 = .ok (.iload 5, 2) := by decide +kernel
theorem dX11_hurl_61 : decode cX11_hurl 61 = .ok (.invokevirtual 158, 3) := by decide +kernel
theorem dX11_hurl_64 : decode cX11_hurl 64 = .ok (.iload 5, 2) := by decide +kernel
theorem dX11_hurl_66 : decode cX11_hurl 66 = .ok (.ireturn, 1) := by decide +kernel
theorem dX11_lift_0 : decode cX11_lift 0 = .ok (.aload_n 0, 1) := by decide +kernel
theorem dX11_lift_1 : decode cX11_lift 1 = .ok (.getfield 12, 3) := by decide +kernel
theorem dX11_lift_4 : decode cX11_lift 4 = .ok (.iload_n 1, 1) := by decide +kernel
theorem dX11_lift_5 : decode cX11_lift 5 = .ok (.invokevirtual 99, 3) := by decide +kernel
theorem dX11_lift_8 : decode cX11_lift 8 = .ok (.astore_n 2, 1) := by decide +kernel
theorem dX11_lift_9 : decode cX11_lift 9 = .ok (.aload_n 2, 1) := by decide +kernel
theorem dX11_lift_10 : decode cX11_lift 10 = .ok (.ifnonnull 5, 3) := by decide +kernel
theorem dX11_lift_13 : decode cX11_lift 13 = .ok (.iconst (-1), 1) := by decide +kernel
theorem dX11_lift_14 : decode cX11_lift 14 = .ok (.ireturn, 1) := by decide +kernel
theorem dX11_lift_15 : decode cX11_lift 15 = .ok (.aload_n 2, 1) := by decide +kernel
theorem dX11_lift_16 : decode cX11_lift 16 = .ok (.getfield 111, 3) := by decide +kernel
theorem dX11_lift_19 : decode cX11_lift 19 = .ok (.ifCond .ne 6, 3) := by decide +kernel
theorem dX11_lift_22 : decode cX11_lift 22 = .ok (.bipush (-3), 2) := by decide +kernel
theorem dX11_lift_24 : decode cX11_lift 24 = .ok (.ireturn, 1) := by decide +kernel
theorem dX11_lift_25 : decode cX11_lift 25 = .ok (.aload_n 2, 1) := by decide +kernel
theorem dX11_lift_26 : decode cX11_lift 26 = .ok (.invokevirtual 162, 3) := by decide +kernel
theorem dX11_lift_29 : decode cX11_lift 29 = .ok (.ireturn, 1) := by decide +kernel
theorem dX11_clear_0 : decode cX11_clear 0 = .ok (.aload_n 0, 1) := by decide +kernel
theorem dX11_clear_1 : decode cX11_clear 1 = .ok (.getfield 12, 3) := by decide +kernel
theorem dX11_clear_4 : decode cX11_clear 4 = .ok (.iload_n 1, 1) := by decide +kernel
theorem dX11_clear_5 : decode cX11_clear 5 = .ok (.invokevirtual 99, 3) := by decide +kernel
theorem dX11_clear_8 : decode cX11_clear 8 = .ok (.astore_n 2, 1) := by decide +kernel
theorem dX11_clear_9 : decode cX11_clear 9 = .ok (.aload_n 2, 1) := by decide +kernel
theorem dX11_clear_10 : decode cX11_clear 10 = .ok (.ifnonnull 5, 3) := by decide +kernel
theorem dX11_clear_13 : decode cX11_clear 13 = .ok (.iconst (-1), 1) := by decide +kernel
theorem dX11_clear_14 : decode cX11_clear 14 = .ok (.ireturn, 1) := by decide +kernel
theorem dX11_clear_15 : decode cX11_clear 15 = .ok (.aload_n 2, 1) := by decide +kernel
theorem dX11_clear_16 : decode cX11_clear 16 = .ok (.getfield 111, 3) := by decide +kernel
theorem dX11_clear_19 : decode cX11_clear 19 = .ok (.istore_n 3, 1) := by decide +kernel
theorem dX11_clear_20 : decode cX11_clear 20 = .ok (.aload_n 2, 1) := by decide +kernel
theorem dX11_clear_21 : decode cX11_clear 21 = .ok (.iconst 0, 1) := by decide +kernel
theorem dX11_clear_22 : decode cX11_clear 22 = .ok (.putfield 111, 3) := by decide +kernel
theorem dX11_clear_25 : decode cX11_clear 25 = .ok (.iload_n 3, 1) := by decide +kernel
theorem dX11_clear_26 : decode cX11_clear 26 = .ok (.ireturn, 1) := by decide +kernel
theorem dX11_feast_0 : decode cX11_feast 0 = .ok (.aload_n 0, 1) := by decide +kernel
theorem dX11_feast_1 : decode cX11_feast 1 = .ok (.iconst 0, 1) := by decide +kernel
theorem dX11_feast_2 : decode cX11_feast 2 = .ok (.putfield 66, 3) := by decide +kernel
theorem dX11_feast_5 : decode cX11_feast 5 = .ok (.aload_n 0, 1) := by decide +kernel
theorem dX11_feast_6 : decode cX11_feast 6 = .ok (.iload_n 1, 1) := by decide +kernel
theorem dX11_feast_7 : decode cX11_feast 7 = .ok (.invokevirtual 70, 3) := by decide +kernel
theorem dX11_feast_10 : decode cX11_feast 10 = .ok (.astore 6, 2) := by decide +kernel
theorem dX11_feast_12 : decode cX11_feast 12 = .ok (.aload 6, 2) := by decide +kernel
theorem dX11_feast_14 : decode cX11_feast 14 = .ok (.ifnonnull 5, 3) := by decide +kernel
theorem dX11_feast_17 : decode cX11_feast 17 = .ok (.iconst (-1), 1) := by decide +kernel
theorem dX11_feast_18 : decode cX11_feast 18 = .ok (.ireturn, 1) := by decide +kernel
theorem dX11_feast_19 : decode cX11_feast 19 = .ok (.iload_n 2, 1) := by decide +kernel
theorem dX11_feast_20 : decode cX11_feast 20 = .ok (.invokestatic 74, 3) := by decide +kernel
theorem dX11_feast_23 : decode cX11_feast 23 = .ok (.ifCond .eq 22, 3) := by decide +kernel
theorem dX11_feast_26 : decode cX11_feast 26 = .ok (.iload 4, 2) := by decide +kernel
theorem dX11_feast_28 : decode cX11_feast 28 = .ok (.iconst 0, 1) := by decide +kernel
theorem dX11_feast_29 : decode cX11_feast 29 = .ok (.bipush 20, 2) := by decide +kernel
theorem dX11_feast_31 : decode cX11_feast 31 = .ok (.invokestatic 143, 3) := by decide +kernel
theorem dX11_feast_34 : decode cX11_feast 34 = .ok (.ifCond .eq 11, 3) := by decide +kernel
theorem dX11_feast_37 : decode cX11_feast 37 = .ok (.iload 5, 2) := by decide +kernel
theorem dX11_feast_39 : decode cX11_feast 39 = .ok (.invokestatic 165, 3) := by decide +kernel
theorem dX11_feast_42 : decode cX11_feast 42 = .ok (.ifCond .ne 6, 3) := by decide +kernel
theorem dX11_feast_45 : decode cX11_feast 45 = .ok (.bipush (-2), 2) := by decide +kernel
theorem dX11_feast_47 : decode cX11_feast 47 = .ok (.ireturn, 1) := by decide +kernel
theorem dX11_feast_48 : decode cX11_feast 48 = .ok (.aload 6, 2) := by decide +kernel
theorem dX11_feast_50 : decode cX11_feast 50 = .ok (.iload_n 2, 1) := by decide +kernel
theorem dX11_feast_51 : decode cX11_feast 51 = .ok (.invokevirtual 78, 3) := by decide +kernel
theorem dX11_feast_54 : decode cX11_feast 54 = .ok (.istore 7, 2) := by decide +kernel
theorem dX11_feast_56 : decode cX11_feast 56 = .ok (.iload 7, 2) := by decide +kernel
theorem dX11_feast_58 : decode cX11_feast 58 = .ok (.ifCond .ne 19, 3) := by decide +kernel
theorem dX11_feast_61 : decode cX11_feast 61 = .ok (.aload 6, 2) := by decide +kernel
theorem dX11_feast_63 : decode cX11_feast 63 = .ok (.iload_n 3, 1) := by decide +kernel
theorem dX11_feast_64 : decode cX11_feast 64 = .ok (.iconst 2, 1) := by decide +kernel
theorem dX11_feast_65 : decode cX11_feast 65 = .ok (.iload 4, 2) := by decide +kernel
theorem dX11_feast_67 : decode cX11_feast 67 = .ok (.imul, 1) := by decide +kernel
theorem dX11_feast_68 : decode cX11_feast 68 = .ok (.invokevirtual 82, 3) := by decide +kernel
theorem dX11_feast_71 : decode cX11_feast 71 = .ok (.ifCond .ne 6, 3) := by decide +kernel
theorem dX11_feast_74 : decode cX11_feast 74 = .ok (.iconst 3, 1) := by decide +kernel
theorem dX11_feast_75 : decode cX11_feast 75 = .ok (.istore 7, 2) := by decide +kernel
theorem dX11_feast_77 : decode cX11_feast 77 = .ok (.iload 7, 2) := by decide +kernel
theorem dX11_feast_79 : decode cX11_feast 79 = .ok (.ifCond .eq 10, 3) := by decide +kernel
theorem dX11_feast_82 : decode cX11_feast 82 = .ok (.aload_n 0, 1) := by decide +kernel
theorem dX11_feast_83 : decode cX11_feast 83 = .ok (.iload 7, 2) := by decide +kernel
theorem dX11_feast_85 : decode cX11_feast 85 = .ok (.invokevirtual 86, 3) := by decide +kernel
theorem dX11_feast_88 : decode cX11_feast 88 = .ok (.ireturn, 1) := by decide +kernel
theorem dX11_feast_89 : decode cX11_feast 89 = .ok (.aload_n 0, 1) := by decide +kernel
theorem dX11_feast_90 : decode cX11_feast 90 = .ok (.getfield 96, 3) := by decide +kernel
theorem dX11_feast_93 : decode cX11_feast 93 = .ok (.ifCond .ne 6, 3) := by decide +kernel
theorem dX11_feast_96 : decode cX11_feast 96 = .ok (.bipush (-3), 2) := by decide +kernel
theorem dX11_feast_98 : decode cX11_feast 98 = .ok (.ireturn, 1) := by decide +kernel
theorem dX11_feast_99 : decode cX11_feast 99 = .ok (.aload_n 0, 1) := by decide +kernel
theorem dX11_feast_100 : decode cX11_feast 100 = .ok (.aload 6, 2) := by decide +kernel
theorem dX11_feast_102 : decode cX11_feast 102 = .ok (.iload_n 3, 1) := by decide +kernel
theorem dX11_feast_103 : decode cX11_feast 103 = .ok (.iload 4, 2) := by decide +kernel
theorem dX11_feast_105 : decode cX11_feast 105 = .ok (.invokevirtual 168, 3) := by decide +kernel
theorem dX11_feast_108 : decode cX11_feast 108 = .ok (.istore 8, 2) := by decide +kernel
theorem dX11_feast_110 : decode cX11_feast 110 = .ok (.iload 8, 2) := by decide +kernel
theorem dX11_feast_112 : decode cX11_feast 112 = .ok (.ifCond .eq 6, 3) := by decide +kernel
theorem dX11_feast_115 : decode cX11_feast 115 = .ok (.iload 8, 2) := by decide +kernel
theorem dX11_feast_117 : decode cX11_feast 117 = .ok (.ireturn, 1) := by decide +kernel
theorem dX11_feast_118 : decode cX11_feast 118 = .ok (.aload_n 0, 1) := by decide +kernel
theorem dX11_feast_119 : decode cX11_feast 119 = .ok (.aload 6, 2) := by decide +kernel
theorem dX11_feast_121 : decode cX11_feast 121 = .ok (.iload_n 3, 1) := by decide +kernel
theorem dX11_feast_122 : decode cX11_feast 122 = .ok (.iload 4, 2) := by decide +kernel
theorem dX11_feast_124 : decode cX11_feast 124 = .ok (.invokevirtual 171, 3) := by decide +kernel
theorem dX11_feast_127 : decode cX11_feast 127 = .ok (.aload_n 0, 1) := by decide +kernel
theorem dX11_feast_128 : decode cX11_feast 128 = .ok (.getfield 54, 3) := by decide +kernel
theorem dX11_feast_131 : decode cX11_feast 131 = .ok (.iload 5, 2) := by decide +kernel
theorem dX11_feast_133 : decode cX11_feast 133 = .ok (.invokevirtual 175, 3) := by decide +kernel
theorem dX11_feast_136 : decode cX11_feast 136 = .ok (.ireturn, 1) := by decide +kernel
theorem dX11_wins_0 : decode cX11_wins 0 = .ok (.aload_n 0, 1) := by decide +kernel
theorem dX11_wins_1 : decode cX11_wins 1 = .ok (.iload_n 1, 1) := by decide +kernel
theorem dX11_wins_2 : decode cX11_wins 2 = .ok (.invokevirtual 124, 3) := by decide +kernel
theorem dX11_wins_5 : decode cX11_wins 5 = .ok (.astore_n 2, 1) := by decide +kernel
theorem dX11_wins_6 : decode cX11_wins 6 = .ok (.aload_n 2, 1) := by decide +kernel
theorem dX11_wins_7 : decode cX11_wins 7 = .ok (.ifnonnull 7, 3) := by decide +kernel
theorem dX11_wins_10 : decode cX11_wins 10 = .ok (.iconst (-1), 1) := by decide +kernel
theorem dX11_wins_11 : decode cX11_wins 11 = .ok (.goto 8, 3) := by decide +kernel
theorem dX11_wins_14 : decode cX11_wins 14 = .ok (.aload_n 0, 1) := by decide +kernel
theorem dX11_wins_15 : decode cX11_wins 15 = .ok (.aload_n 2, 1) := by decide +kernel
theorem dX11_wins_16 : decode cX11_wins 16 = .ok (.invokevirtual 178, 3) := by decide +kernel
theorem dX11_wins_19 : decode cX11_wins 19 = .ok (.ireturn, 1) := by decide +kernel
theorem dX11_match_0 : decode cX11_match 0 = .ok (.iload_n 1, 1) := by decide +kernel
theorem dX11_match_1 : decode cX11_match 1 = .ok (.bipush (-2), 2) := by decide +kernel
theorem dX11_match_3 : decode cX11_match 3 = .ok (.iconst 4, 1) := by decide +kernel
theorem dX11_match_4 : decode cX11_match 4 = .ok (.invokestatic 143, 3) := by decide +kernel
theorem dX11_match_7 : decode cX11_match 7 = .ok (.ifCond .ne 6, 3) := by decide +kernel
theorem dX11_match_10 : decode cX11_match 10 = .ok (.bipush (-2), 2) := by decide +kernel
theorem dX11_match_12 : decode cX11_match 12 = .ok (.ireturn, 1) := by decide +kernel
theorem dX11_match_13 : decode cX11_match 13 = .ok (.aload_n 0, 1) := by decide +kernel
theorem dX11_match_14 : decode cX11_match 14 = .ok (.getfield 96, 3) := by decide +kernel
theorem dX11_match_17 : decode cX11_match 17 = .ok (.ifCond .ne 6, 3) := by decide +kernel
theorem dX11_match_20 : decode cX11_match 20 = .ok (.bipush (-3), 2) := by decide +kernel
theorem dX11_match_22 : decode cX11_match 22 = .ok (.ireturn, 1) := by decide +kernel
theorem dX11_match_23 : decode cX11_match 23 = .ok (.aload_n 0, 1) := by decide +kernel
theorem dX11_match_24 : decode cX11_match 24 = .ok (.invokevirtual 182, 3) := by decide +kernel
theorem dX11_match_27 : decode cX11_match 27 = .ok (.aload_n 0, 1) := by decide +kernel
theorem dX11_match_28 : decode cX11_match 28 = .ok (.getfield 61, 3) := by decide +kernel
theorem dX11_match_31 : decode cX11_match 31 = .ok (.invokevirtual 185, 3) := by decide +kernel
theorem dX11_match_34 : decode cX11_match 34 = .ok (.iload_n 1, 1) := by decide +kernel
theorem dX11_match_35 : decode cX11_match 35 = .ok (.bipush (-2), 2) := by decide +kernel
theorem dX11_match_37 : decode cX11_match 37 = .ok (.if_icmp .ne 11, 3) := by decide +kernel
theorem dX11_match_40 : decode cX11_match 40 = .ok (.aload_n 0, 1) := by decide +kernel
theorem dX11_match_41 : decode cX11_match 41 = .ok (.getfield 61, 3) := by decide +kernel
theorem dX11_match_44 : decode cX11_match 44 = .ok (.invokevirtual 188, 3) := by decide +kernel
theorem dX11_match_47 : decode cX11_match 47 = .ok (.ireturn, 1) := by decide +kernel
theorem dX11_match_48 : decode cX11_match 48 = .ok (.iload_n 1, 1) := by decide +kernel
theorem dX11_match_49 : decode cX11_match 49 = .ok (.iconst (-1), 1) := by decide +kernel
theorem dX11_match_50 : decode cX11_match 50 = .ok (.if_icmp .ne 13, 3) := by decide +kernel
theorem dX11_match_53 : decode cX11_match 53 = .ok (.aload_n 0, 1) := by decide +kernel
theorem dX11_match_54 : decode cX11_match 54 = .ok (.getfield 61, 3) := by decide +kernel
theorem dX11_match_57 : decode cX11_match 57 = .ok (.invokevirtual 191, 3) := by decide +kernel
theorem dX11_match_60 : decode cX11_match 60 = .ok (.goto 11, 3) := by decide +kernel
theorem dX11_match_63 : decode cX11_match 63 = .ok (.aload_n 0, 1) := by decide +kernel
theorem dX11_match_64 : decode cX11_match 64 = .ok (.getfield 61, 3) := by decide +kernel
theorem dX11_match_67 : decode cX11_match 67 = .ok (.iload_n 1, 1) := by decide +kernel
theorem dX11_match_68 : decode cX11_match 68 = .ok (.invokevirtual 194, 3) := by decide +kernel
theorem dX11_match_71 : decode cX11_match 71 = .ok (.ireturn, 1) := by decide +kernel
theorem dX11_weds_0 : decode cX11_weds 0 = .ok (.aload_n 0, 1) := by decide +kernel
theorem dX11_weds_1 : decode cX11_weds 1 = .ok (.iload_n 1, 1) := by decide +kernel
theorem dX11_weds_2 : decode cX11_weds 2 = .ok (.invokevirtual 124, 3) := by decide +kernel
theorem dX11_weds_5 : decode cX11_weds 5 = .ok (.ifnonnull 5, 3) := by decide +kernel
theorem dX11_weds_8 : decode cX11_weds 8 = .ok (.iconst (-1), 1) := by decide +kernel
theorem dX11_weds_9 : decode cX11_weds 9 = .ok (.ireturn, 1) := by decide +kernel
theorem dX11_weds_10 : decode cX11_weds 10 = .ok (.aload_n 0, 1) := by decide +kernel
theorem dX11_weds_11 : decode cX11_weds 11 = .ok (.invokevirtual 182, 3) := by decide +kernel
theorem dX11_weds_14 : decode cX11_weds 14 = .ok (.aload_n 0, 1) := by decide +kernel
theorem dX11_weds_15 : decode cX11_weds 15 = .ok (.getfield 61, 3) := by decide +kernel
theorem dX11_weds_18 : decode cX11_weds 18 = .ok (.invokevirtual 197, 3) := by decide +kernel
theorem dX11_weds_21 : decode cX11_weds 21 = .ok (.aload_n 0, 1) := by decide +kernel
theorem dX11_weds_22 : decode cX11_weds 22 = .ok (.getfield 61, 3) := by decide +kernel
theorem dX11_weds_25 : decode cX11_weds 25 = .ok (.iload_n 1, 1) := by decide +kernel
theorem dX11_weds_26 : decode cX11_weds 26 = .ok (.invokevirtual 194, 3) := by decide +kernel
theorem dX11_weds_29 : decode cX11_weds 29 = .ok (.ireturn, 1) := by decide +kernel
theorem dX11_even_0 : decode cX11_even 0 = .ok (.aload_n 0, 1) := by decide +kernel
theorem dX11_even_1 : decode cX11_even 1 = .ok (.iload_n 1, 1) := by decide +kernel
theorem dX11_even_2 : decode cX11_even 2 = .ok (.invokevirtual 124, 3) := by decide +kernel
theorem dX11_even_5 : decode cX11_even 5 = .ok (.astore 4, 2) := by decide +kernel
theorem dX11_even_7 : decode cX11_even 7 = .ok (.aload_n 0, 1) := by decide +kernel
theorem dX11_even_8 : decode cX11_even 8 = .ok (.iload_n 2, 1) := by decide +kernel
theorem dX11_even_9 : decode cX11_even 9 = .ok (.invokevirtual 124, 3) := by decide +kernel
theorem dX11_even_12 : decode cX11_even 12 = .ok (.astore 5, 2) := by decide +kernel
theorem dX11_even_14 : decode cX11_even 14 = .ok (.aload_n 0, 1) := by decide +kernel
theorem dX11_even_15 : decode cX11_even 15 = .ok (.getfield 12, 3) := by decide +kernel
theorem dX11_even_18 : decode cX11_even 18 = .ok (.iload_n 3, 1) := by decide +kernel
theorem dX11_even_19 : decode cX11_even 19 = .ok (.invokevirtual 99, 3) := by decide +kernel
theorem dX11_even_22 : decode cX11_even 22 = .ok (.astore 6, 2) := by decide +kernel
theorem dX11_even_24 : decode cX11_even 24 = .ok (.aload 4, 2) := by decide +kernel
theorem dX11_even_26 : decode cX11_even 26 = .ok (.ifnull 18, 3) := by decide +kernel
theorem dX11_even_29 : decode cX11_even 29 = .ok (.aload 5, 2) := by decide +kernel
theorem dX11_even_31 : decode cX11_even 31 = .ok (.ifnull 13, 3) := by decide +kernel
theorem dX11_even_34 : decode cX11_even 34 = .ok (.iload_n 1, 1) := by decide +kernel
theorem dX11_even_35 : decode cX11_even 35 = .ok (.iload_n 2, 1) := by decide +kernel
theorem dX11_even_36 : decode cX11_even 36 = .ok (.if_icmp .eq 8, 3) := by decide +kernel
theorem dX11_even_39 : decode cX11_even 39 = .ok (.aload 6, 2) := by decide +kernel
theorem dX11_even_41 : decode cX11_even 41 = .ok (.ifnonnull 5, 3) := by decide +kernel
theorem dX11_even_44 : decode cX11_even 44 = .ok (.iconst (-1), 1) := by decide +kernel
theorem dX11_even_45 : decode cX11_even 45 = .ok (.ireturn, 1) := by decide +kernel
theorem dX11_even_46 : decode cX11_even 46 = .ok (.bipush (-9), 2) := by decide +kernel
theorem dX11_even_48 : decode cX11_even 48 = .ok (.istore 7, 2) := by decide +kernel
theorem dX11_even_50 : decode cX11_even 50 = .ok (.iconst 1, 1) := by decide +kernel
theorem dX11_even_51 : decode cX11_even 51 = .ok (.istore 8, 2) := by decide +kernel
theorem dX11_even_53 : decode cX11_even 53 = .ok (.iload 8, 2) := by decide +kernel
theorem dX11_even_55 : decode cX11_even 55 = .ok (.bipush 9, 2) := by decide +kernel
theorem dX11_even_57 : decode cX11_even 57 = .ok (.if_icmp .gt 110, 3) := by decide +kernel
theorem dX11_even_60 : decode cX11_even 60 = .ok (.aload 4, 2) := by decide +kernel
theorem dX11_even_62 : decode cX11_even 62 = .ok (.invokevirtual 134, 3) := by decide +kernel
theorem dX11_even_65 : decode cX11_even 65 = .ok (.iload 8, 2) := by decide +kernel
theorem dX11_even_67 : decode cX11_even 67 = .ok (.aload 6, 2) := by decide +kernel
theorem dX11_even_69 : decode cX11_even 69 = .ok (.getfield 108, 3) := by decide +kernel
theorem dX11_even_72 : decode cX11_even 72 = .ok (.aload_n 0, 1) := by decide +kernel
theorem dX11_even_73 : decode cX11_even 73 = .ok (.getfield 12, 3) := by decide +kernel
theorem dX11_even_76 : decode cX11_even 76 = .ok (.getfield 147, 3) := by decide +kernel
theorem dX11_even_79 : decode cX11_even 79 = .ok (.invokestatic 200, 3) := by decide +kernel
theorem dX11_even_82 : decode cX11_even 82 = .ok (.istore 9, 2) := by decide +kernel
theorem dX11_even_84 : decode cX11_even 84 = .ok (.aload 5, 2) := by decide +kernel
theorem dX11_even_86 : decode cX11_even 86 = .ok (.invokevirtual 134, 3) := by decide +kernel
theorem dX11_even_89 : decode cX11_even 89 = .ok (.iload 8, 2) := by decide +kernel
theorem dX11_even_91 : decode cX11_even 91 = .ok (.aload 6, 2) := by decide +kernel
theorem dX11_even_93 : decode cX11_even 93 = .ok (.getfield 108, 3) := by decide +kernel
theorem dX11_even_96 : decode cX11_even 96 = .ok (.aload_n 0, 1) := by decide +kernel
theorem dX11_even_97 : decode cX11_even 97 = .ok (.getfield 12, 3) := by decide +kernel
theorem dX11_even_100 : decode cX11_even 100 = .ok (.getfield 147, 3) := by decide +kernel
theorem dX11_even_103 : decode cX11_even 103 = .ok (.invokestatic 200, 3) := by decide +kernel
theorem dX11_even_106 : decode cX11_even 106 = .ok (.istore 10, 2) := by decide +kernel
theorem dX11_even_108 : decode cX11_even 108 = .ok (.iload 7, 2) := by decide +kernel
theorem dX11_even_110 : decode cX11_even 110 = .ok (.bipush (-9), 2) := by decide +kernel
theorem dX11_even_112 : decode cX11_even 112 = .ok (.if_icmp .eq 26, 3) := by decide +kernel
theorem dX11_even_115 : decode cX11_even 115 = .ok (.iload 8, 2) := by decide +kernel
theorem dX11_even_117 : decode cX11_even 117 = .ok (.aload 6, 2) := by decide +kernel
theorem dX11_even_119 : decode cX11_even 119 = .ok (.getfield 103, 3) := by decide +kernel
theorem dX11_even_122 : decode cX11_even 122 = .ok (.invokestatic 204, 3) := by decide +kernel
theorem dX11_even_125 : decode cX11_even 125 = .ok (.iload 7, 2) := by decide +kernel
theorem dX11_even_127 : decode cX11_even 127 = .ok (.aload 6, 2) := by decide +kernel
theorem dX11_even_129 : decode cX11_even 129 = .ok (.getfield 103, 3) := by decide +kernel
theorem dX11_even_132 : decode cX11_even 132 = .ok (.invokestatic 204, 3) := by decide +kernel
theorem dX11_even_135 : decode cX11_even 135 = .ok (.if_icmp .ge 7, 3) := by decide +kernel
theorem dX11_even_138 : decode cX11_even 138 = .ok (.iconst 1, 1) := by decide +kernel
theorem dX11_even_139 : decode cX11_even 139 = .ok (.goto 4, 3) := by decide +kernel
theorem dX11_even_142 : decode cX11_even 142 = .ok (.iconst 0, 1) := by decide +kernel
theorem dX11_even_143 : decode cX11_even 143 = .ok (.istore 11, 2) := by decide +kernel
theorem dX11_even_145 : decode cX11_even 145 = .ok (.iload 9, 2) := by decide +kernel
theorem dX11_even_147 : decode cX11_even 147 = .ok (.iload 10, 2) := by decide +kernel
theorem dX11_even_149 : decode cX11_even 149 = .ok (.if_icmp .ne 12, 3) := by decide +kernel
theorem dX11_even_152 : decode cX11_even 152 = .ok (.iload 11, 2) := by decide +kernel
theorem dX11_even_154 : decode cX11_even 154 = .ok (.ifCond .eq 7, 3) := by decide +kernel
theorem dX11_even_157 : decode cX11_even 157 = .ok (.iload 8, 2) := by decide +kernel
theorem dX11_even_159 : decode cX11_even 159 = .ok (.istore 7, 2) := by decide +kernel
theorem dX11_even_161 : decode cX11_even 161 = .ok (.iinc 8 1, 3) := by decide +kernel
theorem dX11_even_164 : decode cX11_even 164 = .ok (.goto (-111), 3) := by decide +kernel
theorem dX11_even_167 : decode cX11_even 167 = .ok (.iload 7, 2) := by decide +kernel
theorem dX11_even_169 : decode cX11_even 169 = .ok (.ireturn, 1) := by decide +kernel
theorem dX11_reading_0 : decode cX11_reading 0 = .ok (.aload_n 0, 1) := by decide +kernel
theorem dX11_reading_1 : decode cX11_reading 1 = .ok (.iload_n 1, 1) := by decide +kernel
theorem dX11_reading_2 : decode cX11_reading 2 = .ok (.invokevirtual 124, 3) := by decide +kernel
theorem dX11_reading_5 : decode cX11_reading 5 = .ok (.ifnull 14, 3) := by decide +kernel
theorem dX11_reading_8 : decode cX11_reading 8 = .ok (.aload_n 0, 1) := by decide +kernel
theorem dX11_reading_9 : decode cX11_reading 9 = .ok (.getfield 12, 3) := by decide +kernel
theorem dX11_reading_12 : decode cX11_reading 12 = .ok (.iload_n 2, 1) := by decide +kernel
theorem dX11_reading_13 : decode cX11_reading 13 = .ok (.invokevirtual 99, 3) := by decide +kernel
theorem dX11_reading_16 : decode cX11_reading 16 = .ok (.ifnonnull 5, 3) := by decide +kernel
theorem dX11_reading_19 : decode cX11_reading 19 = .ok (.iconst (-1), 1) := by decide +kernel
theorem dX11_reading_20 : decode cX11_reading 20 = .ok (.ireturn, 1) := by decide +kernel
theorem dX11_reading_21 : decode cX11_reading 21 = .ok (.iload_n 3, 1) := by decide +kernel
theorem dX11_reading_22 : decode cX11_reading 22 = .ok (.iconst 0, 1) := by decide +kernel
theorem dX11_reading_23 : decode cX11_reading 23 = .ok (.bipush 20, 2) := by decide +kernel
theorem dX11_reading_25 : decode cX11_reading 25 = .ok (.invokestatic 143, 3) := by decide +kernel
theorem dX11_reading_28 : decode cX11_reading 28 = .ok (.ifCond .ne 6, 3) := by decide +kernel
theorem dX11_reading_31 : decode cX11_reading 31 = .ok (.bipush (-2), 2) := by decide +kernel
theorem dX11_reading_33 : decode cX11_reading 33 = .ok (.ireturn, 1) := by decide +kernel
theorem dX11_reading_34 : decode cX11_reading 34 = .ok (.aload_n 0, 1) := by decide +kernel
theorem dX11_reading_35 : decode cX11_reading 35 = .ok (.getfield 27, 3) := by decide +kernel
theorem dX11_reading_38 : decode cX11_reading 38 = .ok (.invokevirtual 207, 3) := by decide +kernel
theorem dX11_reading_41 : decode cX11_reading 41 = .ok (.ifCond .eq 6, 3) := by decide +kernel
theorem dX11_reading_44 : decode cX11_reading 44 = .ok (.bipush (-4), 2) := by decide +kernel
theorem dX11_reading_46 : decode cX11_reading 46 = .ok (.ireturn, 1) := by decide +kernel
theorem dX11_reading_47 : decode cX11_reading 47 = .ok (.aload_n 0, 1) := by decide +kernel
theorem dX11_reading_48 : decode cX11_reading 48 = .ok (.getfield 27, 3) := by decide +kernel
theorem dX11_reading_51 : decode cX11_reading 51 = .ok (.iload_n 1, 1) := by decide +kernel
theorem dX11_reading_52 : decode cX11_reading 52 = .ok (.iload_n 2, 1) := by decide +kernel
theorem dX11_reading_53 : decode cX11_reading 53 = .ok (.iload_n 3, 1) := by decide +kernel
theorem dX11_reading_54 : decode cX11_reading 54 = .ok (.invokevirtual 208, 3) := by decide +kernel
theorem dX11_reading_57 : decode cX11_reading 57 = .ok (.ireturn, 1) := by decide +kernel
theorem dX11_back_0 : decode cX11_back 0 = .ok (.iload_n 1, 1) := by decide +kernel
theorem dX11_back_1 : decode cX11_back 1 = .ok (.iconst 0, 1) := by decide +kernel
theorem dX11_back_2 : decode cX11_back 2 = .ok (.aload_n 0, 1) := by decide +kernel
theorem dX11_back_3 : decode cX11_back 3 = .ok (.getfield 27, 3) := by decide +kernel
theorem dX11_back_6 : decode cX11_back 6 = .ok (.getfield 212, 3) := by decide +kernel
theorem dX11_back_9 : decode cX11_back 9 = .ok (.invokestatic 143, 3) := by decide +kernel
theorem dX11_back_12 : decode cX11_back 12 = .ok (.ifCond .ne 6, 3) := by decide +kernel
theorem dX11_back_15 : decode cX11_back 15 = .ok (.bipush (-2), 2) := by decide +kernel
theorem dX11_back_17 : decode cX11_back 17 = .ok (.ireturn, 1) := by decide +kernel
theorem dX11_back_18 : decode cX11_back 18 = .ok (.aload_n 0, 1) := by decide +kernel
theorem dX11_back_19 : decode cX11_back 19 = .ok (.getfield 27, 3) := by decide +kernel
theorem dX11_back_22 : decode cX11_back 22 = .ok (.dup, 1) := by decide +kernel
theorem dX11_back_23 : decode cX11_back 23 = .ok (.getfield 212, 3) := by decide +kernel
theorem dX11_back_26 : decode cX11_back 26 = .ok (.iload_n 1, 1) := by decide +kernel
theorem dX11_back_27 : decode cX11_back 27 = .ok (.isub, 1) := by decide +kernel
theorem dX11_back_28 : decode cX11_back 28 = .ok (.putfield 212, 3) := by decide +kernel
theorem dX11_back_31 : decode cX11_back 31 = .ok (.aload_n 0, 1) := by decide +kernel
theorem dX11_back_32 : decode cX11_back 32 = .ok (.getfield 27, 3) := by decide +kernel
theorem dX11_back_35 : decode cX11_back 35 = .ok (.getfield 212, 3) := by decide +kernel
theorem dX11_back_38 : decode cX11_back 38 = .ok (.ireturn, 1) := by decide +kernel
theorem dX11_leans_0 : decode cX11_leans 0 = .ok (.aload_n 0, 1) := by decide +kernel
theorem dX11_leans_1 : decode cX11_leans 1 = .ok (.getfield 12, 3) := by decide +kernel
theorem dX11_leans_4 : decode cX11_leans 4 = .ok (.iload_n 1, 1) := by decide +kernel
theorem dX11_leans_5 : decode cX11_leans 5 = .ok (.invokevirtual 99, 3) := by decide +kernel
theorem dX11_leans_8 : decode cX11_leans 8 = .ok (.ifnonnull 5, 3) := by decide +kernel
theorem dX11_leans_11 : decode cX11_leans 11 = .ok (.iconst (-1), 1) := by decide +kernel
theorem dX11_leans_12 : decode cX11_leans 12 = .ok (.ireturn, 1) := by decide +kernel
theorem dX11_leans_13 : decode cX11_leans 13 = .ok (.iconst 0, 1) := by decide +kernel
theorem dX11_leans_14 : decode cX11_leans 14 = .ok (.istore_n 2, 1) := by decide +kernel
theorem dX11_leans_15 : decode cX11_leans 15 = .ok (.iconst 0, 1) := by decide +kernel
theorem dX11_leans_16 : decode cX11_leans 16 = .ok (.istore_n 3, 1) := by decide +kernel
theorem dX11_leans_17 : decode cX11_leans 17 = .ok (.iload_n 3, 1) := by decide +kernel
theorem dX11_leans_18 : decode cX11_leans 18 = .ok (.bipush 9, 2) := by decide +kernel
theorem dX11_leans_20 : decode cX11_leans 20 = .ok (.if_icmp .gt 27, 3) := by decide +kernel
theorem dX11_leans_23 : decode cX11_leans 23 = .ok (.aload_n 0, 1) := by decide +kernel
theorem dX11_leans_24 : decode cX11_leans 24 = .ok (.bipush (-9), 2) := by decide +kernel
theorem dX11_leans_26 : decode cX11_leans 26 = .ok (.iconst 0, 1) := by decide +kernel
theorem dX11_leans_27 : decode cX11_leans 27 = .ok (.iload_n 1, 1) := by decide +kernel
theorem dX11_leans_28 : decode cX11_leans 28 = .ok (.iload_n 3, 1) := by decide +kernel
theorem dX11_leans_29 : decode cX11_leans 29 = .ok (.invokevirtual 215, 3) := by decide +kernel
theorem dX11_leans_32 : decode cX11_leans 32 = .ok (.ifCond .eq 9, 3) := by decide +kernel
theorem dX11_leans_35 : decode cX11_leans 35 = .ok (.iload_n 2, 1) := by decide +kernel
theorem dX11_leans_36 : decode cX11_leans 36 = .ok (.iconst 1, 1) := by decide +kernel
theorem dX11_leans_37 : decode cX11_leans 37 = .ok (.iload_n 3, 1) := by decide +kernel
theorem dX11_leans_38 : decode cX11_leans 38 = .ok (.ishl, 1) := by decide +kernel
theorem dX11_leans_39 : decode cX11_leans 39 = .ok (.ior, 1) := by decide +kernel
theorem dX11_leans_40 : decode cX11_leans 40 = .ok (.istore_n 2, 1) := by decide +kernel
theorem dX11_leans_41 : decode cX11_leans 41 = .ok (.iinc 3 1, 3) := by decide +kernel
theorem dX11_leans_44 : decode cX11_leans 44 = .ok (.goto (-27), 3) := by decide +kernel
theorem dX11_leans_47 : decode cX11_leans 47 = .ok (.iload_n 2, 1) := by decide +kernel
theorem dX11_leans_48 : decode cX11_leans 48 = .ok (.ireturn, 1) := by decide +kernel
theorem dX11_arms_0 : decode cX11_arms 0 = .ok (.aload_n 0, 1) := by decide +kernel
theorem dX11_arms_1 : decode cX11_arms 1 = .ok (.iload_n 1, 1) := by decide +kernel
theorem dX11_arms_2 : decode cX11_arms 2 = .ok (.invokevirtual 124, 3) := by decide +kernel
theorem dX11_arms_5 : decode cX11_arms 5 = .ok (.astore_n 2, 1) := by decide +kernel
theorem dX11_arms_6 : decode cX11_arms 6 = .ok (.aload_n 2, 1) := by decide +kernel
theorem dX11_arms_7 : decode cX11_arms 7 = .ok (.ifnonnull 5, 3) := by decide +kernel
theorem dX11_arms_10 : decode cX11_arms 10 = .ok (.iconst (-1), 1) := by decide +kernel
theorem dX11_arms_11 : decode cX11_arms 11 = .ok (.ireturn, 1) := by decide +kernel
theorem dX11_arms_12 : decode cX11_arms 12 = .ok (.iconst 0, 1) := by decide +kernel
theorem dX11_arms_13 : decode cX11_arms 13 = .ok (.istore_n 3, 1) := by decide +kernel
theorem dX11_arms_14 : decode cX11_arms 14 = .ok (.iconst 1, 1) := by decide +kernel
theorem dX11_arms_15 : decode cX11_arms 15 = .ok (.istore 4, 2) := by decide +kernel
theorem dX11_arms_17 : decode cX11_arms 17 = .ok (.iload 4, 2) := by decide +kernel
theorem dX11_arms_19 : decode cX11_arms 19 = .ok (.bipush 9, 2) := by decide +kernel
theorem dX11_arms_21 : decode cX11_arms 21 = .ok (.if_icmp .gt 36, 3) := by decide +kernel
theorem dX11_arms_24 : decode cX11_arms 24 = .ok (.aload_n 0, 1) := by decide +kernel
theorem dX11_arms_25 : decode cX11_arms 25 = .ok (.iload_n 1, 1) := by decide +kernel
theorem dX11_arms_26 : decode cX11_arms 26 = .ok (.aload_n 2, 1) := by decide +kernel
theorem dX11_arms_27 : decode cX11_arms 27 = .ok (.invokevirtual 128, 3) := by decide +kernel
theorem dX11_arms_30 : decode cX11_arms 30 = .ok (.iload 4, 2) := by decide +kernel
theorem dX11_arms_32 : decode cX11_arms 32 = .ok (.invokestatic 219, 3) := by decide +kernel
theorem dX11_arms_35 : decode cX11_arms 35 = .ok (.bipush (-9), 2) := by decide +kernel
theorem dX11_arms_37 : decode cX11_arms 37 = .ok (.iconst 0, 1) := by decide +kernel
theorem dX11_arms_38 : decode cX11_arms 38 = .ok (.invokevirtual 215, 3) := by decide +kernel
theorem dX11_arms_41 : decode cX11_arms 41 = .ok (.ifCond .eq 10, 3) := by decide +kernel
theorem dX11_arms_44 : decode cX11_arms 44 = .ok (.iload_n 3, 1) := by decide +kernel
theorem dX11_arms_45 : decode cX11_arms 45 = .ok (.iconst 1, 1) := by decide +kernel
theorem dX11_arms_46 : decode cX11_arms 46 = .ok (.iload 4, 2) := by decide +kernel
theorem dX11_arms_48 : decode cX11_arms 48 = .ok (.ishl, 1) := by decide +kernel
theorem dX11_arms_49 : decode cX11_arms 49 = .ok (.ior, 1) := by decide +kernel
theorem dX11_arms_50 : decode cX11_arms 50 = .ok (.istore_n 3, 1) := by decide +kernel
theorem dX11_arms_51 : decode cX11_arms 51 = .ok (.iinc 4 1, 3) := by decide +kernel
theorem dX11_arms_54 : decode cX11_arms 54 = .ok (.goto (-37), 3) := by decide +kernel
theorem dX11_arms_57 : decode cX11_arms 57 = .ok (.iload_n 3, 1) := by decide +kernel
theorem dX11_arms_58 : decode cX11_arms 58 = .ok (.ireturn, 1) := by decide +kernel
theorem dX11_kinds_0 : decode cX11_kinds 0 = .ok (.aload_n 0, 1) := by decide +kernel
theorem dX11_kinds_1 : decode cX11_kinds 1 = .ok (.iload_n 1, 1) := by decide +kernel
theorem dX11_kinds_2 : decode cX11_kinds 2 = .ok (.invokevirtual 124, 3) := by decide +kernel
theorem dX11_kinds_5 : decode cX11_kinds 5 = .ok (.astore_n 2, 1) := by decide +kernel
theorem dX11_kinds_6 : decode cX11_kinds 6 = .ok (.aload_n 2, 1) := by decide +kernel
theorem dX11_kinds_7 : decode cX11_kinds 7 = .ok (.ifnonnull 5, 3) := by decide +kernel
theorem dX11_kinds_10 : decode cX11_kinds 10 = .ok (.iconst (-1), 1) := by decide +kernel
theorem dX11_kinds_11 : decode cX11_kinds 11 = .ok (.ireturn, 1) := by decide +kernel
theorem dX11_kinds_12 : decode cX11_kinds 12 = .ok (.iconst 0, 1) := by decide +kernel
theorem dX11_kinds_13 : decode cX11_kinds 13 = .ok (.istore_n 3, 1) := by decide +kernel
theorem dX11_kinds_14 : decode cX11_kinds 14 = .ok (.iconst 0, 1) := by decide +kernel
theorem dX11_kinds_15 : decode cX11_kinds 15 = .ok (.istore 4, 2) := by decide +kernel
theorem dX11_kinds_17 : decode cX11_kinds 17 = .ok (.iload 4, 2) := by decide +kernel
theorem dX11_kinds_19 : decode cX11_kinds 19 = .ok (.iconst 2, 1) := by decide +kernel
theorem dX11_kinds_20 : decode cX11_kinds 20 = .ok (.if_icmp .gt 36, 3) := by decide +kernel
theorem dX11_kinds_23 : decode cX11_kinds 23 = .ok (.aload_n 0, 1) := by decide +kernel
theorem dX11_kinds_24 : decode cX11_kinds 24 = .ok (.iload_n 1, 1) := by decide +kernel
theorem dX11_kinds_25 : decode cX11_kinds 25 = .ok (.iload 4, 2) := by decide +kernel
theorem dX11_kinds_27 : decode cX11_kinds 27 = .ok (.aload_n 2, 1) := by decide +kernel
theorem dX11_kinds_28 : decode cX11_kinds 28 = .ok (.getfield 131, 3) := by decide +kernel
theorem dX11_kinds_31 : decode cX11_kinds 31 = .ok (.invokestatic 219, 3) := by decide +kernel
theorem dX11_kinds_34 : decode cX11_kinds 34 = .ok (.bipush (-9), 2) := by decide +kernel
theorem dX11_kinds_36 : decode cX11_kinds 36 = .ok (.iconst 0, 1) := by decide +kernel
theorem dX11_kinds_37 : decode cX11_kinds 37 = .ok (.invokevirtual 215, 3) := by decide +kernel
theorem dX11_kinds_40 : decode cX11_kinds 40 = .ok (.ifCond .eq 10, 3) := by decide +kernel
theorem dX11_kinds_43 : decode cX11_kinds 43 = .ok (.iload_n 3, 1) := by decide +kernel
theorem dX11_kinds_44 : decode cX11_kinds 44 = .ok (.iconst 1, 1) := by decide +kernel
theorem dX11_kinds_45 : decode cX11_kinds 45 = .ok (.iload 4, 2) := by decide +kernel
theorem dX11_kinds_47 : decode cX11_kinds 47 = .ok (.ishl, 1) := by decide +kernel
theorem dX11_kinds_48 : decode cX11_kinds 48 = .ok (.ior, 1) := by decide +kernel
theorem dX11_kinds_49 : decode cX11_kinds 49 = .ok (.istore_n 3, 1) := by decide +kernel
theorem dX11_kinds_50 : decode cX11_kinds 50 = .ok (.iinc 4 1, 3) := by decide +kernel
theorem dX11_kinds_53 : decode cX11_kinds 53 = .ok (.goto (-36), 3) := by decide +kernel
theorem dX11_kinds_56 : decode cX11_kinds 56 = .ok (.iload_n 3, 1) := by decide +kernel
theorem dX11_kinds_57 : decode cX11_kinds 57 = .ok (.ireturn, 1) := by decide +kernel
theorem dX11_odds_0 : decode cX11_odds 0 = .ok (.aload_n 0, 1) := by decide +kernel
theorem dX11_odds_1 : decode cX11_odds 1 = .ok (.iload_n 1, 1) := by decide +kernel
theorem dX11_odds_2 : decode cX11_odds 2 = .ok (.invokevirtual 124, 3) := by decide +kernel
theorem dX11_odds_5 : decode cX11_odds 5 = .ok (.astore 4, 2) := by decide +kernel
theorem dX11_odds_7 : decode cX11_odds 7 = .ok (.aload_n 0, 1) := by decide +kernel
theorem dX11_odds_8 : decode cX11_odds 8 = .ok (.getfield 12, 3) := by decide +kernel
theorem dX11_odds_11 : decode cX11_odds 11 = .ok (.iload_n 2, 1) := by decide +kernel
theorem dX11_odds_12 : decode cX11_odds 12 = .ok (.invokevirtual 99, 3) := by decide +kernel
theorem dX11_odds_15 : decode cX11_odds 15 = .ok (.astore 5, 2) := by decide +kernel
theorem dX11_odds_17 : decode cX11_odds 17 = .ok (.aload 4, 2) := by decide +kernel
theorem dX11_odds_19 : decode cX11_odds 19 = .ok (.ifnull 17, 3) := by decide +kernel
theorem dX11_odds_22 : decode cX11_odds 22 = .ok (.aload 5, 2) := by decide +kernel
theorem dX11_odds_24 : decode cX11_odds 24 = .ok (.ifnull 12, 3) := by decide +kernel
theorem dX11_odds_27 : decode cX11_odds 27 = .ok (.iload_n 3, 1) := by decide +kernel
theorem dX11_odds_28 : decode cX11_odds 28 = .ok (.iconst 0, 1) := by decide +kernel
theorem dX11_odds_29 : decode cX11_odds 29 = .ok (.iconst 1, 1) := by decide +kernel
theorem dX11_odds_30 : decode cX11_odds 30 = .ok (.invokestatic 143, 3) := by decide +kernel
theorem dX11_odds_33 : decode cX11_odds 33 = .ok (.ifCond .ne 7, 3) := by decide +kernel
theorem dX11_odds_36 : decode cX11_odds 36 = .ok (.ldc2_w 222, 3) := by decide +kernel
theorem dX11_odds_39 : decode cX11_odds 39 = .ok (.lreturn, 1) := by decide +kernel
theorem dX11_odds_40 : decode cX11_odds 40 = .ok (.iconst 0, 1) := by decide +kernel
theorem dX11_odds_41 : decode cX11_odds 41 = .ok (.istore 6, 2) := by decide +kernel
theorem dX11_odds_43 : decode cX11_odds 43 = .ok (.iconst (-1), 1) := by decide +kernel
theorem dX11_odds_44 : decode cX11_odds 44 = .ok (.istore 7, 2) := by decide +kernel
theorem dX11_odds_46 : decode cX11_odds 46 = .ok (.iload 7, 2) := by decide +kernel
theorem dX11_odds_48 : decode cX11_odds 48 = .ok (.iconst 1, 1) := by decide +kernel
theorem dX11_odds_49 : decode cX11_odds 49 = .ok (.if_icmp .gt 41, 3) := by decide +kernel
theorem dX11_odds_52 : decode cX11_odds 52 = .ok (.aload 5, 2) := by decide +kernel
theorem dX11_odds_54 : decode cX11_odds 54 = .ok (.iload_n 1, 1) := by decide +kernel
theorem dX11_odds_55 : decode cX11_odds 55 = .ok (.aload 5, 2) := by decide +kernel
theorem dX11_odds_57 : decode cX11_odds 57 = .ok (.aload 4, 2) := by decide +kernel
theorem dX11_odds_59 : decode cX11_odds 59 = .ok (.invokevirtual 134, 3) := by decide +kernel
theorem dX11_odds_62 : decode cX11_odds 62 = .ok (.iload 7, 2) := by decide +kernel
theorem dX11_odds_64 : decode cX11_odds 64 = .ok (.iadd, 1) := by decide +kernel
theorem dX11_odds_65 : decode cX11_odds 65 = .ok (.aload_n 0, 1) := by decide +kernel
theorem dX11_odds_66 : decode cX11_odds 66 = .ok (.getfield 12, 3) := by decide +kernel
theorem dX11_odds_69 : decode cX11_odds 69 = .ok (.getfield 147, 3) := by decide +kernel
theorem dX11_odds_72 : decode cX11_odds 72 = .ok (.invokevirtual 150, 3) := by decide +kernel
theorem dX11_odds_75 : decode cX11_odds 75 = .ok (.invokevirtual 224, 3) := by decide +kernel
theorem dX11_odds_78 : decode cX11_odds 78 = .ok (.ifCond .eq 6, 3) := by decide +kernel
theorem dX11_odds_81 : decode cX11_odds 81 = .ok (.iinc 6 1, 3) := by decide +kernel
theorem dX11_odds_84 : decode cX11_odds 84 = .ok (.iinc 7 1, 3) := by decide +kernel
theorem dX11_odds_87 : decode cX11_odds 87 = .ok (.goto (-41), 3) := by decide +kernel
theorem dX11_odds_90 : decode cX11_odds 90 = .ok (.iload 6, 2) := by decide +kernel
theorem dX11_odds_92 : decode cX11_odds 92 = .ok (.ifCond .eq 9, 3) := by decide +kernel
theorem dX11_odds_95 : decode cX11_odds 95 = .ok (.iload 6, 2) := by decide +kernel
theorem dX11_odds_97 : decode cX11_odds 97 = .ok (.iconst 3, 1) := by decide +kernel
theorem dX11_odds_98 : decode cX11_odds 98 = .ok (.if_icmp .ne 7, 3) := by decide +kernel
theorem dX11_odds_101 : decode cX11_odds 101 = .ok (.iconst 1, 1) := by decide +kernel
theorem dX11_odds_102 : decode cX11_odds 102 = .ok (.goto 4, 3) := by decide +kernel
theorem dX11_odds_105 : decode cX11_odds 105 = .ok (.iconst 0, 1) := by decide +kernel
theorem dX11_odds_106 : decode cX11_odds 106 = .ok (.istore 7, 2) := by decide +kernel
theorem dX11_odds_108 : decode cX11_odds 108 = .ok (.iload 6, 2) := by decide +kernel
theorem dX11_odds_110 : decode cX11_odds 110 = .ok (.iconst 3, 1) := by decide +kernel
theorem dX11_odds_111 : decode cX11_odds 111 = .ok (.if_icmp .ne 7, 3) := by decide +kernel
theorem dX11_odds_114 : decode cX11_odds 114 = .ok (.iconst 1, 1) := by decide +kernel
theorem dX11_odds_115 : decode cX11_odds 115 = .ok (.goto 5, 3) := by decide +kernel
theorem dX11_odds_118 : decode cX11_odds 118 = .ok (.iload 6, 2) := by decide +kernel
theorem dX11_odds_120 : decode cX11_odds 120 = .ok (.istore 8, 2) := by decide +kernel
theorem dX11_odds_122 : decode cX11_odds 122 = .ok (.iload 7, 2) := by decide +kernel
theorem dX11_odds_124 : decode cX11_odds 124 = .ok (.ifCond .eq 7, 3) := by decide +kernel
theorem dX11_odds_127 : decode cX11_odds 127 = .ok (.iconst 1, 1) := by decide +kernel
theorem dX11_odds_128 : decode cX11_odds 128 = .ok (.goto 4, 3) := by decide +kernel
theorem dX11_odds_131 : decode cX11_odds 131 = .ok (.iconst 3, 1) := by decide +kernel
theorem dX11_odds_132 : decode cX11_odds 132 = .ok (.istore 9, 2) := by decide +kernel
theorem dX11_odds_134 : decode cX11_odds 134 = .ok (.iload_n 3, 1) := by decide +kernel
theorem dX11_odds_135 : decode cX11_odds 135 = .ok (.ifCond .ne 9, 3) := by decide +kernel
theorem dX11_odds_138 : decode cX11_odds 138 = .ok (.iload 8, 2) := by decide +kernel
theorem dX11_odds_140 : decode cX11_odds 140 = .ok (.i2l, 1) := by decide +kernel
theorem dX11_odds_141 : decode cX11_odds 141 = .ok (.goto 6, 3) := by decide +kernel
theorem dX11_odds_144 : decode cX11_odds 144 = .ok (.iload 9, 2) := by decide +kernel
theorem dX11_odds_146 : decode cX11_odds 146 = .ok (.i2l, 1) := by decide +kernel
theorem dX11_odds_147 : decode cX11_odds 147 = .ok (.lreturn, 1) := by decide +kernel
theorem dX11_sheet_0 : decode cX11_sheet 0 = .ok (.aload_n 0, 1) := by decide +kernel
theorem dX11_sheet_1 : decode cX11_sheet 1 = .ok (.iconst 0, 1) := by decide +kernel
theorem dX11_sheet_2 : decode cX11_sheet 2 = .ok (.putfield 66, 3) := by decide +kernel
theorem dX11_sheet_5 : decode cX11_sheet 5 = .ok (.aload_n 0, 1) := by decide +kernel
theorem dX11_sheet_6 : decode cX11_sheet 6 = .ok (.iload_n 1, 1) := by decide +kernel
theorem dX11_sheet_7 : decode cX11_sheet 7 = .ok (.invokevirtual 70, 3) := by decide +kernel
theorem dX11_sheet_10 : decode cX11_sheet 10 = .ok (.astore 4, 2) := by decide +kernel
theorem dX11_sheet_12 : decode cX11_sheet 12 = .ok (.aload 4, 2) := by decide +kernel
theorem dX11_sheet_14 : decode cX11_sheet 14 = .ok (.ifnonnull 5, 3) := by decide +kernel
theorem dX11_sheet_17 : decode cX11_sheet 17 = .ok (.iconst (-1), 1) := by decide +kernel
theorem dX11_sheet_18 : decode cX11_sheet 18 = .ok (.ireturn, 1) := by decide +kernel
theorem dX11_sheet_19 : decode cX11_sheet 19 = .ok (.iload_n 2, 1) := by decide +kernel
theorem dX11_sheet_20 : decode cX11_sheet 20 = .ok (.invokestatic 74, 3) := by decide +kernel
theorem dX11_sheet_23 : decode cX11_sheet 23 = .ok (.ifCond .eq 9, 3) := by decide +kernel
theorem dX11_sheet_26 : decode cX11_sheet 26 = .ok (.iload_n 3, 1) := by decide +kernel
theorem dX11_sheet_27 : decode cX11_sheet 27 = .ok (.bipush 60, 2) := by decide +kernel
theorem dX11_sheet_29 : decode cX11_sheet 29 = .ok (.if_icmp .le 6, 3) := by decide +kernel
theorem dX11_sheet_32 : decode cX11_sheet 32 = .ok (.bipush (-2), 2) := by decide +kernel
theorem dX11_sheet_34 : decode cX11_sheet 34 = .ok (.ireturn, 1) := by decide +kernel
theorem dX11_sheet_35 : decode cX11_sheet 35 = .ok (.iload_n 3, 1) := by decide +kernel
theorem dX11_sheet_36 : decode cX11_sheet 36 = .ok (.ifCond .ge 9, 3) := by decide +kernel
theorem dX11_sheet_39 : decode cX11_sheet 39 = .ok (.aload_n 0, 1) := by decide +kernel
theorem dX11_sheet_40 : decode cX11_sheet 40 = .ok (.iconst 4, 1) := by decide +kernel
theorem dX11_sheet_41 : decode cX11_sheet 41 = .ok (.invokevirtual 86, 3) := by decide +kernel
theorem dX11_sheet_44 : decode cX11_sheet 44 = .ok (.ireturn, 1) := by decide +kernel
theorem dX11_sheet_45 : decode cX11_sheet 45 = .ok (.aload 4, 2) := by decide +kernel
theorem dX11_sheet_47 : decode cX11_sheet 47 = .ok (.iload_n 2, 1) := by decide +kernel
theorem dX11_sheet_48 : decode cX11_sheet 48 = .ok (.iload_n 3, 1) := by decide +kernel
theorem dX11_sheet_49 : decode cX11_sheet 49 = .ok (.invokevirtual 227, 3) := by decide +kernel
theorem dX11_sheet_52 : decode cX11_sheet 52 = .ok (.iconst 1, 1) := by decide +kernel
theorem dX11_sheet_53 : decode cX11_sheet 53 = .ok (.ireturn, 1) := by decide +kernel
theorem dX11_lose_0 : decode cX11_lose 0 = .ok (.aload_n 0, 1) := by decide +kernel
theorem dX11_lose_1 : decode cX11_lose 1 = .ok (.iload_n 1, 1) := by decide +kernel
theorem dX11_lose_2 : decode cX11_lose 2 = .ok (.invokevirtual 70, 3) := by decide +kernel
theorem dX11_lose_5 : decode cX11_lose 5 = .ok (.astore_n 2, 1) := by decide +kernel
theorem dX11_lose_6 : decode cX11_lose 6 = .ok (.aload_n 2, 1) := by decide +kernel
theorem dX11_lose_7 : decode cX11_lose 7 = .ok (.ifnonnull 5, 3) := by decide +kernel
theorem dX11_lose_10 : decode cX11_lose 10 = .ok (.iconst (-1), 1) := by decide +kernel
theorem dX11_lose_11 : decode cX11_lose 11 = .ok (.ireturn, 1) := by decide +kernel
theorem dX11_lose_12 : decode cX11_lose 12 = .ok (.aload_n 2, 1) := by decide +kernel
theorem dX11_lose_13 : decode cX11_lose 13 = .ok (.invokevirtual 230, 3) := by decide +kernel
theorem dX11_lose_16 : decode cX11_lose 16 = .ok (.ifCond .eq 5, 3) := by decide +kernel
theorem dX11_lose_19 : decode cX11_lose 19 = .ok (.iconst 0, 1) := by decide +kernel
theorem dX11_lose_20 : decode cX11_lose 20 = .ok (.ireturn, 1) := by decide +kernel
theorem dX11_lose_21 : decode cX11_lose 21 = .ok (.aload_n 2, 1) := by decide +kernel
theorem dX11_lose_22 : decode cX11_lose 22 = .ok (.invokevirtual 233, 3) := by decide +kernel
theorem dX11_lose_25 : decode cX11_lose 25 = .ok (.iconst 1, 1) := by decide +kernel
theorem dX11_lose_26 : decode cX11_lose 26 = .ok (.ireturn, 1) := by decide +kernel
theorem dX11_put_0 : decode cX11_put 0 = .ok (.aload_n 0, 1) := by decide +kernel
theorem dX11_put_1 : decode cX11_put 1 = .ok (.iconst 0, 1) := by decide +kernel
theorem dX11_put_2 : decode cX11_put 2 = .ok (.putfield 66, 3) := by decide +kernel
theorem dX11_put_5 : decode cX11_put 5 = .ok (.aload_n 0, 1) := by decide +kernel
theorem dX11_put_6 : decode cX11_put 6 = .ok (.iload_n 1, 1) := by decide +kernel
theorem dX11_put_7 : decode cX11_put 7 = .ok (.invokevirtual 70, 3) := by decide +kernel
theorem dX11_put_10 : decode cX11_put 10 = .ok (.astore 4, 2) := by decide +kernel
theorem dX11_put_12 : decode cX11_put 12 = .ok (.aload 4, 2) := by decide +kernel
theorem dX11_put_14 : decode cX11_put 14 = .ok (.ifnonnull 5, 3) := by decide +kernel
theorem dX11_put_17 : decode cX11_put 17 = .ok (.iconst (-1), 1) := by decide +kernel
theorem dX11_put_18 : decode cX11_put 18 = .ok (.ireturn, 1) := by decide +kernel
theorem dX11_put_19 : decode cX11_put 19 = .ok (.aload 4, 2) := by decide +kernel
theorem dX11_put_21 : decode cX11_put 21 = .ok (.invokevirtual 230, 3) := by decide +kernel
theorem dX11_put_24 : decode cX11_put 24 = .ok (.ifCond .eq 9, 3) := by decide +kernel
theorem dX11_put_27 : decode cX11_put 27 = .ok (.aload_n 0, 1) := by decide +kernel
theorem dX11_put_28 : decode cX11_put 28 = .ok (.iconst 1, 1) := by decide +kernel
theorem dX11_put_29 : decode cX11_put 29 = .ok (.invokevirtual 86, 3) := by decide +kernel
theorem dX11_put_32 : decode cX11_put 32 = .ok (.ireturn, 1) := by decide +kernel
theorem dX11_put_33 : decode cX11_put 33 = .ok (.aload 4, 2) := by decide +kernel
theorem dX11_put_35 : decode cX11_put 35 = .ok (.iload_n 2, 1) := by decide +kernel
theorem dX11_put_36 : decode cX11_put 36 = .ok (.invokevirtual 236, 3) := by decide +kernel
theorem dX11_put_39 : decode cX11_put 39 = .ok (.ifCond .ne 9, 3) := by decide +kernel
theorem dX11_put_42 : decode cX11_put 42 = .ok (.aload_n 0, 1) := by decide +kernel
theorem dX11_put_43 : decode cX11_put 43 = .ok (.iconst 3, 1) := by decide +kernel
theorem dX11_put_44 : decode cX11_put 44 = .ok (.invokevirtual 86, 3) := by decide +kernel
theorem dX11_put_47 : decode cX11_put 47 = .ok (.ireturn, 1) := by decide +kernel
theorem dX11_put_48 : decode cX11_put 48 = .ok (.aload 4, 2) := by decide +kernel
theorem dX11_put_50 : decode cX11_put 50 = .ok (.iload_n 2, 1) := by decide +kernel
theorem dX11_put_51 : decode cX11_put 51 = .ok (.iload_n 3, 1) := by decide +kernel
theorem dX11_put_52 : decode cX11_put 52 = .ok (.invokevirtual 239, 3) := by decide +kernel
theorem dX11_put_55 : decode cX11_put 55 = .ok (.iconst 1, 1) := by decide +kernel
theorem dX11_put_56 : decode cX11_put 56 = .ok (.ireturn, 1) := by decide +kernel
theorem dX11_cell_0 : decode cX11_cell 0 = .ok (.aload_n 0, 1) := by decide +kernel
theorem dX11_cell_1 : decode cX11_cell 1 = .ok (.iconst 0, 1) := by decide +kernel
theorem dX11_cell_2 : decode cX11_cell 2 = .ok (.putfield 66, 3) := by decide +kernel
theorem dX11_cell_5 : decode cX11_cell 5 = .ok (.aload_n 0, 1) := by decide +kernel
theorem dX11_cell_6 : decode cX11_cell 6 = .ok (.iload_n 1, 1) := by decide +kernel
theorem dX11_cell_7 : decode cX11_cell 7 = .ok (.invokevirtual 70, 3) := by decide +kernel
theorem dX11_cell_10 : decode cX11_cell 10 = .ok (.astore 4, 2) := by decide +kernel
theorem dX11_cell_12 : decode cX11_cell 12 = .ok (.aload 4, 2) := by decide +kernel
theorem dX11_cell_14 : decode cX11_cell 14 = .ok (.ifnull 10, 3) := by decide +kernel
theorem dX11_cell_17 : decode cX11_cell 17 = .ok (.iload_n 3, 1) := by decide +kernel
theorem dX11_cell_18 : decode cX11_cell 18 = .ok (.invokestatic 74, 3) := by decide +kernel
theorem dX11_cell_21 : decode cX11_cell 21 = .ok (.ifCond .ne 7, 3) := by decide +kernel
theorem dX11_cell_24 : decode cX11_cell 24 = .ok (.ldc2_w 222, 3) := by decide +kernel
theorem dX11_cell_27 : decode cX11_cell 27 = .ok (.lreturn, 1) := by decide +kernel
theorem dX11_cell_28 : decode cX11_cell 28 = .ok (.aload 4, 2) := by decide +kernel
theorem dX11_cell_30 : decode cX11_cell 30 = .ok (.iload_n 3, 1) := by decide +kernel
theorem dX11_cell_31 : decode cX11_cell 31 = .ok (.invokevirtual 78, 3) := by decide +kernel
theorem dX11_cell_34 : decode cX11_cell 34 = .ok (.istore 5, 2) := by decide +kernel
theorem dX11_cell_36 : decode cX11_cell 36 = .ok (.iload 5, 2) := by decide +kernel
theorem dX11_cell_38 : decode cX11_cell 38 = .ok (.ifCond .ne 15, 3) := by decide +kernel
theorem dX11_cell_41 : decode cX11_cell 41 = .ok (.aload 4, 2) := by decide +kernel
theorem dX11_cell_43 : decode cX11_cell 43 = .ok (.iload_n 2, 1) := by decide +kernel
theorem dX11_cell_44 : decode cX11_cell 44 = .ok (.invokevirtual 236, 3) := by decide +kernel
theorem dX11_cell_47 : decode cX11_cell 47 = .ok (.ifCond .ne 6, 3) := by decide +kernel
theorem dX11_cell_50 : decode cX11_cell 50 = .ok (.iconst 3, 1) := by decide +kernel
theorem dX11_cell_51 : decode cX11_cell 51 = .ok (.istore 5, 2) := by decide +kernel
theorem dX11_cell_53 : decode cX11_cell 53 = .ok (.aload_n 0, 1) := by decide +kernel
theorem dX11_cell_54 : decode cX11_cell 54 = .ok (.iload 5, 2) := by decide +kernel
theorem dX11_cell_56 : decode cX11_cell 56 = .ok (.putfield 66, 3) := by decide +kernel
theorem dX11_cell_59 : decode cX11_cell 59 = .ok (.iload 5, 2) := by decide +kernel
theorem dX11_cell_61 : decode cX11_cell 61 = .ok (.ifCond .ne 13, 3) := by decide +kernel
theorem dX11_cell_64 : decode cX11_cell 64 = .ok (.aload 4, 2) := by decide +kernel
theorem dX11_cell_66 : decode cX11_cell 66 = .ok (.iload_n 2, 1) := by decide +kernel
theorem dX11_cell_67 : decode cX11_cell 67 = .ok (.invokevirtual 242, 3) := by decide +kernel
theorem dX11_cell_70 : decode cX11_cell 70 = .ok (.i2l, 1) := by decide +kernel
theorem dX11_cell_71 : decode cX11_cell 71 = .ok (.goto 6, 3) := by decide +kernel
theorem dX11_cell_74 : decode cX11_cell 74 = .ok (.ldc2_w 222, 3) := by decide +kernel
theorem dX11_cell_77 : decode cX11_cell 77 = .ok (.lreturn, 1) := by decide +kernel
theorem dX11_copy_0 : decode cX11_copy 0 = .ok (.aload_n 0, 1) := by decide +kernel
theorem dX11_copy_1 : decode cX11_copy 1 = .ok (.iconst 0, 1) := by decide +kernel
theorem dX11_copy_2 : decode cX11_copy 2 = .ok (.putfield 66, 3) := by decide +kernel
theorem dX11_copy_5 : decode cX11_copy 5 = .ok (.aload_n 0, 1) := by decide +kernel
theorem dX11_copy_6 : decode cX11_copy 6 = .ok (.iload_n 1, 1) := by decide +kernel
theorem dX11_copy_7 : decode cX11_copy 7 = .ok (.invokevirtual 70, 3) := by decide +kernel
theorem dX11_copy_10 : decode cX11_copy 10 = .ok (.astore 6, 2) := by decide +kernel
theorem dX11_copy_12 : decode cX11_copy 12 = .ok (.aload_n 0, 1) := by decide +kernel
theorem dX11_copy_13 : decode cX11_copy 13 = .ok (.iload_n 3, 1) := by decide +kernel
theorem dX11_copy_14 : decode cX11_copy 14 = .ok (.invokevirtual 70, 3) := by decide +kernel
theorem dX11_copy_17 : decode cX11_copy 17 = .ok (.astore 7, 2) := by decide +kernel
theorem dX11_copy_19 : decode cX11_copy 19 = .ok (.aload 6, 2) := by decide +kernel
theorem dX11_copy_21 : decode cX11_copy 21 = .ok (.ifnull 8, 3) := by decide +kernel
theorem dX11_copy_24 : decode cX11_copy 24 = .ok (.aload 7, 2) := by decide +kernel
theorem dX11_copy_26 : decode cX11_copy 26 = .ok (.ifnonnull 5, 3) := by decide +kernel
theorem dX11_copy_29 : decode cX11_copy 29 = .ok (.iconst (-1), 1) := by decide +kernel
theorem dX11_copy_30 : decode cX11_copy 30 = .ok (.ireturn, 1) := by decide +kernel
theorem dX11_copy_31 : decode cX11_copy 31 = .ok (.aload 6, 2) := by decide +kernel
theorem dX11_copy_33 : decode cX11_copy 33 = .ok (.invokevirtual 230, 3) := by decide +kernel
theorem dX11_copy_36 : decode cX11_copy 36 = .ok (.ifCond .ne 11, 3) := by decide +kernel
theorem dX11_copy_39 : decode cX11_copy 39 = .ok (.aload 7, 2) := by decide +kernel
theorem dX11_copy_41 : decode cX11_copy 41 = .ok (.invokevirtual 230, 3) := by decide +kernel
theorem dX11_copy_44 : decode cX11_copy 44 = .ok (.ifCond .eq 9, 3) := by decide +kernel
theorem dX11_copy_47 : decode cX11_copy 47 = .ok (.aload_n 0, 1) := by decide +kernel
theorem dX11_copy_48 : decode cX11_copy 48 = .ok (.iconst 1, 1) := by decide +kernel
theorem dX11_copy_49 : decode cX11_copy 49 = .ok (.invokevirtual 86, 3) := by decide +kernel
theorem dX11_copy_52 : decode cX11_copy 52 = .ok (.ireturn, 1) := by decide +kernel
theorem dX11_copy_53 : decode cX11_copy 53 = .ok (.aload 6, 2) := by decide +kernel
theorem dX11_copy_55 : decode cX11_copy 55 = .ok (.getfield 245, 3) := by decide +kernel
theorem dX11_copy_58 : decode cX11_copy 58 = .ok (.aload 7, 2) := by decide +kernel
theorem dX11_copy_60 : decode cX11_copy 60 = .ok (.getfield 245, 3) := by decide +kernel
theorem dX11_copy_63 : decode cX11_copy 63 = .ok (.if_icmp .eq 9, 3) := by decide +kernel
theorem dX11_copy_66 : decode cX11_copy 66 = .ok (.aload_n 0, 1) := by decide +kernel
theorem dX11_copy_67 : decode cX11_copy 67 = .ok (.iconst 2, 1) := by decide +kernel
theorem dX11_copy_68 : decode cX11_copy 68 = .ok (.invokevirtual 86, 3) := by decide +kernel
theorem dX11_copy_71 : decode cX11_copy 71 = .ok (.ireturn, 1) := by decide +kernel
theorem dX11_copy_72 : decode cX11_copy 72 = .ok (.aload 6, 2) := by decide +kernel
theorem dX11_copy_74 : decode cX11_copy 74 = .ok (.iload_n 2, 1) := by decide +kernel
theorem dX11_copy_75 : decode cX11_copy 75 = .ok (.iload 5, 2) := by decide +kernel
theorem dX11_copy_77 : decode cX11_copy 77 = .ok (.invokevirtual 82, 3) := by decide +kernel
theorem dX11_copy_80 : decode cX11_copy 80 = .ok (.ifCond .eq 15, 3) := by decide +kernel
theorem dX11_copy_83 : decode cX11_copy 83 = .ok (.aload 7, 2) := by decide +kernel
theorem dX11_copy_85 : decode cX11_copy 85 = .ok (.iload 4, 2) := by decide +kernel
theorem dX11_copy_87 : decode cX11_copy 87 = .ok (.iload 5, 2) := by decide +kernel
theorem dX11_copy_89 : decode cX11_copy 89 = .ok (.invokevirtual 82, 3) := by decide +kernel
theorem dX11_copy_92 : decode cX11_copy 92 = .ok (.ifCond .ne 9, 3) := by decide +kernel
theorem dX11_copy_95 : decode cX11_copy 95 = .ok (.aload_n 0, 1) := by decide +kernel
theorem dX11_copy_96 : decode cX11_copy 96 = .ok (.iconst 3, 1) := by decide +kernel
theorem dX11_copy_97 : decode cX11_copy 97 = .ok (.invokevirtual 86, 3) := by decide +kernel
theorem dX11_copy_100 : decode cX11_copy 100 = .ok (.ireturn, 1) := by decide +kernel
theorem dX11_copy_101 : decode cX11_copy 101 = .ok (.aload 7, 2) := by decide +kernel
theorem dX11_copy_103 : decode cX11_copy 103 = .ok (.aload 6, 2) := by decide +kernel
theorem dX11_copy_105 : decode cX11_copy 105 = .ok (.iload_n 2, 1) := by decide +kernel
theorem dX11_copy_106 : decode cX11_copy 106 = .ok (.iload 4, 2) := by decide +kernel
theorem dX11_copy_108 : decode cX11_copy 108 = .ok (.iload 5, 2) := by decide +kernel
theorem dX11_copy_110 : decode cX11_copy 110 = .ok (.invokevirtual 248, 3) := by decide +kernel
theorem dX11_copy_113 : decode cX11_copy 113 = .ok (.iload 5, 2) := by decide +kernel
theorem dX11_copy_115 : decode cX11_copy 115 = .ok (.ireturn, 1) := by decide +kernel
theorem dX11_tell_0 : decode cX11_tell 0 = .ok (.aload_n 0, 1) := by decide +kernel
theorem dX11_tell_1 : decode cX11_tell 1 = .ok (.iload_n 1, 1) := by decide +kernel
theorem dX11_tell_2 : decode cX11_tell 2 = .ok (.invokevirtual 124, 3) := by decide +kernel
theorem dX11_tell_5 : decode cX11_tell 5 = .ok (.astore_n 2, 1) := by decide +kernel
theorem dX11_tell_6 : decode cX11_tell 6 = .ok (.aload_n 2, 1) := by decide +kernel
theorem dX11_tell_7 : decode cX11_tell 7 = .ok (.ifnonnull 7, 3) := by decide +kernel
theorem dX11_tell_10 : decode cX11_tell 10 = .ok (.iconst (-1), 1) := by decide +kernel
theorem dX11_tell_11 : decode cX11_tell 11 = .ok (.goto 11, 3) := by decide +kernel
theorem dX11_tell_14 : decode cX11_tell 14 = .ok (.aload_n 2, 1) := by decide +kernel
theorem dX11_tell_15 : decode cX11_tell 15 = .ok (.aload_n 0, 1) := by decide +kernel
theorem dX11_tell_16 : decode cX11_tell 16 = .ok (.getfield 40, 3) := by decide +kernel
theorem dX11_tell_19 : decode cX11_tell 19 = .ok (.invokevirtual 252, 3) := by decide +kernel
theorem dX11_tell_22 : decode cX11_tell 22 = .ok (.ireturn, 1) := by decide +kernel
theorem dX11_cheer_0 : decode cX11_cheer 0 = .ok (.aload_n 0, 1) := by decide +kernel
theorem dX11_cheer_1 : decode cX11_cheer 1 = .ok (.iload_n 1, 1) := by decide +kernel
theorem dX11_cheer_2 : decode cX11_cheer 2 = .ok (.invokevirtual 124, 3) := by decide +kernel
theorem dX11_cheer_5 : decode cX11_cheer 5 = .ok (.astore_n 2, 1) := by decide +kernel
theorem dX11_cheer_6 : decode cX11_cheer 6 = .ok (.aload_n 2, 1) := by decide +kernel
theorem dX11_cheer_7 : decode cX11_cheer 7 = .ok (.ifnonnull 7, 3) := by decide +kernel
theorem dX11_cheer_10 : decode cX11_cheer 10 = .ok (.iconst (-1), 1) := by decide +kernel
theorem dX11_cheer_11 : decode cX11_cheer 11 = .ok (.goto 11, 3) := by decide +kernel
theorem dX11_cheer_14 : decode cX11_cheer 14 = .ok (.aload_n 2, 1) := by decide +kernel
theorem dX11_cheer_15 : decode cX11_cheer 15 = .ok (.aload_n 0, 1) := by decide +kernel
theorem dX11_cheer_16 : decode cX11_cheer 16 = .ok (.getfield 40, 3) := by decide +kernel
theorem dX11_cheer_19 : decode cX11_cheer 19 = .ok (.invokevirtual 256, 3) := by decide +kernel
theorem dX11_cheer_22 : decode cX11_cheer 22 = .ok (.ireturn, 1) := by decide +kernel
theorem dX11_as_0 : decode cX11_as 0 = .ok (.aload_n 0, 1) := by decide +kernel
theorem dX11_as_1 : decode cX11_as 1 = .ok (.iconst 0, 1) := by decide +kernel
theorem dX11_as_2 : decode cX11_as 2 = .ok (.putfield 66, 3) := by decide +kernel
theorem dX11_as_5 : decode cX11_as 5 = .ok (.aload_n 0, 1) := by decide +kernel
theorem dX11_as_6 : decode cX11_as 6 = .ok (.iload_n 1, 1) := by decide +kernel
theorem dX11_as_7 : decode cX11_as 7 = .ok (.invokevirtual 124, 3) := by decide +kernel
theorem dX11_as_10 : decode cX11_as 10 = .ok (.astore_n 3, 1) := by decide +kernel
theorem dX11_as_11 : decode cX11_as 11 = .ok (.aload_n 3, 1) := by decide +kernel
theorem dX11_as_12 : decode cX11_as 12 = .ok (.ifnonnull 5, 3) := by decide +kernel
theorem dX11_as_15 : decode cX11_as 15 = .ok (.iconst (-1), 1) := by decide +kernel
theorem dX11_as_16 : decode cX11_as 16 = .ok (.ireturn, 1) := by decide +kernel
theorem dX11_as_17 : decode cX11_as 17 = .ok (.iload_n 2, 1) := by decide +kernel
theorem dX11_as_18 : decode cX11_as 18 = .ok (.iconst 0, 1) := by decide +kernel
theorem dX11_as_19 : decode cX11_as 19 = .ok (.iconst 2, 1) := by decide +kernel
theorem dX11_as_20 : decode cX11_as 20 = .ok (.invokestatic 143, 3) := by decide +kernel
theorem dX11_as_23 : decode cX11_as 23 = .ok (.ifCond .ne 6, 3) := by decide +kernel
theorem dX11_as_26 : decode cX11_as 26 = .ok (.bipush (-2), 2) := by decide +kernel
theorem dX11_as_28 : decode cX11_as 28 = .ok (.ireturn, 1) := by decide +kernel
theorem dX11_as_29 : decode cX11_as 29 = .ok (.aload_n 3, 1) := by decide +kernel
theorem dX11_as_30 : decode cX11_as 30 = .ok (.iload_n 2, 1) := by decide +kernel
theorem dX11_as_31 : decode cX11_as 31 = .ok (.invokestatic 259, 3) := by decide +kernel
theorem dX11_as_34 : decode cX11_as 34 = .ok (.ifCond .eq 7, 3) := by decide +kernel
theorem dX11_as_37 : decode cX11_as 37 = .ok (.iconst 1, 1) := by decide +kernel
theorem dX11_as_38 : decode cX11_as 38 = .ok (.goto 8, 3) := by decide +kernel
theorem dX11_as_41 : decode cX11_as 41 = .ok (.aload_n 0, 1) := by decide +kernel
theorem dX11_as_42 : decode cX11_as 42 = .ok (.iconst 2, 1) := by decide +kernel
theorem dX11_as_43 : decode cX11_as 43 = .ok (.invokevirtual 86, 3) := by decide +kernel
theorem dX11_as_46 : decode cX11_as 46 = .ok (.ireturn, 1) := by decide +kernel
theorem dX11_trace_0 : decode cX11_trace 0 = .ok (.aload_n 0, 1) := by decide +kernel
theorem dX11_trace_1 : decode cX11_trace 1 = .ok (.getfield 40, 3) := by decide +kernel
theorem dX11_trace_4 : decode cX11_trace 4 = .ok (.getfield 263, 3) := by decide +kernel
theorem dX11_trace_7 : decode cX11_trace 7 = .ok (.ireturn, 1) := by decide +kernel
theorem dX11_fault_0 : decode cX11_fault 0 = .ok (.aload_n 0, 1) := by decide +kernel
theorem dX11_fault_1 : decode cX11_fault 1 = .ok (.getfield 66, 3) := by decide +kernel
theorem dX11_fault_4 : decode cX11_fault 4 = .ok (.ireturn, 1) := by decide +kernel
theorem dX11_many_0 : decode cX11_many 0 = .ok (.iload_n 1, 1) := by decide +kernel
theorem dX11_many_1 : decode cX11_many 1 = .ok (.tableswitch 72 0 4 #[35, 43, 48, 56, 64], 35) := by decide +kernel
theorem dX11_many_36 : decode cX11_many 36 = .ok (.aload_n 0, 1) := by decide +kernel
theorem dX11_many_37 : decode cX11_many 37 = .ok (.getfield 12, 3) := by decide +kernel
theorem dX11_many_40 : decode cX11_many 40 = .ok (.getfield 266, 3) := by decide +kernel
theorem dX11_many_43 : decode cX11_many 43 = .ok (.ireturn, 1) := by decide +kernel
theorem dX11_many_44 : decode cX11_many 44 = .ok (.aload_n 0, 1) := by decide +kernel
theorem dX11_many_45 : decode cX11_many 45 = .ok (.getfield 96, 3) := by decide +kernel
theorem dX11_many_48 : decode cX11_many 48 = .ok (.ireturn, 1) := by decide +kernel
theorem dX11_many_49 : decode cX11_many 49 = .ok (.aload_n 0, 1) := by decide +kernel
theorem dX11_many_50 : decode cX11_many 50 = .ok (.getfield 12, 3) := by decide +kernel
theorem dX11_many_53 : decode cX11_many 53 = .ok (.getfield 147, 3) := by decide +kernel
theorem dX11_many_56 : decode cX11_many 56 = .ok (.ireturn, 1) := by decide +kernel
theorem dX11_many_57 : decode cX11_many 57 = .ok (.aload_n 0, 1) := by decide +kernel
theorem dX11_many_58 : decode cX11_many 58 = .ok (.getfield 12, 3) := by decide +kernel
theorem dX11_many_61 : decode cX11_many 61 = .ok (.invokevirtual 269, 3) := by decide +kernel
theorem dX11_many_64 : decode cX11_many 64 = .ok (.ireturn, 1) := by decide +kernel
theorem dX11_many_65 : decode cX11_many 65 = .ok (.aload_n 0, 1) := by decide +kernel
theorem dX11_many_66 : decode cX11_many 66 = .ok (.getfield 27, 3) := by decide +kernel
theorem dX11_many_69 : decode cX11_many 69 = .ok (.getfield 212, 3) := by decide +kernel
theorem dX11_many_72 : decode cX11_many 72 = .ok (.ireturn, 1) := by decide +kernel
theorem dX11_many_73 : decode cX11_many 73 = .ok (.bipush (-2), 2) := by decide +kernel
theorem dX11_many_75 : decode cX11_many 75 = .ok (.ireturn, 1) := by decide +kernel
theorem dX11_sheetOf_0 : decode cX11_sheetOf 0 = .ok (.iload_n 1, 1) := by decide +kernel
theorem dX11_sheetOf_1 : decode cX11_sheetOf 1 = .ok (.ifCond .lt 12, 3) := by decide +kernel
theorem dX11_sheetOf_4 : decode cX11_sheetOf 4 = .ok (.iload_n 1, 1) := by decide +kernel
theorem dX11_sheetOf_5 : decode cX11_sheetOf 5 = .ok (.aload_n 0, 1) := by decide +kernel
theorem dX11_sheetOf_6 : decode cX11_sheetOf 6 = .ok (.getfield 33, 3) := by decide +kernel
theorem dX11_sheetOf_9 : decode cX11_sheetOf 9 = .ok (.arraylength, 1) := by decide +kernel
theorem dX11_sheetOf_10 : decode cX11_sheetOf 10 = .ok (.if_icmp .lt 7, 3) := by decide +kernel
theorem dX11_sheetOf_13 : decode cX11_sheetOf 13 = .ok (.aconst_null, 1) := by decide +kernel
theorem dX11_sheetOf_14 : decode cX11_sheetOf 14 = .ok (.goto 9, 3) := by decide +kernel
theorem dX11_sheetOf_17 : decode cX11_sheetOf 17 = .ok (.aload_n 0, 1) := by decide +kernel
theorem dX11_sheetOf_18 : decode cX11_sheetOf 18 = .ok (.getfield 33, 3) := by decide +kernel
theorem dX11_sheetOf_21 : decode cX11_sheetOf 21 = .ok (.iload_n 1, 1) := by decide +kernel
theorem dX11_sheetOf_22 : decode cX11_sheetOf 22 = .ok (.aaload, 1) := by decide +kernel
theorem dX11_sheetOf_23 : decode cX11_sheetOf 23 = .ok (.areturn, 1) := by decide +kernel
theorem dX11_throwerOf_0 : decode cX11_throwerOf 0 = .ok (.iload_n 1, 1) := by decide +kernel
theorem dX11_throwerOf_1 : decode cX11_throwerOf 1 = .ok (.ifCond .lt 20, 3) := by decide +kernel
theorem dX11_throwerOf_4 : decode cX11_throwerOf 4 = .ok (.iload_n 1, 1) := by decide +kernel
theorem dX11_throwerOf_5 : decode cX11_throwerOf 5 = .ok (.aload_n 0, 1) := by decide +kernel
theorem dX11_throwerOf_6 : decode cX11_throwerOf 6 = .ok (.getfield 96, 3) := by decide +kernel
theorem dX11_throwerOf_9 : decode cX11_throwerOf 9 = .ok (.if_icmp .ge 12, 3) := by decide +kernel
theorem dX11_throwerOf_12 : decode cX11_throwerOf 12 = .ok (.iload_n 1, 1) := by decide +kernel
theorem dX11_throwerOf_13 : decode cX11_throwerOf 13 = .ok (.aload_n 0, 1) := by decide +kernel
theorem dX11_throwerOf_14 : decode cX11_throwerOf 14 = .ok (.getfield 20, 3) := by decide +kernel
theorem dX11_throwerOf_17 : decode cX11_throwerOf 17 = .ok (.arraylength, 1) := by decide +kernel
theorem dX11_throwerOf_18 : decode cX11_throwerOf 18 = .ok (.if_icmp .lt 7, 3) := by decide +kernel
theorem dX11_throwerOf_21 : decode cX11_throwerOf 21 = .ok (.aconst_null, 1) := by decide +kernel
theorem dX11_throwerOf_22 : decode cX11_throwerOf 22 = .ok (.goto 9, 3) := by decide +kernel
theorem dX11_throwerOf_25 : decode cX11_throwerOf 25 = .ok (.aload_n 0, 1) := by decide +kernel
theorem dX11_throwerOf_26 : decode cX11_throwerOf 26 = .ok (.getfield 20, 3) := by decide +kernel
theorem dX11_throwerOf_29 : decode cX11_throwerOf 29 = .ok (.iload_n 1, 1) := by decide +kernel
theorem dX11_throwerOf_30 : decode cX11_throwerOf 30 = .ok (.aaload, 1) := by decide +kernel
theorem dX11_throwerOf_31 : decode cX11_throwerOf 31 = .ok (.areturn, 1) := by decide +kernel
theorem dX11_comeTo_0 : decode cX11_comeTo 0 = .ok (.aload_n 0, 1) := by decide +kernel
theorem dX11_comeTo_1 : decode cX11_comeTo 1 = .ok (.iload_n 1, 1) := by decide +kernel
theorem dX11_comeTo_2 : decode cX11_comeTo 2 = .ok (.putfield 66, 3) := by decide +kernel
theorem dX11_comeTo_5 : decode cX11_comeTo 5 = .ok (.bipush (-10), 2) := by decide +kernel
theorem dX11_comeTo_7 : decode cX11_comeTo 7 = .ok (.iload_n 1, 1) := by decide +kernel
theorem dX11_comeTo_8 : decode cX11_comeTo 8 = .ok (.isub, 1) := by decide +kernel
theorem dX11_comeTo_9 : decode cX11_comeTo 9 = .ok (.ireturn, 1) := by decide +kernel
theorem dX11_makeAnew_0 : decode cX11_makeAnew 0 = .ok (.aload_n 0, 1) := by decide +kernel
theorem dX11_makeAnew_1 : decode cX11_makeAnew 1 = .ok (.getfield 12, 3) := by decide +kernel
theorem dX11_makeAnew_4 : decode cX11_makeAnew 4 = .ok (.aload_n 0, 1) := by decide +kernel
theorem dX11_makeAnew_5 : decode cX11_makeAnew 5 = .ok (.getfield 47, 3) := by decide +kernel
theorem dX11_makeAnew_8 : decode cX11_makeAnew 8 = .ok (.invokevirtual 272, 3) := by decide +kernel
theorem dX11_makeAnew_11 : decode cX11_makeAnew 11 = .ok (.iconst 0, 1) := by decide +kernel
theorem dX11_makeAnew_12 : decode cX11_makeAnew 12 = .ok (.istore_n 1, 1) := by decide +kernel
theorem dX11_makeAnew_13 : decode cX11_makeAnew 13 = .ok (.iload_n 1, 1) := by decide +kernel
theorem dX11_makeAnew_14 : decode cX11_makeAnew 14 = .ok (.aload_n 0, 1) := by decide +kernel
theorem dX11_makeAnew_15 : decode cX11_makeAnew 15 = .ok (.getfield 20, 3) := by decide +kernel
theorem dX11_makeAnew_18 : decode cX11_makeAnew 18 = .ok (.arraylength, 1) := by decide +kernel
theorem dX11_makeAnew_19 : decode cX11_makeAnew 19 = .ok (.if_icmp .ge 50, 3) := by decide +kernel
theorem dX11_makeAnew_22 : decode cX11_makeAnew 22 = .ok (.aload_n 0, 1) := by decide +kernel
theorem dX11_makeAnew_23 : decode cX11_makeAnew 23 = .ok (.getfield 20, 3) := by decide +kernel
theorem dX11_makeAnew_26 : decode cX11_makeAnew 26 = .ok (.iload_n 1, 1) := by decide +kernel
theorem dX11_makeAnew_27 : decode cX11_makeAnew 27 = .ok (.iload_n 1, 1) := by decide +kernel
theorem dX11_makeAnew_28 : decode cX11_makeAnew 28 = .ok (.aload_n 0, 1) := by decide +kernel
theorem dX11_makeAnew_29 : decode cX11_makeAnew 29 = .ok (.getfield 47, 3) := by decide +kernel
theorem dX11_makeAnew_32 : decode cX11_makeAnew 32 = .ok (.getfield 276, 3) := by decide +kernel
theorem dX11_makeAnew_35 : decode cX11_makeAnew 35 = .ok (.if_icmp .ge 26, 3) := by decide +kernel
theorem dX11_makeAnew_38 : decode cX11_makeAnew 38 = .ok (.aload_n 0, 1) := by decide +kernel
theorem dX11_makeAnew_39 : decode cX11_makeAnew 39 = .ok (.getfield 47, 3) := by decide +kernel
theorem dX11_makeAnew_42 : decode cX11_makeAnew 42 = .ok (.iload_n 1, 1) := by decide +kernel
theorem dX11_makeAnew_43 : decode cX11_makeAnew 43 = .ok (.invokevirtual 278, 3) := by decide +kernel
theorem dX11_makeAnew_46 : decode cX11_makeAnew 46 = .ok (.iload_n 1, 1) := by decide +kernel
theorem dX11_makeAnew_47 : decode cX11_makeAnew 47 = .ok (.aload_n 0, 1) := by decide +kernel
theorem dX11_makeAnew_48 : decode cX11_makeAnew 48 = .ok (.getfield 47, 3) := by decide +kernel
theorem dX11_makeAnew_51 : decode cX11_makeAnew 51 = .ok (.iload_n 1, 1) := by decide +kernel
theorem dX11_makeAnew_52 : decode cX11_makeAnew 52 = .ok (.invokevirtual 281, 3) := by decide +kernel
theorem dX11_makeAnew_55 : decode cX11_makeAnew 55 = .ok (.invokestatic 284, 3) := by decide +kernel
theorem dX11_makeAnew_58 : decode cX11_makeAnew 58 = .ok (.goto 4, 3) := by decide +kernel
theorem dX11_makeAnew_61 : decode cX11_makeAnew 61 = .ok (.aconst_null, 1) := by decide +kernel
theorem dX11_makeAnew_62 : decode cX11_makeAnew 62 = .ok (.aastore, 1) := by decide +kernel
theorem dX11_makeAnew_63 : decode cX11_makeAnew 63 = .ok (.iinc 1 1, 3) := by decide +kernel
theorem dX11_makeAnew_66 : decode cX11_makeAnew 66 = .ok (.goto (-53), 3) := by decide +kernel
theorem dX11_makeAnew_69 : decode cX11_makeAnew 69 = .ok (.aload_n 0, 1) := by decide +kernel
theorem dX11_makeAnew_70 : decode cX11_makeAnew 70 = .ok (.aload_n 0, 1) := by decide +kernel
theorem dX11_makeAnew_71 : decode cX11_makeAnew 71 = .ok (.getfield 47, 3) := by decide +kernel
theorem dX11_makeAnew_74 : decode cX11_makeAnew 74 = .ok (.getfield 276, 3) := by decide +kernel
theorem dX11_makeAnew_77 : decode cX11_makeAnew 77 = .ok (.putfield 96, 3) := by decide +kernel
theorem dX11_makeAnew_80 : decode cX11_makeAnew 80 = .ok (.aload_n 0, 1) := by decide +kernel
theorem dX11_makeAnew_81 : decode cX11_makeAnew 81 = .ok (.getfield 27, 3) := by decide +kernel
theorem dX11_makeAnew_84 : decode cX11_makeAnew 84 = .ok (.iconst 0, 1) := by decide +kernel
theorem dX11_makeAnew_85 : decode cX11_makeAnew 85 = .ok (.putfield 212, 3) := by decide +kernel
theorem dX11_makeAnew_88 : decode cX11_makeAnew 88 = .ok (.return_, 1) := by decide +kernel
theorem dX11_newThrower_0 : decode cX11_newThrower 0 = .ok (.iload_n 0, 1) := by decide +kernel
theorem dX11_newThrower_1 : decode cX11_newThrower 1 = .ok (.lookupswitch 47 #[(1, 27), (2, 37)], 27) := by decide +kernel
theorem dX11_newThrower_28 : decode cX11_newThrower 28 = .ok (.new 288, 3) := by decide +kernel
theorem dX11_newThrower_31 : decode cX11_newThrower 31 = .ok (.dup, 1) := by decide +kernel
theorem dX11_newThrower_32 : decode cX11_newThrower 32 = .ok (.iload_n 1, 1) := by decide +kernel
theorem dX11_newThrower_33 : decode cX11_newThrower 33 = .ok (.iload_n 2, 1) := by decide +kernel
theorem dX11_newThrower_34 : decode cX11_newThrower 34 = .ok (.invokespecial 290, 3) := by decide +kernel
theorem dX11_newThrower_37 : decode cX11_newThrower 37 = .ok (.areturn, 1) := by decide +kernel
theorem dX11_newThrower_38 : decode cX11_newThrower 38 = .ok (.new 292, 3) := by decide +kernel
theorem dX11_newThrower_41 : decode cX11_newThrower 41 = .ok (.dup, 1) := by decide +kernel
theorem dX11_newThrower_42 : decode cX11_newThrower 42 = .ok (.iload_n 1, 1) := by decide +kernel
theorem dX11_newThrower_43 : decode cX11_newThrower 43 = .ok (.iload_n 2, 1) := by decide +kernel
theorem dX11_newThrower_44 : decode cX11_newThrower 44 = .ok (.invokespecial 294, 3) := by decide +kernel
theorem dX11_newThrower_47 : decode cX11_newThrower 47 = .ok (.areturn, 1) := by decide +kernel
theorem dX11_newThrower_48 : decode cX11_newThrower 48 = .ok (.new 18, 3) := by decide +kernel
theorem dX11_newThrower_51 : decode cX11_newThrower 51 = .ok (.dup, 1) := by decide +kernel
theorem dX11_newThrower_52 : decode cX11_newThrower 52 = .ok (.iload_n 1, 1) := by decide +kernel
theorem dX11_newThrower_53 : decode cX11_newThrower 53 = .ok (.iload_n 2, 1) := by decide +kernel
theorem dX11_newThrower_54 : decode cX11_newThrower 54 = .ok (.invokespecial 295, 3) := by decide +kernel
theorem dX11_newThrower_57 : decode cX11_newThrower 57 = .ok (.areturn, 1) := by decide +kernel
theorem dX11_isOfKind_0 : decode cX11_isOfKind 0 = .ok (.iload_n 1, 1) := by decide +kernel
theorem dX11_isOfKind_1 : decode cX11_isOfKind 1 = .ok (.lookupswitch 37 #[(1, 27), (2, 32)], 27) := by decide +kernel
theorem dX11_isOfKind_28 : decode cX11_isOfKind 28 = .ok (.aload_n 0, 1) := by decide +kernel
theorem dX11_isOfKind_29 : decode cX11_isOfKind 29 = .ok (.instanceof 288, 3) := by decide +kernel
theorem dX11_isOfKind_32 : decode cX11_isOfKind 32 = .ok (.ireturn, 1) := by decide +kernel
theorem dX11_isOfKind_33 : decode cX11_isOfKind 33 = .ok (.aload_n 0, 1) := by decide +kernel
theorem dX11_isOfKind_34 : decode cX11_isOfKind 34 = .ok (.instanceof 292, 3) := by decide +kernel
theorem dX11_isOfKind_37 : decode cX11_isOfKind 37 = .ok (.ireturn, 1) := by decide +kernel
theorem dX11_isOfKind_38 : decode cX11_isOfKind 38 = .ok (.iconst 1, 1) := by decide +kernel
theorem dX11_isOfKind_39 : decode cX11_isOfKind 39 = .ok (.ireturn, 1) := by decide +kernel
theorem dX11_isLane_0 : decode cX11_isLane 0 = .ok (.iload_n 0, 1) := by decide +kernel
theorem dX11_isLane_1 : decode cX11_isLane 1 = .ok (.iconst 0, 1) := by decide +kernel
theorem dX11_isLane_2 : decode cX11_isLane 2 = .ok (.iconst 2, 1) := by decide +kernel
theorem dX11_isLane_3 : decode cX11_isLane 3 = .ok (.invokestatic 143, 3) := by decide +kernel
theorem dX11_isLane_6 : decode cX11_isLane 6 = .ok (.ireturn, 1) := by decide +kernel
theorem dX11_isWithin_0 : decode cX11_isWithin 0 = .ok (.iload_n 0, 1) := by decide +kernel
theorem dX11_isWithin_1 : decode cX11_isWithin 1 = .ok (.iload_n 1, 1) := by decide +kernel
theorem dX11_isWithin_2 : decode cX11_isWithin 2 = .ok (.if_icmp .lt 12, 3) := by decide +kernel
theorem dX11_isWithin_5 : decode cX11_isWithin 5 = .ok (.iload_n 0, 1) := by decide +kernel
theorem dX11_isWithin_6 : decode cX11_isWithin 6 = .ok (.iload_n 2, 1) := by decide +kernel
theorem dX11_isWithin_7 : decode cX11_isWithin 7 = .ok (.if_icmp .gt 7, 3) := by decide +kernel
theorem dX11_isWithin_10 : decode cX11_isWithin 10 = .ok (.iconst 1, 1) := by decide +kernel
theorem dX11_isWithin_11 : decode cX11_isWithin 11 = .ok (.goto 4, 3) := by decide +kernel
theorem dX11_isWithin_14 : decode cX11_isWithin 14 = .ok (.iconst 0, 1) := by decide +kernel
theorem dX11_isWithin_15 : decode cX11_isWithin 15 = .ok (.ireturn, 1) := by decide +kernel
theorem dX11_isAskedOfFeasts_0 : decode cX11_isAskedOfFeasts 0 = .ok (.iload_n 0, 1) := by decide +kernel
theorem dX11_isAskedOfFeasts_1 : decode cX11_isAskedOfFeasts 1 = .ok (.iconst 0, 1) := by decide +kernel
theorem dX11_isAskedOfFeasts_2 : decode cX11_isAskedOfFeasts 2 = .ok (.iconst 4, 1) := by decide +kernel
theorem dX11_isAskedOfFeasts_3 : decode cX11_isAskedOfFeasts 3 = .ok (.invokestatic 143, 3) := by decide +kernel
theorem dX11_isAskedOfFeasts_6 : decode cX11_isAskedOfFeasts 6 = .ok (.ifCond .ne 14, 3) := by decide +kernel
theorem dX11_isAskedOfFeasts_9 : decode cX11_isAskedOfFeasts 9 = .ok (.iload_n 0, 1) := by decide +kernel
theorem dX11_isAskedOfFeasts_10 : decode cX11_isAskedOfFeasts 10 = .ok (.bipush 10, 2) := by decide +kernel
theorem dX11_isAskedOfFeasts_12 : decode cX11_isAskedOfFeasts 12 = .ok (.bipush 13, 2) := by decide +kernel
theorem dX11_isAskedOfFeasts_14 : decode cX11_isAskedOfFeasts 14 = .ok (.invokestatic 143, 3) := by decide +kernel
theorem dX11_isAskedOfFeasts_17 : decode cX11_isAskedOfFeasts 17 = .ok (.ifCond .eq 7, 3) := by decide +kernel
theorem dX11_isAskedOfFeasts_20 : decode cX11_isAskedOfFeasts 20 = .ok (.iconst 1, 1) := by decide +kernel
theorem dX11_isAskedOfFeasts_21 : decode cX11_isAskedOfFeasts 21 = .ok (.goto 4, 3) := by decide +kernel
theorem dX11_isAskedOfFeasts_24 : decode cX11_isAskedOfFeasts 24 = .ok (.iconst 0, 1) := by decide +kernel
theorem dX11_isAskedOfFeasts_25 : decode cX11_isAskedOfFeasts 25 = .ok (.ireturn, 1) := by decide +kernel
theorem dX11_refusalOfPairs_0 : decode cX11_refusalOfPairs 0 = .ok (.iconst 0, 1) := by decide +kernel
theorem dX11_refusalOfPairs_1 : decode cX11_refusalOfPairs 1 = .ok (.istore 4, 2) := by decide +kernel
theorem dX11_refusalOfPairs_3 : decode cX11_refusalOfPairs 3 = .ok (.iload 4, 2) := by decide +kernel
theorem dX11_refusalOfPairs_5 : decode cX11_refusalOfPairs 5 = .ok (.iload_n 3, 1) := by decide +kernel
theorem dX11_refusalOfPairs_6 : decode cX11_refusalOfPairs 6 = .ok (.if_icmp .ge 45, 3) := by decide +kernel
theorem dX11_refusalOfPairs_9 : decode cX11_refusalOfPairs 9 = .ok (.aload_n 0, 1) := by decide +kernel
theorem dX11_refusalOfPairs_10 : decode cX11_refusalOfPairs 10 = .ok (.aload_n 1, 1) := by decide +kernel
theorem dX11_refusalOfPairs_11 : decode cX11_refusalOfPairs 11 = .ok (.iload_n 2, 1) := by decide +kernel
theorem dX11_refusalOfPairs_12 : decode cX11_refusalOfPairs 12 = .ok (.iconst 2, 1) := by decide +kernel
theorem dX11_refusalOfPairs_13 : decode cX11_refusalOfPairs 13 = .ok (.iload 4, 2) := by decide +kernel
theorem dX11_refusalOfPairs_15 : decode cX11_refusalOfPairs 15 = .ok (.imul, 1) := by decide +kernel
theorem dX11_refusalOfPairs_16 : decode cX11_refusalOfPairs 16 = .ok (.iadd, 1) := by decide +kernel
theorem dX11_refusalOfPairs_17 : decode cX11_refusalOfPairs 17 = .ok (.invokevirtual 242, 3) := by decide +kernel
theorem dX11_refusalOfPairs_20 : decode cX11_refusalOfPairs 20 = .ok (.aload_n 1, 1) := by decide +kernel
theorem dX11_refusalOfPairs_21 : decode cX11_refusalOfPairs 21 = .ok (.iload_n 2, 1) := by decide +kernel
theorem dX11_refusalOfPairs_22 : decode cX11_refusalOfPairs 22 = .ok (.iconst 2, 1) := by decide +kernel
theorem dX11_refusalOfPairs_23 : decode cX11_refusalOfPairs 23 = .ok (.iload 4, 2) := by decide +kernel
theorem dX11_refusalOfPairs_25 : decode cX11_refusalOfPairs 25 = .ok (.imul, 1) := by decide +kernel
theorem dX11_refusalOfPairs_26 : decode cX11_refusalOfPairs 26 = .ok (.iadd, 1) := by decide +kernel
theorem dX11_refusalOfPairs_27 : decode cX11_refusalOfPairs 27 = .ok (.iconst 1, 1) := by decide +kernel
theorem dX11_refusalOfPairs_28 : decode cX11_refusalOfPairs 28 = .ok (.iadd, 1) := by decide +kernel
theorem dX11_refusalOfPairs_29 : decode cX11_refusalOfPairs 29 = .ok (.invokevirtual 242, 3) := by decide +kernel
theorem dX11_refusalOfPairs_32 : decode cX11_refusalOfPairs 32 = .ok (.invokevirtual 296, 3) := by decide +kernel
theorem dX11_refusalOfPairs_35 : decode cX11_refusalOfPairs 35 = .ok (.istore 5, 2) := by decide +kernel
theorem dX11_refusalOfPairs_37 : decode cX11_refusalOfPairs 37 = .ok (.iload 5, 2) := by decide +kernel
theorem dX11_refusalOfPairs_39 : decode cX11_refusalOfPairs 39 = .ok (.ifCond .eq 6, 3) := by decide +kernel
theorem dX11_refusalOfPairs_42 : decode cX11_refusalOfPairs 42 = .ok (.iload 5, 2) := by decide +kernel
theorem dX11_refusalOfPairs_44 : decode cX11_refusalOfPairs 44 = .ok (.ireturn, 1) := by decide +kernel
theorem dX11_refusalOfPairs_45 : decode cX11_refusalOfPairs 45 = .ok (.iinc 4 1, 3) := by decide +kernel
theorem dX11_refusalOfPairs_48 : decode cX11_refusalOfPairs 48 = .ok (.goto (-45), 3) := by decide +kernel
theorem dX11_refusalOfPairs_51 : decode cX11_refusalOfPairs 51 = .ok (.iconst 0, 1) := by decide +kernel
theorem dX11_refusalOfPairs_52 : decode cX11_refusalOfPairs 52 = .ok (.ireturn, 1) := by decide +kernel
theorem dX11_refusalOfPair_0 : decode cX11_refusalOfPair 0 = .ok (.iload_n 2, 1) := by decide +kernel
theorem dX11_refusalOfPair_1 : decode cX11_refusalOfPair 1 = .ok (.bipush 10, 2) := by decide +kernel
theorem dX11_refusalOfPair_3 : decode cX11_refusalOfPair 3 = .ok (.if_icmp .eq 9, 3) := by decide +kernel
theorem dX11_refusalOfPair_6 : decode cX11_refusalOfPair 6 = .ok (.iload_n 2, 1) := by decide +kernel
theorem dX11_refusalOfPair_7 : decode cX11_refusalOfPair 7 = .ok (.bipush 11, 2) := by decide +kernel
theorem dX11_refusalOfPair_9 : decode cX11_refusalOfPair 9 = .ok (.if_icmp .ne 19, 3) := by decide +kernel
theorem dX11_refusalOfPair_12 : decode cX11_refusalOfPair 12 = .ok (.iload_n 1, 1) := by decide +kernel
theorem dX11_refusalOfPair_13 : decode cX11_refusalOfPair 13 = .ok (.iconst 0, 1) := by decide +kernel
theorem dX11_refusalOfPair_14 : decode cX11_refusalOfPair 14 = .ok (.iconst 3, 1) := by decide +kernel
theorem dX11_refusalOfPair_15 : decode cX11_refusalOfPair 15 = .ok (.invokestatic 143, 3) := by decide +kernel
theorem dX11_refusalOfPair_18 : decode cX11_refusalOfPair 18 = .ok (.ifCond .eq 7, 3) := by decide +kernel
theorem dX11_refusalOfPair_21 : decode cX11_refusalOfPair 21 = .ok (.iconst 0, 1) := by decide +kernel
theorem dX11_refusalOfPair_22 : decode cX11_refusalOfPair 22 = .ok (.goto 5, 3) := by decide +kernel
theorem dX11_refusalOfPair_25 : decode cX11_refusalOfPair 25 = .ok (.bipush (-2), 2) := by decide +kernel
theorem dX11_refusalOfPair_27 : decode cX11_refusalOfPair 27 = .ok (.ireturn, 1) := by decide +kernel
theorem dX11_refusalOfPair_28 : decode cX11_refusalOfPair 28 = .ok (.iload_n 2, 1) := by decide +kernel
theorem dX11_refusalOfPair_29 : decode cX11_refusalOfPair 29 = .ok (.iconst 0, 1) := by decide +kernel
theorem dX11_refusalOfPair_30 : decode cX11_refusalOfPair 30 = .ok (.iconst 3, 1) := by decide +kernel
theorem dX11_refusalOfPair_31 : decode cX11_refusalOfPair 31 = .ok (.invokestatic 143, 3) := by decide +kernel
theorem dX11_refusalOfPair_34 : decode cX11_refusalOfPair 34 = .ok (.ifCond .ne 6, 3) := by decide +kernel
theorem dX11_refusalOfPair_37 : decode cX11_refusalOfPair 37 = .ok (.bipush (-2), 2) := by decide +kernel
theorem dX11_refusalOfPair_39 : decode cX11_refusalOfPair 39 = .ok (.ireturn, 1) := by decide +kernel
theorem dX11_refusalOfPair_40 : decode cX11_refusalOfPair 40 = .ok (.aload_n 0, 1) := by decide +kernel
theorem dX11_refusalOfPair_41 : decode cX11_refusalOfPair 41 = .ok (.iload_n 1, 1) := by decide +kernel
theorem dX11_refusalOfPair_42 : decode cX11_refusalOfPair 42 = .ok (.invokevirtual 124, 3) := by decide +kernel
theorem dX11_refusalOfPair_45 : decode cX11_refusalOfPair 45 = .ok (.ifnonnull 7, 3) := by decide +kernel
theorem dX11_refusalOfPair_48 : decode cX11_refusalOfPair 48 = .ok (.iconst (-1), 1) := by decide +kernel
theorem dX11_refusalOfPair_49 : decode cX11_refusalOfPair 49 = .ok (.goto 4, 3) := by decide +kernel
theorem dX11_refusalOfPair_52 : decode cX11_refusalOfPair 52 = .ok (.iconst 0, 1) := by decide +kernel
theorem dX11_refusalOfPair_53 : decode cX11_refusalOfPair 53 = .ok (.ireturn, 1) := by decide +kernel
theorem dX11_tellFeast_0 : decode cX11_tellFeast 0 = .ok (.aload_n 0, 1) := by decide +kernel
theorem dX11_tellFeast_1 : decode cX11_tellFeast 1 = .ok (.getfield 54, 3) := by decide +kernel
theorem dX11_tellFeast_4 : decode cX11_tellFeast 4 = .ok (.aload_n 0, 1) := by decide +kernel
theorem dX11_tellFeast_5 : decode cX11_tellFeast 5 = .ok (.getfield 12, 3) := by decide +kernel
theorem dX11_tellFeast_8 : decode cX11_tellFeast 8 = .ok (.invokevirtual 299, 3) := by decide +kernel
theorem dX11_tellFeast_11 : decode cX11_tellFeast 11 = .ok (.iconst 0, 1) := by decide +kernel
theorem dX11_tellFeast_12 : decode cX11_tellFeast 12 = .ok (.istore 4, 2) := by decide +kernel
theorem dX11_tellFeast_14 : decode cX11_tellFeast 14 = .ok (.iload 4, 2) := by decide +kernel
theorem dX11_tellFeast_16 : decode cX11_tellFeast 16 = .ok (.iload_n 3, 1) := by decide +kernel
theorem dX11_tellFeast_17 : decode cX11_tellFeast 17 = .ok (.if_icmp .ge 59, 3) := by decide +kernel
theorem dX11_tellFeast_20 : decode cX11_tellFeast 20 = .ok (.aload_n 0, 1) := by decide +kernel
theorem dX11_tellFeast_21 : decode cX11_tellFeast 21 = .ok (.getfield 54, 3) := by decide +kernel
theorem dX11_tellFeast_24 : decode cX11_tellFeast 24 = .ok (.getfield 303, 3) := by decide +kernel
theorem dX11_tellFeast_27 : decode cX11_tellFeast 27 = .ok (.bipush (-9), 2) := by decide +kernel
theorem dX11_tellFeast_29 : decode cX11_tellFeast 29 = .ok (.if_icmp .ne 47, 3) := by decide +kernel
theorem dX11_tellFeast_32 : decode cX11_tellFeast 32 = .ok (.aload_n 0, 1) := by decide +kernel
theorem dX11_tellFeast_33 : decode cX11_tellFeast 33 = .ok (.aload_n 1, 1) := by decide +kernel
theorem dX11_tellFeast_34 : decode cX11_tellFeast 34 = .ok (.iload_n 2, 1) := by decide +kernel
theorem dX11_tellFeast_35 : decode cX11_tellFeast 35 = .ok (.iconst 2, 1) := by decide +kernel
theorem dX11_tellFeast_36 : decode cX11_tellFeast 36 = .ok (.iload 4, 2) := by decide +kernel
theorem dX11_tellFeast_38 : decode cX11_tellFeast 38 = .ok (.imul, 1) := by decide +kernel
theorem dX11_tellFeast_39 : decode cX11_tellFeast 39 = .ok (.iadd, 1) := by decide +kernel
theorem dX11_tellFeast_40 : decode cX11_tellFeast 40 = .ok (.invokevirtual 242, 3) := by decide +kernel
theorem dX11_tellFeast_43 : decode cX11_tellFeast 43 = .ok (.aload_n 1, 1) := by decide +kernel
theorem dX11_tellFeast_44 : decode cX11_tellFeast 44 = .ok (.iload_n 2, 1) := by decide +kernel
theorem dX11_tellFeast_45 : decode cX11_tellFeast 45 = .ok (.iconst 2, 1) := by decide +kernel
theorem dX11_tellFeast_46 : decode cX11_tellFeast 46 = .ok (.iload 4, 2) := by decide +kernel
theorem dX11_tellFeast_48 : decode cX11_tellFeast 48 = .ok (.imul, 1) := by decide +kernel
theorem dX11_tellFeast_49 : decode cX11_tellFeast 49 = .ok (.iadd, 1) := by decide +kernel
theorem dX11_tellFeast_50 : decode cX11_tellFeast 50 = .ok (.iconst 1, 1) := by decide +kernel
theorem dX11_tellFeast_51 : decode cX11_tellFeast 51 = .ok (.iadd, 1) := by decide +kernel
theorem dX11_tellFeast_52 : decode cX11_tellFeast 52 = .ok (.invokevirtual 242, 3) := by decide +kernel
theorem dX11_tellFeast_55 : decode cX11_tellFeast 55 = .ok (.invokevirtual 306, 3) := by decide +kernel
theorem dX11_tellFeast_58 : decode cX11_tellFeast 58 = .ok (.ifCond .ne 12, 3) := by decide +kernel
theorem dX11_tellFeast_61 : decode cX11_tellFeast 61 = .ok (.aload_n 0, 1) := by decide +kernel
theorem dX11_tellFeast_62 : decode cX11_tellFeast 62 = .ok (.getfield 54, 3) := by decide +kernel
theorem dX11_tellFeast_65 : decode cX11_tellFeast 65 = .ok (.iload 4, 2) := by decide +kernel
theorem dX11_tellFeast_67 : decode cX11_tellFeast 67 = .ok (.putfield 303, 3) := by decide +kernel
theorem dX11_tellFeast_70 : decode cX11_tellFeast 70 = .ok (.iinc 4 1, 3) := by decide +kernel
theorem dX11_tellFeast_73 : decode cX11_tellFeast 73 = .ok (.goto (-59), 3) := by decide +kernel
theorem dX11_tellFeast_76 : decode cX11_tellFeast 76 = .ok (.return_, 1) := by decide +kernel
theorem dX11_canAct_0 : decode cX11_canAct 0 = .ok (.iload_n 2, 1) := by decide +kernel
theorem dX11_canAct_1 : decode cX11_canAct 1 = .ok (.bipush 10, 2) := by decide +kernel
theorem dX11_canAct_3 : decode cX11_canAct 3 = .ok (.if_icmp .ne 16, 3) := by decide +kernel
theorem dX11_canAct_6 : decode cX11_canAct 6 = .ok (.aload_n 0, 1) := by decide +kernel
theorem dX11_canAct_7 : decode cX11_canAct 7 = .ok (.getfield 54, 3) := by decide +kernel
theorem dX11_canAct_10 : decode cX11_canAct 10 = .ok (.getfield 309, 3) := by decide +kernel
theorem dX11_canAct_13 : decode cX11_canAct 13 = .ok (.iload_n 1, 1) := by decide +kernel
theorem dX11_canAct_14 : decode cX11_canAct 14 = .ok (.putfield 147, 3) := by decide +kernel
theorem dX11_canAct_17 : decode cX11_canAct 17 = .ok (.iconst 1, 1) := by decide +kernel
theorem dX11_canAct_18 : decode cX11_canAct 18 = .ok (.ireturn, 1) := by decide +kernel
theorem dX11_canAct_19 : decode cX11_canAct 19 = .ok (.iload_n 2, 1) := by decide +kernel
theorem dX11_canAct_20 : decode cX11_canAct 20 = .ok (.bipush 11, 2) := by decide +kernel
theorem dX11_canAct_22 : decode cX11_canAct 22 = .ok (.if_icmp .ne 12, 3) := by decide +kernel
theorem dX11_canAct_25 : decode cX11_canAct 25 = .ok (.aload_n 0, 1) := by decide +kernel
theorem dX11_canAct_26 : decode cX11_canAct 26 = .ok (.getfield 54, 3) := by decide +kernel
theorem dX11_canAct_29 : decode cX11_canAct 29 = .ok (.iload_n 1, 1) := by decide +kernel
theorem dX11_canAct_30 : decode cX11_canAct 30 = .ok (.invokevirtual 310, 3) := by decide +kernel
theorem dX11_canAct_33 : decode cX11_canAct 33 = .ok (.ireturn, 1) := by decide +kernel
theorem dX11_canAct_34 : decode cX11_canAct 34 = .ok (.aload_n 0, 1) := by decide +kernel
theorem dX11_canAct_35 : decode cX11_canAct 35 = .ok (.iload_n 1, 1) := by decide +kernel
theorem dX11_canAct_36 : decode cX11_canAct 36 = .ok (.invokevirtual 124, 3) := by decide +kernel
theorem dX11_canAct_39 : decode cX11_canAct 39 = .ok (.astore_n 3, 1) := by decide +kernel
theorem dX11_canAct_40 : decode cX11_canAct 40 = .ok (.aload_n 3, 1) := by decide +kernel
theorem dX11_canAct_41 : decode cX11_canAct 41 = .ok (.ifnull 19, 3) := by decide +kernel
theorem dX11_canAct_44 : decode cX11_canAct 44 = .ok (.aload_n 0, 1) := by decide +kernel
theorem dX11_canAct_45 : decode cX11_canAct 45 = .ok (.getfield 54, 3) := by decide +kernel
theorem dX11_canAct_48 : decode cX11_canAct 48 = .ok (.aload_n 3, 1) := by decide +kernel
theorem dX11_canAct_49 : decode cX11_canAct 49 = .ok (.iload_n 2, 1) := by decide +kernel
theorem dX11_canAct_50 : decode cX11_canAct 50 = .ok (.invokevirtual 313, 3) := by decide +kernel
theorem dX11_canAct_53 : decode cX11_canAct 53 = .ok (.ifCond .eq 7, 3) := by decide +kernel
theorem dX11_canAct_56 : decode cX11_canAct 56 = .ok (.iconst 1, 1) := by decide +kernel
theorem dX11_canAct_57 : decode cX11_canAct 57 = .ok (.goto 4, 3) := by decide +kernel
theorem dX11_canAct_60 : decode cX11_canAct 60 = .ok (.iconst 0, 1) := by decide +kernel
theorem dX11_canAct_61 : decode cX11_canAct 61 = .ok (.ireturn, 1) := by decide +kernel
theorem dX11_winsOf_0 : decode cX11_winsOf 0 = .ok (.iconst 0, 1) := by decide +kernel
theorem dX11_winsOf_1 : decode cX11_winsOf 1 = .ok (.istore_n 2, 1) := by decide +kernel
theorem dX11_winsOf_2 : decode cX11_winsOf 2 = .ok (.iconst 0, 1) := by decide +kernel
theorem dX11_winsOf_3 : decode cX11_winsOf 3 = .ok (.istore_n 3, 1) := by decide +kernel
theorem dX11_winsOf_4 : decode cX11_winsOf 4 = .ok (.iload_n 3, 1) := by decide +kernel
theorem dX11_winsOf_5 : decode cX11_winsOf 5 = .ok (.aload_n 0, 1) := by decide +kernel
theorem dX11_winsOf_6 : decode cX11_winsOf 6 = .ok (.getfield 12, 3) := by decide +kernel
theorem dX11_winsOf_9 : decode cX11_winsOf 9 = .ok (.getfield 266, 3) := by decide +kernel
theorem dX11_winsOf_12 : decode cX11_winsOf 12 = .ok (.if_icmp .ge 58, 3) := by decide +kernel
theorem dX11_winsOf_15 : decode cX11_winsOf 15 = .ok (.aload_n 0, 1) := by decide +kernel
theorem dX11_winsOf_16 : decode cX11_winsOf 16 = .ok (.getfield 12, 3) := by decide +kernel
theorem dX11_winsOf_19 : decode cX11_winsOf 19 = .ok (.iload_n 3, 1) := by decide +kernel
theorem dX11_winsOf_20 : decode cX11_winsOf 20 = .ok (.invokevirtual 99, 3) := by decide +kernel
theorem dX11_winsOf_23 : decode cX11_winsOf 23 = .ok (.astore 4, 2) := by decide +kernel
theorem dX11_winsOf_25 : decode cX11_winsOf 25 = .ok (.aload 4, 2) := by decide +kernel
theorem dX11_winsOf_27 : decode cX11_winsOf 27 = .ok (.ifnull 37, 3) := by decide +kernel
theorem dX11_winsOf_30 : decode cX11_winsOf 30 = .ok (.aload 4, 2) := by decide +kernel
theorem dX11_winsOf_32 : decode cX11_winsOf 32 = .ok (.aload_n 1, 1) := by decide +kernel
theorem dX11_winsOf_33 : decode cX11_winsOf 33 = .ok (.getfield 316, 3) := by decide +kernel
theorem dX11_winsOf_36 : decode cX11_winsOf 36 = .ok (.aload 4, 2) := by decide +kernel
theorem dX11_winsOf_38 : decode cX11_winsOf 38 = .ok (.aload_n 1, 1) := by decide +kernel
theorem dX11_winsOf_39 : decode cX11_winsOf 39 = .ok (.invokevirtual 134, 3) := by decide +kernel
theorem dX11_winsOf_42 : decode cX11_winsOf 42 = .ok (.aload_n 0, 1) := by decide +kernel
theorem dX11_winsOf_43 : decode cX11_winsOf 43 = .ok (.getfield 12, 3) := by decide +kernel
theorem dX11_winsOf_46 : decode cX11_winsOf 46 = .ok (.getfield 147, 3) := by decide +kernel
theorem dX11_winsOf_49 : decode cX11_winsOf 49 = .ok (.invokevirtual 150, 3) := by decide +kernel
theorem dX11_winsOf_52 : decode cX11_winsOf 52 = .ok (.invokevirtual 224, 3) := by decide +kernel
theorem dX11_winsOf_55 : decode cX11_winsOf 55 = .ok (.ifCond .eq 9, 3) := by decide +kernel
theorem dX11_winsOf_58 : decode cX11_winsOf 58 = .ok (.iload_n 2, 1) := by decide +kernel
theorem dX11_winsOf_59 : decode cX11_winsOf 59 = .ok (.iconst 1, 1) := by decide +kernel
theorem dX11_winsOf_60 : decode cX11_winsOf 60 = .ok (.iload_n 3, 1) := by decide +kernel
theorem dX11_winsOf_61 : decode cX11_winsOf 61 = .ok (.ishl, 1) := by decide +kernel
theorem dX11_winsOf_62 : decode cX11_winsOf 62 = .ok (.ior, 1) := by decide +kernel
theorem dX11_winsOf_63 : decode cX11_winsOf 63 = .ok (.istore_n 2, 1) := by decide +kernel
theorem dX11_winsOf_64 : decode cX11_winsOf 64 = .ok (.iinc 3 1, 3) := by decide +kernel
theorem dX11_winsOf_67 : decode cX11_winsOf 67 = .ok (.goto (-63), 3) := by decide +kernel
theorem dX11_winsOf_70 : decode cX11_winsOf 70 = .ok (.iload_n 2, 1) := by decide +kernel
theorem dX11_winsOf_71 : decode cX11_winsOf 71 = .ok (.ireturn, 1) := by decide +kernel
theorem dX11_preparePairing_0 : decode cX11_preparePairing 0 = .ok (.aload_n 0, 1) := by decide +kernel
theorem dX11_preparePairing_1 : decode cX11_preparePairing 1 = .ok (.getfield 61, 3) := by decide +kernel
theorem dX11_preparePairing_4 : decode cX11_preparePairing 4 = .ok (.aload_n 0, 1) := by decide +kernel
theorem dX11_preparePairing_5 : decode cX11_preparePairing 5 = .ok (.getfield 96, 3) := by decide +kernel
theorem dX11_preparePairing_8 : decode cX11_preparePairing 8 = .ok (.aload_n 0, 1) := by decide +kernel
theorem dX11_preparePairing_9 : decode cX11_preparePairing 9 = .ok (.getfield 12, 3) := by decide +kernel
theorem dX11_preparePairing_12 : decode cX11_preparePairing 12 = .ok (.getfield 266, 3) := by decide +kernel
theorem dX11_preparePairing_15 : decode cX11_preparePairing 15 = .ok (.invokevirtual 319, 3) := by decide +kernel
theorem dX11_preparePairing_18 : decode cX11_preparePairing 18 = .ok (.iconst 0, 1) := by decide +kernel
theorem dX11_preparePairing_19 : decode cX11_preparePairing 19 = .ok (.istore_n 1, 1) := by decide +kernel
theorem dX11_preparePairing_20 : decode cX11_preparePairing 20 = .ok (.iload_n 1, 1) := by decide +kernel
theorem dX11_preparePairing_21 : decode cX11_preparePairing 21 = .ok (.aload_n 0, 1) := by decide +kernel
theorem dX11_preparePairing_22 : decode cX11_preparePairing 22 = .ok (.getfield 96, 3) := by decide +kernel
theorem dX11_preparePairing_25 : decode cX11_preparePairing 25 = .ok (.if_icmp .ge 37, 3) := by decide +kernel
theorem dX11_preparePairing_28 : decode cX11_preparePairing 28 = .ok (.aload_n 0, 1) := by decide +kernel
theorem dX11_preparePairing_29 : decode cX11_preparePairing 29 = .ok (.iload_n 1, 1) := by decide +kernel
theorem dX11_preparePairing_30 : decode cX11_preparePairing 30 = .ok (.invokevirtual 124, 3) := by decide +kernel
theorem dX11_preparePairing_33 : decode cX11_preparePairing 33 = .ok (.astore_n 2, 1) := by decide +kernel
theorem dX11_preparePairing_34 : decode cX11_preparePairing 34 = .ok (.aload_n 2, 1) := by decide +kernel
theorem dX11_preparePairing_35 : decode cX11_preparePairing 35 = .ok (.ifnull 21, 3) := by decide +kernel
theorem dX11_preparePairing_38 : decode cX11_preparePairing 38 = .ok (.aload_n 0, 1) := by decide +kernel
theorem dX11_preparePairing_39 : decode cX11_preparePairing 39 = .ok (.getfield 61, 3) := by decide +kernel
theorem dX11_preparePairing_42 : decode cX11_preparePairing 42 = .ok (.iload_n 1, 1) := by decide +kernel
theorem dX11_preparePairing_43 : decode cX11_preparePairing 43 = .ok (.aload_n 0, 1) := by decide +kernel
theorem dX11_preparePairing_44 : decode cX11_preparePairing 44 = .ok (.aload_n 2, 1) := by decide +kernel
theorem dX11_preparePairing_45 : decode cX11_preparePairing 45 = .ok (.invokevirtual 178, 3) := by decide +kernel
theorem dX11_preparePairing_48 : decode cX11_preparePairing 48 = .ok (.invokevirtual 321, 3) := by decide +kernel
theorem dX11_preparePairing_51 : decode cX11_preparePairing 51 = .ok (.aload_n 0, 1) := by decide +kernel
theorem dX11_preparePairing_52 : decode cX11_preparePairing 52 = .ok (.aload_n 2, 1) := by decide +kernel
theorem dX11_preparePairing_53 : decode cX11_preparePairing 53 = .ok (.invokevirtual 324, 3) := by decide +kernel
theorem dX11_preparePairing_56 : decode cX11_preparePairing 56 = .ok (.iinc 1 1, 3) := by decide +kernel
theorem dX11_preparePairing_59 : decode cX11_preparePairing 59 = .ok (.goto (-39), 3) := by decide +kernel
theorem dX11_preparePairing_62 : decode cX11_preparePairing 62 = .ok (.return_, 1) := by decide +kernel
theorem dX11_noteNearness_0 : decode cX11_noteNearness 0 = .ok (.iconst 0, 1) := by decide +kernel
theorem dX11_noteNearness_1 : decode cX11_noteNearness 1 = .ok (.istore_n 2, 1) := by decide +kernel
theorem dX11_noteNearness_2 : decode cX11_noteNearness 2 = .ok (.iload_n 2, 1) := by decide +kernel
theorem dX11_noteNearness_3 : decode cX11_noteNearness 3 = .ok (.aload_n 0, 1) := by decide +kernel
theorem dX11_noteNearness_4 : decode cX11_noteNearness 4 = .ok (.getfield 12, 3) := by decide +kernel
theorem dX11_noteNearness_7 : decode cX11_noteNearness 7 = .ok (.getfield 266, 3) := by decide +kernel
theorem dX11_noteNearness_10 : decode cX11_noteNearness 10 = .ok (.if_icmp .ge 49, 3) := by decide +kernel
theorem dX11_noteNearness_13 : decode cX11_noteNearness 13 = .ok (.aload_n 0, 1) := by decide +kernel
theorem dX11_noteNearness_14 : decode cX11_noteNearness 14 = .ok (.getfield 12, 3) := by decide +kernel
theorem dX11_noteNearness_17 : decode cX11_noteNearness 17 = .ok (.iload_n 2, 1) := by decide +kernel
theorem dX11_noteNearness_18 : decode cX11_noteNearness 18 = .ok (.invokevirtual 99, 3) := by decide +kernel
theorem dX11_noteNearness_21 : decode cX11_noteNearness 21 = .ok (.astore_n 3, 1) := by decide +kernel
theorem dX11_noteNearness_22 : decode cX11_noteNearness 22 = .ok (.aload_n 3, 1) := by decide +kernel
theorem dX11_noteNearness_23 : decode cX11_noteNearness 23 = .ok (.ifnull 30, 3) := by decide +kernel
theorem dX11_noteNearness_26 : decode cX11_noteNearness 26 = .ok (.aload_n 0, 1) := by decide +kernel
theorem dX11_noteNearness_27 : decode cX11_noteNearness 27 = .ok (.getfield 61, 3) := by decide +kernel
theorem dX11_noteNearness_30 : decode cX11_noteNearness 30 = .ok (.aload_n 1, 1) := by decide +kernel
theorem dX11_noteNearness_31 : decode cX11_noteNearness 31 = .ok (.getfield 316, 3) := by decide +kernel
theorem dX11_noteNearness_34 : decode cX11_noteNearness 34 = .ok (.iload_n 2, 1) := by decide +kernel
theorem dX11_noteNearness_35 : decode cX11_noteNearness 35 = .ok (.aload_n 3, 1) := by decide +kernel
theorem dX11_noteNearness_36 : decode cX11_noteNearness 36 = .ok (.aload_n 1, 1) := by decide +kernel
theorem dX11_noteNearness_37 : decode cX11_noteNearness 37 = .ok (.invokevirtual 134, 3) := by decide +kernel
theorem dX11_noteNearness_40 : decode cX11_noteNearness 40 = .ok (.aload_n 0, 1) := by decide +kernel
theorem dX11_noteNearness_41 : decode cX11_noteNearness 41 = .ok (.getfield 12, 3) := by decide +kernel
theorem dX11_noteNearness_44 : decode cX11_noteNearness 44 = .ok (.getfield 147, 3) := by decide +kernel
theorem dX11_noteNearness_47 : decode cX11_noteNearness 47 = .ok (.invokevirtual 150, 3) := by decide +kernel
theorem dX11_noteNearness_50 : decode cX11_noteNearness 50 = .ok (.invokevirtual 328, 3) := by decide +kernel
theorem dX11_noteNearness_53 : decode cX11_noteNearness 53 = .ok (.iinc 2 1, 3) := by decide +kernel
theorem dX11_noteNearness_56 : decode cX11_noteNearness 56 = .ok (.goto (-54), 3) := by decide +kernel
theorem dX11_noteNearness_59 : decode cX11_noteNearness 59 = .ok (.return_, 1) := by decide +kernel
theorem dX11_allSoWith_0 : decode cX11_allSoWith 0 = .ok (.iconst 0, 1) := by decide +kernel
theorem dX11_allSoWith_1 : decode cX11_allSoWith 1 = .ok (.istore 5, 2) := by decide +kernel
theorem dX11_allSoWith_3 : decode cX11_allSoWith 3 = .ok (.iload 5, 2) := by decide +kernel
theorem dX11_allSoWith_5 : decode cX11_allSoWith 5 = .ok (.aload_n 0, 1) := by decide +kernel
theorem dX11_allSoWith_6 : decode cX11_allSoWith 6 = .ok (.getfield 27, 3) := by decide +kernel
theorem dX11_allSoWith_9 : decode cX11_allSoWith 9 = .ok (.getfield 212, 3) := by decide +kernel
theorem dX11_allSoWith_12 : decode cX11_allSoWith 12 = .ok (.if_icmp .ge 132, 3) := by decide +kernel
theorem dX11_allSoWith_15 : decode cX11_allSoWith 15 = .ok (.aload_n 0, 1) := by decide +kernel
theorem dX11_allSoWith_16 : decode cX11_allSoWith 16 = .ok (.aload_n 0, 1) := by decide +kernel
theorem dX11_allSoWith_17 : decode cX11_allSoWith 17 = .ok (.getfield 27, 3) := by decide +kernel
theorem dX11_allSoWith_20 : decode cX11_allSoWith 20 = .ok (.iload 5, 2) := by decide +kernel
theorem dX11_allSoWith_22 : decode cX11_allSoWith 22 = .ok (.invokevirtual 331, 3) := by decide +kernel
theorem dX11_allSoWith_25 : decode cX11_allSoWith 25 = .ok (.invokevirtual 124, 3) := by decide +kernel
theorem dX11_allSoWith_28 : decode cX11_allSoWith 28 = .ok (.astore 6, 2) := by decide +kernel
theorem dX11_allSoWith_30 : decode cX11_allSoWith 30 = .ok (.aload_n 0, 1) := by decide +kernel
theorem dX11_allSoWith_31 : decode cX11_allSoWith 31 = .ok (.getfield 12, 3) := by decide +kernel
theorem dX11_allSoWith_34 : decode cX11_allSoWith 34 = .ok (.aload_n 0, 1) := by decide +kernel
theorem dX11_allSoWith_35 : decode cX11_allSoWith 35 = .ok (.getfield 27, 3) := by decide +kernel
theorem dX11_allSoWith_38 : decode cX11_allSoWith 38 = .ok (.iload 5, 2) := by decide +kernel
theorem dX11_allSoWith_40 : decode cX11_allSoWith 40 = .ok (.invokevirtual 334, 3) := by decide +kernel
theorem dX11_allSoWith_43 : decode cX11_allSoWith 43 = .ok (.invokevirtual 99, 3) := by decide +kernel
theorem dX11_allSoWith_46 : decode cX11_allSoWith 46 = .ok (.astore 7, 2) := by decide +kernel
theorem dX11_allSoWith_48 : decode cX11_allSoWith 48 = .ok (.aload 6, 2) := by decide +kernel
theorem dX11_allSoWith_50 : decode cX11_allSoWith 50 = .ok (.ifnull 8, 3) := by decide +kernel
theorem dX11_allSoWith_53 : decode cX11_allSoWith 53 = .ok (.aload 7, 2) := by decide +kernel
theorem dX11_allSoWith_55 : decode cX11_allSoWith 55 = .ok (.ifnonnull 5, 3) := by decide +kernel
theorem dX11_allSoWith_58 : decode cX11_allSoWith 58 = .ok (.iconst 0, 1) := by decide +kernel
theorem dX11_allSoWith_59 : decode cX11_allSoWith 59 = .ok (.ireturn, 1) := by decide +kernel
theorem dX11_allSoWith_60 : decode cX11_allSoWith 60 = .ok (.aload 6, 2) := by decide +kernel
theorem dX11_allSoWith_62 : decode cX11_allSoWith 62 = .ok (.getfield 316, 3) := by decide +kernel
theorem dX11_allSoWith_65 : decode cX11_allSoWith 65 = .ok (.iload_n 1, 1) := by decide +kernel
theorem dX11_allSoWith_66 : decode cX11_allSoWith 66 = .ok (.if_icmp .ne 7, 3) := by decide +kernel
theorem dX11_allSoWith_69 : decode cX11_allSoWith 69 = .ok (.iload_n 2, 1) := by decide +kernel
theorem dX11_allSoWith_70 : decode cX11_allSoWith 70 = .ok (.goto 8, 3) := by decide +kernel
theorem dX11_allSoWith_73 : decode cX11_allSoWith 73 = .ok (.aload 6, 2) := by decide +kernel
theorem dX11_allSoWith_75 : decode cX11_allSoWith 75 = .ok (.invokevirtual 134, 3) := by decide +kernel
theorem dX11_allSoWith_78 : decode cX11_allSoWith 78 = .ok (.istore 8, 2) := by decide +kernel
theorem dX11_allSoWith_80 : decode cX11_allSoWith 80 = .ok (.aload_n 0, 1) := by decide +kernel
theorem dX11_allSoWith_81 : decode cX11_allSoWith 81 = .ok (.getfield 27, 3) := by decide +kernel
theorem dX11_allSoWith_84 : decode cX11_allSoWith 84 = .ok (.iload 5, 2) := by decide +kernel
theorem dX11_allSoWith_86 : decode cX11_allSoWith 86 = .ok (.invokevirtual 334, 3) := by decide +kernel
theorem dX11_allSoWith_89 : decode cX11_allSoWith 89 = .ok (.iload_n 3, 1) := by decide +kernel
theorem dX11_allSoWith_90 : decode cX11_allSoWith 90 = .ok (.if_icmp .ne 8, 3) := by decide +kernel
theorem dX11_allSoWith_93 : decode cX11_allSoWith 93 = .ok (.iload 4, 2) := by decide +kernel
theorem dX11_allSoWith_95 : decode cX11_allSoWith 95 = .ok (.goto 8, 3) := by decide +kernel
theorem dX11_allSoWith_98 : decode cX11_allSoWith 98 = .ok (.aload 7, 2) := by decide +kernel
theorem dX11_allSoWith_100 : decode cX11_allSoWith 100 = .ok (.getfield 108, 3) := by decide +kernel
theorem dX11_allSoWith_103 : decode cX11_allSoWith 103 = .ok (.istore 9, 2) := by decide +kernel
theorem dX11_allSoWith_105 : decode cX11_allSoWith 105 = .ok (.iload 8, 2) := by decide +kernel
theorem dX11_allSoWith_107 : decode cX11_allSoWith 107 = .ok (.aload 7, 2) := by decide +kernel
theorem dX11_allSoWith_109 : decode cX11_allSoWith 109 = .ok (.getfield 103, 3) := by decide +kernel
theorem dX11_allSoWith_112 : decode cX11_allSoWith 112 = .ok (.iload 9, 2) := by decide +kernel
theorem dX11_allSoWith_114 : decode cX11_allSoWith 114 = .ok (.aload_n 0, 1) := by decide +kernel
theorem dX11_allSoWith_115 : decode cX11_allSoWith 115 = .ok (.getfield 12, 3) := by decide +kernel
theorem dX11_allSoWith_118 : decode cX11_allSoWith 118 = .ok (.getfield 147, 3) := by decide +kernel
theorem dX11_allSoWith_121 : decode cX11_allSoWith 121 = .ok (.invokestatic 200, 3) := by decide +kernel
theorem dX11_allSoWith_124 : decode cX11_allSoWith 124 = .ok (.aload_n 0, 1) := by decide +kernel
theorem dX11_allSoWith_125 : decode cX11_allSoWith 125 = .ok (.getfield 27, 3) := by decide +kernel
theorem dX11_allSoWith_128 : decode cX11_allSoWith 128 = .ok (.iload 5, 2) := by decide +kernel
theorem dX11_allSoWith_130 : decode cX11_allSoWith 130 = .ok (.invokevirtual 336, 3) := by decide +kernel
theorem dX11_allSoWith_133 : decode cX11_allSoWith 133 = .ok (.if_icmp .eq 5, 3) := by decide +kernel
theorem dX11_allSoWith_136 : decode cX11_allSoWith 136 = .ok (.iconst 0, 1) := by decide +kernel
theorem dX11_allSoWith_137 : decode cX11_allSoWith 137 = .ok (.ireturn, 1) := by decide +kernel
theorem dX11_allSoWith_138 : decode cX11_allSoWith 138 = .ok (.iinc 5 1, 3) := by decide +kernel
theorem dX11_allSoWith_141 : decode cX11_allSoWith 141 = .ok (.goto (-138), 3) := by decide +kernel
theorem dX11_allSoWith_144 : decode cX11_allSoWith 144 = .ok (.iconst 1, 1) := by decide +kernel
theorem dX11_allSoWith_145 : decode cX11_allSoWith 145 = .ok (.ireturn, 1) := by decide +kernel
theorem dX11_apart_0 : decode cX11_apart 0 = .ok (.iload_n 0, 1) := by decide +kernel
theorem dX11_apart_1 : decode cX11_apart 1 = .ok (.iload_n 1, 1) := by decide +kernel
theorem dX11_apart_2 : decode cX11_apart 2 = .ok (.if_icmp .ge 9, 3) := by decide +kernel
theorem dX11_apart_5 : decode cX11_apart 5 = .ok (.iload_n 1, 1) := by decide +kernel
theorem dX11_apart_6 : decode cX11_apart 6 = .ok (.iload_n 0, 1) := by decide +kernel
theorem dX11_apart_7 : decode cX11_apart 7 = .ok (.isub, 1) := by decide +kernel
theorem dX11_apart_8 : decode cX11_apart 8 = .ok (.goto 6, 3) := by decide +kernel
theorem dX11_apart_11 : decode cX11_apart 11 = .ok (.iload_n 0, 1) := by decide +kernel
theorem dX11_apart_12 : decode cX11_apart 12 = .ok (.iload_n 1, 1) := by decide +kernel
theorem dX11_apart_13 : decode cX11_apart 13 = .ok (.isub, 1) := by decide +kernel
theorem dX11_apart_14 : decode cX11_apart 14 = .ok (.ireturn, 1) := by decide +kernel
theorem dX11_nearnessBy_0 : decode cX11_nearnessBy 0 = .ok (.iload_n 0, 1) := by decide +kernel
theorem dX11_nearnessBy_1 : decode cX11_nearnessBy 1 = .ok (.iload_n 1, 1) := by decide +kernel
theorem dX11_nearnessBy_2 : decode cX11_nearnessBy 2 = .ok (.invokestatic 204, 3) := by decide +kernel
theorem dX11_nearnessBy_5 : decode cX11_nearnessBy 5 = .ok (.istore 4, 2) := by decide +kernel
theorem dX11_nearnessBy_7 : decode cX11_nearnessBy 7 = .ok (.iload 4, 2) := by decide +kernel
theorem dX11_nearnessBy_9 : decode cX11_nearnessBy 9 = .ok (.iload_n 2, 1) := by decide +kernel
theorem dX11_nearnessBy_10 : decode cX11_nearnessBy 10 = .ok (.if_icmp .gt 7, 3) := by decide +kernel
theorem dX11_nearnessBy_13 : decode cX11_nearnessBy 13 = .ok (.iconst 0, 1) := by decide +kernel
theorem dX11_nearnessBy_14 : decode cX11_nearnessBy 14 = .ok (.goto 7, 3) := by decide +kernel
theorem dX11_nearnessBy_17 : decode cX11_nearnessBy 17 = .ok (.iload 4, 2) := by decide +kernel
theorem dX11_nearnessBy_19 : decode cX11_nearnessBy 19 = .ok (.iload_n 3, 1) := by decide +kernel
theorem dX11_nearnessBy_20 : decode cX11_nearnessBy 20 = .ok (.iadd, 1) := by decide +kernel
theorem dX11_nearnessBy_21 : decode cX11_nearnessBy 21 = .ok (.ireturn, 1) := by decide +kernel
theorem dX11_reachOf_0 : decode cX11_reachOf 0 = .ok (.iload_n 0, 1) := by decide +kernel
theorem dX11_reachOf_1 : decode cX11_reachOf 1 = .ok (.lookupswitch 35 #[(1, 27), (2, 31)], 27) := by decide +kernel
theorem dX11_reachOf_28 : decode cX11_reachOf 28 = .ok (.iload_n 1, 1) := by decide +kernel
theorem dX11_reachOf_29 : decode cX11_reachOf 29 = .ok (.iconst 1, 1) := by decide +kernel
theorem dX11_reachOf_30 : decode cX11_reachOf 30 = .ok (.iadd, 1) := by decide +kernel
theorem dX11_reachOf_31 : decode cX11_reachOf 31 = .ok (.ireturn, 1) := by decide +kernel
theorem dX11_reachOf_32 : decode cX11_reachOf 32 = .ok (.iconst 2, 1) := by decide +kernel
theorem dX11_reachOf_33 : decode cX11_reachOf 33 = .ok (.iload_n 1, 1) := by decide +kernel
theorem dX11_reachOf_34 : decode cX11_reachOf 34 = .ok (.imul, 1) := by decide +kernel
theorem dX11_reachOf_35 : decode cX11_reachOf 35 = .ok (.ireturn, 1) := by decide +kernel
theorem dX11_reachOf_36 : decode cX11_reachOf 36 = .ok (.iload_n 1, 1) := by decide +kernel
theorem dX11_reachOf_37 : decode cX11_reachOf 37 = .ok (.ireturn, 1) := by decide +kernel
