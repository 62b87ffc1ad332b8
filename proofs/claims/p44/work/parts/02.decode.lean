theorem dX1_init_0 : decode cX1_init 0 = .ok (.aload_n 0, 1) := by decide +kernel
theorem dX1_init_1 : decode cX1_init 1 = .ok (.invokespecial 3, 3) := by decide +kernel
theorem dX1_init_4 : decode cX1_init 4 = .ok (.aload_n 0, 1) := by decide +kernel
theorem dX1_init_5 : decode cX1_init 5 = .ok (.bipush 6, 2) := by decide +kernel
theorem dX1_init_7 : decode cX1_init 7 = .ok (.anewarray 11, 3) := by decide +kernel
theorem dX1_init_10 : decode cX1_init 10 = .ok (.putfield 13, 3) := by decide +kernel
theorem dX1_init_13 : decode cX1_init 13 = .ok (.iconst 0, 1) := by decide +kernel
theorem dX1_init_14 : decode cX1_init 14 = .ok (.istore_n 1, 1) := by decide +kernel
theorem dX1_init_15 : decode cX1_init 15 = .ok (.iload_n 1, 1) := by decide +kernel
theorem dX1_init_16 : decode cX1_init 16 = .ok (.bipush 6, 2) := by decide +kernel
theorem dX1_init_18 : decode cX1_init 18 = .ok (.if_icmp .ge 22, 3) := by decide +kernel
theorem dX1_init_21 : decode cX1_init 21 = .ok (.aload_n 0, 1) := by decide +kernel
theorem dX1_init_22 : decode cX1_init 22 = .ok (.getfield 13, 3) := by decide +kernel
theorem dX1_init_25 : decode cX1_init 25 = .ok (.iload_n 1, 1) := by decide +kernel
theorem dX1_init_26 : decode cX1_init 26 = .ok (.new 11, 3) := by decide +kernel
theorem dX1_init_29 : decode cX1_init 29 = .ok (.dup, 1) := by decide +kernel
theorem dX1_init_30 : decode cX1_init 30 = .ok (.invokespecial 17, 3) := by decide +kernel
theorem dX1_init_33 : decode cX1_init 33 = .ok (.aastore, 1) := by decide +kernel
theorem dX1_init_34 : decode cX1_init 34 = .ok (.iinc 1 1, 3) := by decide +kernel
theorem dX1_init_37 : decode cX1_init 37 = .ok (.goto (-22), 3) := by decide +kernel
theorem dX1_init_40 : decode cX1_init 40 = .ok (.aload_n 0, 1) := by decide +kernel
theorem dX1_init_41 : decode cX1_init 41 = .ok (.iconst 4, 1) := by decide +kernel
theorem dX1_init_42 : decode cX1_init 42 = .ok (.anewarray 18, 3) := by decide +kernel
theorem dX1_init_45 : decode cX1_init 45 = .ok (.putfield 20, 3) := by decide +kernel
theorem dX1_init_48 : decode cX1_init 48 = .ok (.iconst 0, 1) := by decide +kernel
theorem dX1_init_49 : decode cX1_init 49 = .ok (.istore_n 1, 1) := by decide +kernel
theorem dX1_init_50 : decode cX1_init 50 = .ok (.iload_n 1, 1) := by decide +kernel
theorem dX1_init_51 : decode cX1_init 51 = .ok (.iconst 4, 1) := by decide +kernel
theorem dX1_init_52 : decode cX1_init 52 = .ok (.if_icmp .ge 22, 3) := by decide +kernel
theorem dX1_init_55 : decode cX1_init 55 = .ok (.aload_n 0, 1) := by decide +kernel
theorem dX1_init_56 : decode cX1_init 56 = .ok (.getfield 20, 3) := by decide +kernel
theorem dX1_init_59 : decode cX1_init 59 = .ok (.iload_n 1, 1) := by decide +kernel
theorem dX1_init_60 : decode cX1_init 60 = .ok (.new 18, 3) := by decide +kernel
theorem dX1_init_63 : decode cX1_init 63 = .ok (.dup, 1) := by decide +kernel
theorem dX1_init_64 : decode cX1_init 64 = .ok (.invokespecial 24, 3) := by decide +kernel
theorem dX1_init_67 : decode cX1_init 67 = .ok (.aastore, 1) := by decide +kernel
theorem dX1_init_68 : decode cX1_init 68 = .ok (.iinc 1 1, 3) := by decide +kernel
theorem dX1_init_71 : decode cX1_init 71 = .ok (.goto (-21), 3) := by decide +kernel
theorem dX1_init_74 : decode cX1_init 74 = .ok (.aload_n 0, 1) := by decide +kernel
theorem dX1_init_75 : decode cX1_init 75 = .ok (.bipush 24, 2) := by decide +kernel
theorem dX1_init_77 : decode cX1_init 77 = .ok (.anewarray 25, 3) := by decide +kernel
theorem dX1_init_80 : decode cX1_init 80 = .ok (.putfield 27, 3) := by decide +kernel
theorem dX1_init_83 : decode cX1_init 83 = .ok (.iconst 0, 1) := by decide +kernel
theorem dX1_init_84 : decode cX1_init 84 = .ok (.istore_n 1, 1) := by decide +kernel
theorem dX1_init_85 : decode cX1_init 85 = .ok (.iload_n 1, 1) := by decide +kernel
theorem dX1_init_86 : decode cX1_init 86 = .ok (.bipush 24, 2) := by decide +kernel
theorem dX1_init_88 : decode cX1_init 88 = .ok (.if_icmp .ge 22, 3) := by decide +kernel
theorem dX1_init_91 : decode cX1_init 91 = .ok (.aload_n 0, 1) := by decide +kernel
theorem dX1_init_92 : decode cX1_init 92 = .ok (.getfield 27, 3) := by decide +kernel
theorem dX1_init_95 : decode cX1_init 95 = .ok (.iload_n 1, 1) := by decide +kernel
theorem dX1_init_96 : decode cX1_init 96 = .ok (.new 25, 3) := by decide +kernel
theorem dX1_init_99 : decode cX1_init 99 = .ok (.dup, 1) := by decide +kernel
theorem dX1_init_100 : decode cX1_init 100 = .ok (.invokespecial 31, 3) := by decide +kernel
theorem dX1_init_103 : decode cX1_init 103 = .ok (.aastore, 1) := by decide +kernel
theorem dX1_init_104 : decode cX1_init 104 = .ok (.iinc 1 1, 3) := by decide +kernel
theorem dX1_init_107 : decode cX1_init 107 = .ok (.goto (-22), 3) := by decide +kernel
theorem dX1_init_110 : decode cX1_init 110 = .ok (.aload_n 0, 1) := by decide +kernel
theorem dX1_init_111 : decode cX1_init 111 = .ok (.iconst 3, 1) := by decide +kernel
theorem dX1_init_112 : decode cX1_init 112 = .ok (.newarray .int, 2) := by decide +kernel
theorem dX1_init_114 : decode cX1_init 114 = .ok (.putfield 32, 3) := by decide +kernel
theorem dX1_init_117 : decode cX1_init 117 = .ok (.aload_n 0, 1) := by decide +kernel
theorem dX1_init_118 : decode cX1_init 118 = .ok (.new 36, 3) := by decide +kernel
theorem dX1_init_121 : decode cX1_init 121 = .ok (.dup, 1) := by decide +kernel
theorem dX1_init_122 : decode cX1_init 122 = .ok (.invokespecial 38, 3) := by decide +kernel
theorem dX1_init_125 : decode cX1_init 125 = .ok (.putfield 39, 3) := by decide +kernel
theorem dX1_init_128 : decode cX1_init 128 = .ok (.aload_n 0, 1) := by decide +kernel
theorem dX1_init_129 : decode cX1_init 129 = .ok (.invokevirtual 43, 3) := by decide +kernel
theorem dX1_init_132 : decode cX1_init 132 = .ok (.aload_n 0, 1) := by decide +kernel
theorem dX1_init_133 : decode cX1_init 133 = .ok (.getfield 39, 3) := by decide +kernel
theorem dX1_init_136 : decode cX1_init 136 = .ok (.iconst 0, 1) := by decide +kernel
theorem dX1_init_137 : decode cX1_init 137 = .ok (.iconst (-1), 1) := by decide +kernel
theorem dX1_init_138 : decode cX1_init 138 = .ok (.invokevirtual 46, 3) := by decide +kernel
theorem dX1_init_141 : decode cX1_init 141 = .ok (.return_, 1) := by decide +kernel
theorem dX1_clear_0 : decode cX1_clear 0 = .ok (.aload_n 0, 1) := by decide +kernel
theorem dX1_clear_1 : decode cX1_clear 1 = .ok (.bipush 24, 2) := by decide +kernel
theorem dX1_clear_3 : decode cX1_clear 3 = .ok (.putfield 50, 3) := by decide +kernel
theorem dX1_clear_6 : decode cX1_clear 6 = .ok (.aload_n 0, 1) := by decide +kernel
theorem dX1_clear_7 : decode cX1_clear 7 = .ok (.bipush 30, 2) := by decide +kernel
theorem dX1_clear_9 : decode cX1_clear 9 = .ok (.putfield 54, 3) := by decide +kernel
theorem dX1_clear_12 : decode cX1_clear 12 = .ok (.aload_n 0, 1) := by decide +kernel
theorem dX1_clear_13 : decode cX1_clear 13 = .ok (.iconst 1, 1) := by decide +kernel
theorem dX1_clear_14 : decode cX1_clear 14 = .ok (.putfield 57, 3) := by decide +kernel
theorem dX1_clear_17 : decode cX1_clear 17 = .ok (.aload_n 0, 1) := by decide +kernel
theorem dX1_clear_18 : decode cX1_clear 18 = .ok (.iconst 1, 1) := by decide +kernel
theorem dX1_clear_19 : decode cX1_clear 19 = .ok (.putfield 60, 3) := by decide +kernel
theorem dX1_clear_22 : decode cX1_clear 22 = .ok (.aload_n 0, 1) := by decide +kernel
theorem dX1_clear_23 : decode cX1_clear 23 = .ok (.iconst 0, 1) := by decide +kernel
theorem dX1_clear_24 : decode cX1_clear 24 = .ok (.putfield 63, 3) := by decide +kernel
theorem dX1_clear_27 : decode cX1_clear 27 = .ok (.aload_n 0, 1) := by decide +kernel
theorem dX1_clear_28 : decode cX1_clear 28 = .ok (.iconst 0, 1) := by decide +kernel
theorem dX1_clear_29 : decode cX1_clear 29 = .ok (.putfield 66, 3) := by decide +kernel
theorem dX1_clear_32 : decode cX1_clear 32 = .ok (.aload_n 0, 1) := by decide +kernel
theorem dX1_clear_33 : decode cX1_clear 33 = .ok (.iconst 0, 1) := by decide +kernel
theorem dX1_clear_34 : decode cX1_clear 34 = .ok (.putfield 69, 3) := by decide +kernel
theorem dX1_clear_37 : decode cX1_clear 37 = .ok (.aload_n 0, 1) := by decide +kernel
theorem dX1_clear_38 : decode cX1_clear 38 = .ok (.getfield 39, 3) := by decide +kernel
theorem dX1_clear_41 : decode cX1_clear 41 = .ok (.iconst 0, 1) := by decide +kernel
theorem dX1_clear_42 : decode cX1_clear 42 = .ok (.putfield 72, 3) := by decide +kernel
theorem dX1_clear_45 : decode cX1_clear 45 = .ok (.aload_n 0, 1) := by decide +kernel
theorem dX1_clear_46 : decode cX1_clear 46 = .ok (.iconst 0, 1) := by decide +kernel
theorem dX1_clear_47 : decode cX1_clear 47 = .ok (.putfield 75, 3) := by decide +kernel
theorem dX1_clear_50 : decode cX1_clear 50 = .ok (.aload_n 0, 1) := by decide +kernel
theorem dX1_clear_51 : decode cX1_clear 51 = .ok (.iconst 0, 1) := by decide +kernel
theorem dX1_clear_52 : decode cX1_clear 52 = .ok (.putfield 78, 3) := by decide +kernel
theorem dX1_clear_55 : decode cX1_clear 55 = .ok (.return_, 1) := by decide +kernel
theorem dX1_hasDough_0 : decode cX1_hasDough 0 = .ok (.iload_n 1, 1) := by decide +kernel
theorem dX1_hasDough_1 : decode cX1_hasDough 1 = .ok (.ifCond .lt 15, 3) := by decide +kernel
theorem dX1_hasDough_4 : decode cX1_hasDough 4 = .ok (.iload_n 1, 1) := by decide +kernel
theorem dX1_hasDough_5 : decode cX1_hasDough 5 = .ok (.aload_n 0, 1) := by decide +kernel
theorem dX1_hasDough_6 : decode cX1_hasDough 6 = .ok (.getfield 63, 3) := by decide +kernel
theorem dX1_hasDough_9 : decode cX1_hasDough 9 = .ok (.if_icmp .ge 7, 3) := by decide +kernel
theorem dX1_hasDough_12 : decode cX1_hasDough 12 = .ok (.iconst 1, 1) := by decide +kernel
theorem dX1_hasDough_13 : decode cX1_hasDough 13 = .ok (.goto 4, 3) := by decide +kernel
theorem dX1_hasDough_16 : decode cX1_hasDough 16 = .ok (.iconst 0, 1) := by decide +kernel
theorem dX1_hasDough_17 : decode cX1_hasDough 17 = .ok (.ireturn, 1) := by decide +kernel
theorem dX1_hasOven_0 : decode cX1_hasOven 0 = .ok (.iload_n 1, 1) := by decide +kernel
theorem dX1_hasOven_1 : decode cX1_hasOven 1 = .ok (.ifCond .lt 15, 3) := by decide +kernel
theorem dX1_hasOven_4 : decode cX1_hasOven 4 = .ok (.iload_n 1, 1) := by decide +kernel
theorem dX1_hasOven_5 : decode cX1_hasOven 5 = .ok (.aload_n 0, 1) := by decide +kernel
theorem dX1_hasOven_6 : decode cX1_hasOven 6 = .ok (.getfield 66, 3) := by decide +kernel
theorem dX1_hasOven_9 : decode cX1_hasOven 9 = .ok (.if_icmp .ge 7, 3) := by decide +kernel
theorem dX1_hasOven_12 : decode cX1_hasOven 12 = .ok (.iconst 1, 1) := by decide +kernel
theorem dX1_hasOven_13 : decode cX1_hasOven 13 = .ok (.goto 4, 3) := by decide +kernel
theorem dX1_hasOven_16 : decode cX1_hasOven 16 = .ok (.iconst 0, 1) := by decide +kernel
theorem dX1_hasOven_17 : decode cX1_hasOven 17 = .ok (.ireturn, 1) := by decide +kernel
theorem dX1_hasShop_0 : decode cX1_hasShop 0 = .ok (.iload_n 1, 1) := by decide +kernel
theorem dX1_hasShop_1 : decode cX1_hasShop 1 = .ok (.ifCond .lt 15, 3) := by decide +kernel
theorem dX1_hasShop_4 : decode cX1_hasShop 4 = .ok (.iload_n 1, 1) := by decide +kernel
theorem dX1_hasShop_5 : decode cX1_hasShop 5 = .ok (.aload_n 0, 1) := by decide +kernel
theorem dX1_hasShop_6 : decode cX1_hasShop 6 = .ok (.getfield 69, 3) := by decide +kernel
theorem dX1_hasShop_9 : decode cX1_hasShop 9 = .ok (.if_icmp .ge 7, 3) := by decide +kernel
theorem dX1_hasShop_12 : decode cX1_hasShop 12 = .ok (.iconst 1, 1) := by decide +kernel
theorem dX1_hasShop_13 : decode cX1_hasShop 13 = .ok (.goto 4, 3) := by decide +kernel
theorem dX1_hasShop_16 : decode cX1_hasShop 16 = .ok (.iconst 0, 1) := by decide +kernel
theorem dX1_hasShop_17 : decode cX1_hasShop 17 = .ok (.ireturn, 1) := by decide +kernel
theorem dX1_hasOrder_0 : decode cX1_hasOrder 0 = .ok (.iload_n 1, 1) := by decide +kernel
theorem dX1_hasOrder_1 : decode cX1_hasOrder 1 = .ok (.ifCond .lt 27, 3) := by decide +kernel
theorem dX1_hasOrder_4 : decode cX1_hasOrder 4 = .ok (.iload_n 1, 1) := by decide +kernel
theorem dX1_hasOrder_5 : decode cX1_hasOrder 5 = .ok (.aload_n 0, 1) := by decide +kernel
theorem dX1_hasOrder_6 : decode cX1_hasOrder 6 = .ok (.getfield 78, 3) := by decide +kernel
theorem dX1_hasOrder_9 : decode cX1_hasOrder 9 = .ok (.if_icmp .ge 19, 3) := by decide +kernel
theorem dX1_hasOrder_12 : decode cX1_hasOrder 12 = .ok (.aload_n 0, 1) := by decide +kernel
theorem dX1_hasOrder_13 : decode cX1_hasOrder 13 = .ok (.getfield 27, 3) := by decide +kernel
theorem dX1_hasOrder_16 : decode cX1_hasOrder 16 = .ok (.iload_n 1, 1) := by decide +kernel
theorem dX1_hasOrder_17 : decode cX1_hasOrder 17 = .ok (.aaload, 1) := by decide +kernel
theorem dX1_hasOrder_18 : decode cX1_hasOrder 18 = .ok (.getfield 81, 3) := by decide +kernel
theorem dX1_hasOrder_21 : decode cX1_hasOrder 21 = .ok (.ifCond .ne 7, 3) := by decide +kernel
theorem dX1_hasOrder_24 : decode cX1_hasOrder 24 = .ok (.iconst 1, 1) := by decide +kernel
theorem dX1_hasOrder_25 : decode cX1_hasOrder 25 = .ok (.goto 4, 3) := by decide +kernel
theorem dX1_hasOrder_28 : decode cX1_hasOrder 28 = .ok (.iconst 0, 1) := by decide +kernel
theorem dX1_hasOrder_29 : decode cX1_hasOrder 29 = .ok (.ireturn, 1) := by decide +kernel
theorem dX1_allShops_0 : decode cX1_allShops 0 = .ok (.iconst 1, 1) := by decide +kernel
theorem dX1_allShops_1 : decode cX1_allShops 1 = .ok (.aload_n 0, 1) := by decide +kernel
theorem dX1_allShops_2 : decode cX1_allShops 2 = .ok (.getfield 69, 3) := by decide +kernel
theorem dX1_allShops_5 : decode cX1_allShops 5 = .ok (.ishl, 1) := by decide +kernel
theorem dX1_allShops_6 : decode cX1_allShops 6 = .ok (.iconst 1, 1) := by decide +kernel
theorem dX1_allShops_7 : decode cX1_allShops 7 = .ok (.isub, 1) := by decide +kernel
theorem dX1_allShops_8 : decode cX1_allShops 8 = .ok (.ireturn, 1) := by decide +kernel
theorem dX1_inThisRoom_0 : decode cX1_inThisRoom 0 = .ok (.iload_n 1, 1) := by decide +kernel
theorem dX1_inThisRoom_1 : decode cX1_inThisRoom 1 = .ok (.bipush 24, 2) := by decide +kernel
theorem dX1_inThisRoom_3 : decode cX1_inThisRoom 3 = .ok (.imul, 1) := by decide +kernel
theorem dX1_inThisRoom_4 : decode cX1_inThisRoom 4 = .ok (.aload_n 0, 1) := by decide +kernel
theorem dX1_inThisRoom_5 : decode cX1_inThisRoom 5 = .ok (.getfield 50, 3) := by decide +kernel
theorem dX1_inThisRoom_8 : decode cX1_inThisRoom 8 = .ok (.invokestatic 85, 3) := by decide +kernel
theorem dX1_inThisRoom_11 : decode cX1_inThisRoom 11 = .ok (.ireturn, 1) := by decide +kernel
theorem dX1_loavesOf_0 : decode cX1_loavesOf 0 = .ok (.iconst 0, 1) := by decide +kernel
theorem dX1_loavesOf_1 : decode cX1_loavesOf 1 = .ok (.istore_n 2, 1) := by decide +kernel
theorem dX1_loavesOf_2 : decode cX1_loavesOf 2 = .ok (.iconst 0, 1) := by decide +kernel
theorem dX1_loavesOf_3 : decode cX1_loavesOf 3 = .ok (.istore_n 3, 1) := by decide +kernel
theorem dX1_loavesOf_4 : decode cX1_loavesOf 4 = .ok (.iload_n 3, 1) := by decide +kernel
theorem dX1_loavesOf_5 : decode cX1_loavesOf 5 = .ok (.aload_n 0, 1) := by decide +kernel
theorem dX1_loavesOf_6 : decode cX1_loavesOf 6 = .ok (.getfield 78, 3) := by decide +kernel
theorem dX1_loavesOf_9 : decode cX1_loavesOf 9 = .ok (.if_icmp .ge 42, 3) := by decide +kernel
theorem dX1_loavesOf_12 : decode cX1_loavesOf 12 = .ok (.aload_n 0, 1) := by decide +kernel
theorem dX1_loavesOf_13 : decode cX1_loavesOf 13 = .ok (.iload_n 3, 1) := by decide +kernel
theorem dX1_loavesOf_14 : decode cX1_loavesOf 14 = .ok (.invokevirtual 89, 3) := by decide +kernel
theorem dX1_loavesOf_17 : decode cX1_loavesOf 17 = .ok (.ifCond .eq 28, 3) := by decide +kernel
theorem dX1_loavesOf_20 : decode cX1_loavesOf 20 = .ok (.aload_n 0, 1) := by decide +kernel
theorem dX1_loavesOf_21 : decode cX1_loavesOf 21 = .ok (.getfield 27, 3) := by decide +kernel
theorem dX1_loavesOf_24 : decode cX1_loavesOf 24 = .ok (.iload_n 3, 1) := by decide +kernel
theorem dX1_loavesOf_25 : decode cX1_loavesOf 25 = .ok (.aaload, 1) := by decide +kernel
theorem dX1_loavesOf_26 : decode cX1_loavesOf 26 = .ok (.getfield 93, 3) := by decide +kernel
theorem dX1_loavesOf_29 : decode cX1_loavesOf 29 = .ok (.iload_n 1, 1) := by decide +kernel
theorem dX1_loavesOf_30 : decode cX1_loavesOf 30 = .ok (.if_icmp .ne 15, 3) := by decide +kernel
theorem dX1_loavesOf_33 : decode cX1_loavesOf 33 = .ok (.iload_n 2, 1) := by decide +kernel
theorem dX1_loavesOf_34 : decode cX1_loavesOf 34 = .ok (.aload_n 0, 1) := by decide +kernel
theorem dX1_loavesOf_35 : decode cX1_loavesOf 35 = .ok (.getfield 27, 3) := by decide +kernel
theorem dX1_loavesOf_38 : decode cX1_loavesOf 38 = .ok (.iload_n 3, 1) := by decide +kernel
theorem dX1_loavesOf_39 : decode cX1_loavesOf 39 = .ok (.aaload, 1) := by decide +kernel
theorem dX1_loavesOf_40 : decode cX1_loavesOf 40 = .ok (.getfield 96, 3) := by decide +kernel
theorem dX1_loavesOf_43 : decode cX1_loavesOf 43 = .ok (.iadd, 1) := by decide +kernel
theorem dX1_loavesOf_44 : decode cX1_loavesOf 44 = .ok (.istore_n 2, 1) := by decide +kernel
theorem dX1_loavesOf_45 : decode cX1_loavesOf 45 = .ok (.iinc 3 1, 3) := by decide +kernel
theorem dX1_loavesOf_48 : decode cX1_loavesOf 48 = .ok (.goto (-44), 3) := by decide +kernel
theorem dX1_loavesOf_51 : decode cX1_loavesOf 51 = .ok (.iload_n 2, 1) := by decide +kernel
theorem dX1_loavesOf_52 : decode cX1_loavesOf 52 = .ok (.ireturn, 1) := by decide +kernel
theorem dX1_batchesOf_0 : decode cX1_batchesOf 0 = .ok (.aload_n 0, 1) := by decide +kernel
theorem dX1_batchesOf_1 : decode cX1_batchesOf 1 = .ok (.iload_n 1, 1) := by decide +kernel
theorem dX1_batchesOf_2 : decode cX1_batchesOf 2 = .ok (.invokevirtual 99, 3) := by decide +kernel
theorem dX1_batchesOf_5 : decode cX1_batchesOf 5 = .ok (.aload_n 0, 1) := by decide +kernel
theorem dX1_batchesOf_6 : decode cX1_batchesOf 6 = .ok (.getfield 13, 3) := by decide +kernel
theorem dX1_batchesOf_9 : decode cX1_batchesOf 9 = .ok (.iload_n 1, 1) := by decide +kernel
theorem dX1_batchesOf_10 : decode cX1_batchesOf 10 = .ok (.aaload, 1) := by decide +kernel
theorem dX1_batchesOf_11 : decode cX1_batchesOf 11 = .ok (.getfield 103, 3) := by decide +kernel
theorem dX1_batchesOf_14 : decode cX1_batchesOf 14 = .ok (.invokestatic 85, 3) := by decide +kernel
theorem dX1_batchesOf_17 : decode cX1_batchesOf 17 = .ok (.ireturn, 1) := by decide +kernel
theorem dX1_batchesNeeded_0 : decode cX1_batchesNeeded 0 = .ok (.iconst 0, 1) := by decide +kernel
theorem dX1_batchesNeeded_1 : decode cX1_batchesNeeded 1 = .ok (.istore_n 1, 1) := by decide +kernel
theorem dX1_batchesNeeded_2 : decode cX1_batchesNeeded 2 = .ok (.iconst 0, 1) := by decide +kernel
theorem dX1_batchesNeeded_3 : decode cX1_batchesNeeded 3 = .ok (.istore_n 2, 1) := by decide +kernel
theorem dX1_batchesNeeded_4 : decode cX1_batchesNeeded 4 = .ok (.iload_n 2, 1) := by decide +kernel
theorem dX1_batchesNeeded_5 : decode cX1_batchesNeeded 5 = .ok (.aload_n 0, 1) := by decide +kernel
theorem dX1_batchesNeeded_6 : decode cX1_batchesNeeded 6 = .ok (.getfield 63, 3) := by decide +kernel
theorem dX1_batchesNeeded_9 : decode cX1_batchesNeeded 9 = .ok (.if_icmp .ge 17, 3) := by decide +kernel
theorem dX1_batchesNeeded_12 : decode cX1_batchesNeeded 12 = .ok (.iload_n 1, 1) := by decide +kernel
theorem dX1_batchesNeeded_13 : decode cX1_batchesNeeded 13 = .ok (.aload_n 0, 1) := by decide +kernel
theorem dX1_batchesNeeded_14 : decode cX1_batchesNeeded 14 = .ok (.iload_n 2, 1) := by decide +kernel
theorem dX1_batchesNeeded_15 : decode cX1_batchesNeeded 15 = .ok (.invokevirtual 104, 3) := by decide +kernel
theorem dX1_batchesNeeded_18 : decode cX1_batchesNeeded 18 = .ok (.iadd, 1) := by decide +kernel
theorem dX1_batchesNeeded_19 : decode cX1_batchesNeeded 19 = .ok (.istore_n 1, 1) := by decide +kernel
theorem dX1_batchesNeeded_20 : decode cX1_batchesNeeded 20 = .ok (.iinc 2 1, 3) := by decide +kernel
theorem dX1_batchesNeeded_23 : decode cX1_batchesNeeded 23 = .ok (.goto (-19), 3) := by decide +kernel
theorem dX1_batchesNeeded_26 : decode cX1_batchesNeeded 26 = .ok (.iload_n 1, 1) := by decide +kernel
theorem dX1_batchesNeeded_27 : decode cX1_batchesNeeded 27 = .ok (.ireturn, 1) := by decide +kernel
theorem dX1_dueOf_0 : decode cX1_dueOf 0 = .ok (.sipush 1440, 3) := by decide +kernel
theorem dX1_dueOf_3 : decode cX1_dueOf 3 = .ok (.istore_n 2, 1) := by decide +kernel
theorem dX1_dueOf_4 : decode cX1_dueOf 4 = .ok (.iconst 0, 1) := by decide +kernel
theorem dX1_dueOf_5 : decode cX1_dueOf 5 = .ok (.istore_n 3, 1) := by decide +kernel
theorem dX1_dueOf_6 : decode cX1_dueOf 6 = .ok (.iload_n 3, 1) := by decide +kernel
theorem dX1_dueOf_7 : decode cX1_dueOf 7 = .ok (.aload_n 0, 1) := by decide +kernel
theorem dX1_dueOf_8 : decode cX1_dueOf 8 = .ok (.getfield 78, 3) := by decide +kernel
theorem dX1_dueOf_11 : decode cX1_dueOf 11 = .ok (.if_icmp .ge 44, 3) := by decide +kernel
theorem dX1_dueOf_14 : decode cX1_dueOf 14 = .ok (.aload_n 0, 1) := by decide +kernel
theorem dX1_dueOf_15 : decode cX1_dueOf 15 = .ok (.iload_n 3, 1) := by decide +kernel
theorem dX1_dueOf_16 : decode cX1_dueOf 16 = .ok (.invokevirtual 89, 3) := by decide +kernel
theorem dX1_dueOf_19 : decode cX1_dueOf 19 = .ok (.ifCond .eq 30, 3) := by decide +kernel
theorem dX1_dueOf_22 : decode cX1_dueOf 22 = .ok (.aload_n 0, 1) := by decide +kernel
theorem dX1_dueOf_23 : decode cX1_dueOf 23 = .ok (.getfield 27, 3) := by decide +kernel
theorem dX1_dueOf_26 : decode cX1_dueOf 26 = .ok (.iload_n 3, 1) := by decide +kernel
theorem dX1_dueOf_27 : decode cX1_dueOf 27 = .ok (.aaload, 1) := by decide +kernel
theorem dX1_dueOf_28 : decode cX1_dueOf 28 = .ok (.getfield 93, 3) := by decide +kernel
theorem dX1_dueOf_31 : decode cX1_dueOf 31 = .ok (.iload_n 1, 1) := by decide +kernel
theorem dX1_dueOf_32 : decode cX1_dueOf 32 = .ok (.if_icmp .ne 17, 3) := by decide +kernel
theorem dX1_dueOf_35 : decode cX1_dueOf 35 = .ok (.iload_n 2, 1) := by decide +kernel
theorem dX1_dueOf_36 : decode cX1_dueOf 36 = .ok (.aload_n 0, 1) := by decide +kernel
theorem dX1_dueOf_37 : decode cX1_dueOf 37 = .ok (.getfield 27, 3) := by decide +kernel
theorem dX1_dueOf_40 : decode cX1_dueOf 40 = .ok (.iload_n 3, 1) := by decide +kernel
theorem dX1_dueOf_41 : decode cX1_dueOf 41 = .ok (.aaload, 1) := by decide +kernel
theorem dX1_dueOf_42 : decode cX1_dueOf 42 = .ok (.getfield 107, 3) := by decide +kernel
theorem dX1_dueOf_45 : decode cX1_dueOf 45 = .ok (.invokestatic 110, 3) := by decide +kernel
theorem dX1_dueOf_48 : decode cX1_dueOf 48 = .ok (.istore_n 2, 1) := by decide +kernel
theorem dX1_dueOf_49 : decode cX1_dueOf 49 = .ok (.iinc 3 1, 3) := by decide +kernel
theorem dX1_dueOf_52 : decode cX1_dueOf 52 = .ok (.goto (-46), 3) := by decide +kernel
theorem dX1_dueOf_55 : decode cX1_dueOf 55 = .ok (.iload_n 2, 1) := by decide +kernel
theorem dX1_dueOf_56 : decode cX1_dueOf 56 = .ok (.ireturn, 1) := by decide +kernel
theorem dX1_loavesAheadOf_0 : decode cX1_loavesAheadOf 0 = .ok (.iconst 0, 1) := by decide +kernel
theorem dX1_loavesAheadOf_1 : decode cX1_loavesAheadOf 1 = .ok (.istore_n 2, 1) := by decide +kernel
theorem dX1_loavesAheadOf_2 : decode cX1_loavesAheadOf 2 = .ok (.iconst 0, 1) := by decide +kernel
theorem dX1_loavesAheadOf_3 : decode cX1_loavesAheadOf 3 = .ok (.istore_n 3, 1) := by decide +kernel
theorem dX1_loavesAheadOf_4 : decode cX1_loavesAheadOf 4 = .ok (.iload_n 3, 1) := by decide +kernel
theorem dX1_loavesAheadOf_5 : decode cX1_loavesAheadOf 5 = .ok (.aload_n 0, 1) := by decide +kernel
theorem dX1_loavesAheadOf_6 : decode cX1_loavesAheadOf 6 = .ok (.getfield 78, 3) := by decide +kernel
theorem dX1_loavesAheadOf_9 : decode cX1_loavesAheadOf 9 = .ok (.if_icmp .ge 59, 3) := by decide +kernel
theorem dX1_loavesAheadOf_12 : decode cX1_loavesAheadOf 12 = .ok (.aload_n 0, 1) := by decide +kernel
theorem dX1_loavesAheadOf_13 : decode cX1_loavesAheadOf 13 = .ok (.iload_n 3, 1) := by decide +kernel
theorem dX1_loavesAheadOf_14 : decode cX1_loavesAheadOf 14 = .ok (.invokevirtual 89, 3) := by decide +kernel
theorem dX1_loavesAheadOf_17 : decode cX1_loavesAheadOf 17 = .ok (.ifCond .eq 45, 3) := by decide +kernel
theorem dX1_loavesAheadOf_20 : decode cX1_loavesAheadOf 20 = .ok (.aload_n 0, 1) := by decide +kernel
theorem dX1_loavesAheadOf_21 : decode cX1_loavesAheadOf 21 = .ok (.getfield 27, 3) := by decide +kernel
theorem dX1_loavesAheadOf_24 : decode cX1_loavesAheadOf 24 = .ok (.iload_n 3, 1) := by decide +kernel
theorem dX1_loavesAheadOf_25 : decode cX1_loavesAheadOf 25 = .ok (.aaload, 1) := by decide +kernel
theorem dX1_loavesAheadOf_26 : decode cX1_loavesAheadOf 26 = .ok (.getfield 93, 3) := by decide +kernel
theorem dX1_loavesAheadOf_29 : decode cX1_loavesAheadOf 29 = .ok (.aload_n 0, 1) := by decide +kernel
theorem dX1_loavesAheadOf_30 : decode cX1_loavesAheadOf 30 = .ok (.getfield 27, 3) := by decide +kernel
theorem dX1_loavesAheadOf_33 : decode cX1_loavesAheadOf 33 = .ok (.iload_n 1, 1) := by decide +kernel
theorem dX1_loavesAheadOf_34 : decode cX1_loavesAheadOf 34 = .ok (.aaload, 1) := by decide +kernel
theorem dX1_loavesAheadOf_35 : decode cX1_loavesAheadOf 35 = .ok (.getfield 93, 3) := by decide +kernel
theorem dX1_loavesAheadOf_38 : decode cX1_loavesAheadOf 38 = .ok (.if_icmp .ne 24, 3) := by decide +kernel
theorem dX1_loavesAheadOf_41 : decode cX1_loavesAheadOf 41 = .ok (.aload_n 0, 1) := by decide +kernel
theorem dX1_loavesAheadOf_42 : decode cX1_loavesAheadOf 42 = .ok (.iload_n 3, 1) := by decide +kernel
theorem dX1_loavesAheadOf_43 : decode cX1_loavesAheadOf 43 = .ok (.iload_n 1, 1) := by decide +kernel
theorem dX1_loavesAheadOf_44 : decode cX1_loavesAheadOf 44 = .ok (.invokevirtual 115, 3) := by decide +kernel
theorem dX1_loavesAheadOf_47 : decode cX1_loavesAheadOf 47 = .ok (.ifCond .eq 15, 3) := by decide +kernel
theorem dX1_loavesAheadOf_50 : decode cX1_loavesAheadOf 50 = .ok (.iload_n 2, 1) := by decide +kernel
theorem dX1_loavesAheadOf_51 : decode cX1_loavesAheadOf 51 = .ok (.aload_n 0, 1) := by decide +kernel
theorem dX1_loavesAheadOf_52 : decode cX1_loavesAheadOf 52 = .ok (.getfield 27, 3) := by decide +kernel
theorem dX1_loavesAheadOf_55 : decode cX1_loavesAheadOf 55 = .ok (.iload_n 3, 1) := by decide +kernel
theorem dX1_loavesAheadOf_56 : decode cX1_loavesAheadOf 56 = .ok (.aaload, 1) := by decide +kernel
theorem dX1_loavesAheadOf_57 : decode cX1_loavesAheadOf 57 = .ok (.getfield 96, 3) := by decide +kernel
theorem dX1_loavesAheadOf_60 : decode cX1_loavesAheadOf 60 = .ok (.iadd, 1) := by decide +kernel
theorem dX1_loavesAheadOf_61 : decode cX1_loavesAheadOf 61 = .ok (.istore_n 2, 1) := by decide +kernel
theorem dX1_loavesAheadOf_62 : decode cX1_loavesAheadOf 62 = .ok (.iinc 3 1, 3) := by decide +kernel
theorem dX1_loavesAheadOf_65 : decode cX1_loavesAheadOf 65 = .ok (.goto (-61), 3) := by decide +kernel
theorem dX1_loavesAheadOf_68 : decode cX1_loavesAheadOf 68 = .ok (.iload_n 2, 1) := by decide +kernel
theorem dX1_loavesAheadOf_69 : decode cX1_loavesAheadOf 69 = .ok (.ireturn, 1) := by decide +kernel
theorem dX1_comesBefore_0 : decode cX1_comesBefore 0 = .ok (.aload_n 0, 1) := by decide +kernel
theorem dX1_comesBefore_1 : decode cX1_comesBefore 1 = .ok (.getfield 27, 3) := by decide +kernel
theorem dX1_comesBefore_4 : decode cX1_comesBefore 4 = .ok (.iload_n 1, 1) := by decide +kernel
theorem dX1_comesBefore_5 : decode cX1_comesBefore 5 = .ok (.aaload, 1) := by decide +kernel
theorem dX1_comesBefore_6 : decode cX1_comesBefore 6 = .ok (.getfield 107, 3) := by decide +kernel
theorem dX1_comesBefore_9 : decode cX1_comesBefore 9 = .ok (.aload_n 0, 1) := by decide +kernel
theorem dX1_comesBefore_10 : decode cX1_comesBefore 10 = .ok (.getfield 27, 3) := by decide +kernel
theorem dX1_comesBefore_13 : decode cX1_comesBefore 13 = .ok (.iload_n 2, 1) := by decide +kernel
theorem dX1_comesBefore_14 : decode cX1_comesBefore 14 = .ok (.aaload, 1) := by decide +kernel
theorem dX1_comesBefore_15 : decode cX1_comesBefore 15 = .ok (.getfield 107, 3) := by decide +kernel
theorem dX1_comesBefore_18 : decode cX1_comesBefore 18 = .ok (.isub, 1) := by decide +kernel
theorem dX1_comesBefore_19 : decode cX1_comesBefore 19 = .ok (.istore_n 3, 1) := by decide +kernel
theorem dX1_comesBefore_20 : decode cX1_comesBefore 20 = .ok (.iload_n 3, 1) := by decide +kernel
theorem dX1_comesBefore_21 : decode cX1_comesBefore 21 = .ok (.ifCond .lt 12, 3) := by decide +kernel
theorem dX1_comesBefore_24 : decode cX1_comesBefore 24 = .ok (.iload_n 3, 1) := by decide +kernel
theorem dX1_comesBefore_25 : decode cX1_comesBefore 25 = .ok (.ifCond .ne 12, 3) := by decide +kernel
theorem dX1_comesBefore_28 : decode cX1_comesBefore 28 = .ok (.iload_n 1, 1) := by decide +kernel
theorem dX1_comesBefore_29 : decode cX1_comesBefore 29 = .ok (.iload_n 2, 1) := by decide +kernel
theorem dX1_comesBefore_30 : decode cX1_comesBefore 30 = .ok (.if_icmp .ge 7, 3) := by decide +kernel
theorem dX1_comesBefore_33 : decode cX1_comesBefore 33 = .ok (.iconst 1, 1) := by decide +kernel
theorem dX1_comesBefore_34 : decode cX1_comesBefore 34 = .ok (.goto 4, 3) := by decide +kernel
theorem dX1_comesBefore_37 : decode cX1_comesBefore 37 = .ok (.iconst 0, 1) := by decide +kernel
theorem dX1_comesBefore_38 : decode cX1_comesBefore 38 = .ok (.ireturn, 1) := by decide +kernel
theorem dX1_markStreet_0 : decode cX1_markStreet 0 = .ok (.aload_n 0, 1) := by decide +kernel
theorem dX1_markStreet_1 : decode cX1_markStreet 1 = .ok (.getfield 39, 3) := by decide +kernel
theorem dX1_markStreet_4 : decode cX1_markStreet 4 = .ok (.getfield 119, 3) := by decide +kernel
theorem dX1_markStreet_7 : decode cX1_markStreet 7 = .ok (.iload_n 1, 1) := by decide +kernel
theorem dX1_markStreet_8 : decode cX1_markStreet 8 = .ok (.iload_n 2, 1) := by decide +kernel
theorem dX1_markStreet_9 : decode cX1_markStreet 9 = .ok (.bastore, 1) := by decide +kernel
theorem dX1_markStreet_10 : decode cX1_markStreet 10 = .ok (.aload_n 0, 1) := by decide +kernel
theorem dX1_markStreet_11 : decode cX1_markStreet 11 = .ok (.getfield 39, 3) := by decide +kernel
theorem dX1_markStreet_14 : decode cX1_markStreet 14 = .ok (.aload_n 0, 1) := by decide +kernel
theorem dX1_markStreet_15 : decode cX1_markStreet 15 = .ok (.getfield 69, 3) := by decide +kernel
theorem dX1_markStreet_18 : decode cX1_markStreet 18 = .ok (.iconst (-1), 1) := by decide +kernel
theorem dX1_markStreet_19 : decode cX1_markStreet 19 = .ok (.invokevirtual 46, 3) := by decide +kernel
theorem dX1_markStreet_22 : decode cX1_markStreet 22 = .ok (.return_, 1) := by decide +kernel
theorem dX1_improve_0 : decode cX1_improve 0 = .ok (.iload_n 1, 1) := by decide +kernel
theorem dX1_improve_1 : decode cX1_improve 1 = .ok (.tableswitch 104 0 3 #[31, 44, 57, 70], 31) := by decide +kernel
theorem dX1_improve_32 : decode cX1_improve 32 = .ok (.aload_n 0, 1) := by decide +kernel
theorem dX1_improve_33 : decode cX1_improve 33 = .ok (.dup, 1) := by decide +kernel
theorem dX1_improve_34 : decode cX1_improve 34 = .ok (.getfield 57, 3) := by decide +kernel
theorem dX1_improve_37 : decode cX1_improve 37 = .ok (.iload_n 2, 1) := by decide +kernel
theorem dX1_improve_38 : decode cX1_improve 38 = .ok (.iadd, 1) := by decide +kernel
theorem dX1_improve_39 : decode cX1_improve 39 = .ok (.putfield 57, 3) := by decide +kernel
theorem dX1_improve_42 : decode cX1_improve 42 = .ok (.goto 76, 3) := by decide +kernel
theorem dX1_improve_45 : decode cX1_improve 45 = .ok (.aload_n 0, 1) := by decide +kernel
theorem dX1_improve_46 : decode cX1_improve 46 = .ok (.dup, 1) := by decide +kernel
theorem dX1_improve_47 : decode cX1_improve 47 = .ok (.getfield 60, 3) := by decide +kernel
theorem dX1_improve_50 : decode cX1_improve 50 = .ok (.iload_n 2, 1) := by decide +kernel
theorem dX1_improve_51 : decode cX1_improve 51 = .ok (.iadd, 1) := by decide +kernel
theorem dX1_improve_52 : decode cX1_improve 52 = .ok (.putfield 60, 3) := by decide +kernel
theorem dX1_improve_55 : decode cX1_improve 55 = .ok (.goto 63, 3) := by decide +kernel
theorem dX1_improve_58 : decode cX1_improve 58 = .ok (.aload_n 0, 1) := by decide +kernel
theorem dX1_improve_59 : decode cX1_improve 59 = .ok (.dup, 1) := by decide +kernel
theorem dX1_improve_60 : decode cX1_improve 60 = .ok (.getfield 50, 3) := by decide +kernel
theorem dX1_improve_63 : decode cX1_improve 63 = .ok (.iload_n 2, 1) := by decide +kernel
theorem dX1_improve_64 : decode cX1_improve 64 = .ok (.iadd, 1) := by decide +kernel
theorem dX1_improve_65 : decode cX1_improve 65 = .ok (.putfield 50, 3) := by decide +kernel
theorem dX1_improve_68 : decode cX1_improve 68 = .ok (.goto 50, 3) := by decide +kernel
theorem dX1_improve_71 : decode cX1_improve 71 = .ok (.iconst 0, 1) := by decide +kernel
theorem dX1_improve_72 : decode cX1_improve 72 = .ok (.istore_n 3, 1) := by decide +kernel
theorem dX1_improve_73 : decode cX1_improve 73 = .ok (.iload_n 3, 1) := by decide +kernel
theorem dX1_improve_74 : decode cX1_improve 74 = .ok (.aload_n 0, 1) := by decide +kernel
theorem dX1_improve_75 : decode cX1_improve 75 = .ok (.getfield 66, 3) := by decide +kernel
theorem dX1_improve_78 : decode cX1_improve 78 = .ok (.if_icmp .ge 24, 3) := by decide +kernel
theorem dX1_improve_81 : decode cX1_improve 81 = .ok (.aload_n 0, 1) := by decide +kernel
theorem dX1_improve_82 : decode cX1_improve 82 = .ok (.getfield 20, 3) := by decide +kernel
theorem dX1_improve_85 : decode cX1_improve 85 = .ok (.iload_n 3, 1) := by decide +kernel
theorem dX1_improve_86 : decode cX1_improve 86 = .ok (.aaload, 1) := by decide +kernel
theorem dX1_improve_87 : decode cX1_improve 87 = .ok (.dup, 1) := by decide +kernel
theorem dX1_improve_88 : decode cX1_improve 88 = .ok (.getfield 123, 3) := by decide +kernel
theorem dX1_improve_91 : decode cX1_improve 91 = .ok (.iload_n 2, 1) := by decide +kernel
theorem dX1_improve_92 : decode cX1_improve 92 = .ok (.iadd, 1) := by decide +kernel
theorem dX1_improve_93 : decode cX1_improve 93 = .ok (.putfield 123, 3) := by decide +kernel
theorem dX1_improve_96 : decode cX1_improve 96 = .ok (.iinc 3 1, 3) := by decide +kernel
theorem dX1_improve_99 : decode cX1_improve 99 = .ok (.goto (-26), 3) := by decide +kernel
theorem dX1_improve_102 : decode cX1_improve 102 = .ok (.goto 16, 3) := by decide +kernel
theorem dX1_improve_105 : decode cX1_improve 105 = .ok (.aload_n 0, 1) := by decide +kernel
theorem dX1_improve_106 : decode cX1_improve 106 = .ok (.getfield 32, 3) := by decide +kernel
theorem dX1_improve_109 : decode cX1_improve 109 = .ok (.iconst 0, 1) := by decide +kernel
theorem dX1_improve_110 : decode cX1_improve 110 = .ok (.dup2, 1) := by decide +kernel
theorem dX1_improve_111 : decode cX1_improve 111 = .ok (.iaload, 1) := by decide +kernel
theorem dX1_improve_112 : decode cX1_improve 112 = .ok (.iload_n 2, 1) := by decide +kernel
theorem dX1_improve_113 : decode cX1_improve 113 = .ok (.ldc 126, 2) := by decide +kernel
theorem dX1_improve_115 : decode cX1_improve 115 = .ok (.imul, 1) := by decide +kernel
theorem dX1_improve_116 : decode cX1_improve 116 = .ok (.iadd, 1) := by decide +kernel
theorem dX1_improve_117 : decode cX1_improve 117 = .ok (.iastore, 1) := by decide +kernel
theorem dX1_improve_118 : decode cX1_improve 118 = .ok (.return_, 1) := by decide +kernel
theorem dX2_init_0 : decode cX2_init 0 = .ok (.aload_n 0, 1) := by decide +kernel
theorem dX2_init_1 : decode cX2_init 1 = .ok (.invokespecial 1, 3) := by decide +kernel
theorem dX2_init_4 : decode cX2_init 4 = .ok (.return_, 1) := by decide +kernel
theorem dX3_init_0 : decode cX3_init 0 = .ok (.aload_n 0, 1) := by decide +kernel
theorem dX3_init_1 : decode cX3_init 1 = .ok (.invokespecial 1, 3) := by decide +kernel
theorem dX3_init_4 : decode cX3_init 4 = .ok (.aload_n 0, 1) := by decide +kernel
theorem dX3_init_5 : decode cX3_init 5 = .ok (.bipush 12, 2) := by decide +kernel
theorem dX3_init_7 : decode cX3_init 7 = .ok (.newarray .int, 2) := by decide +kernel
theorem dX3_init_9 : decode cX3_init 9 = .ok (.putfield 9, 3) := by decide +kernel
theorem dX3_init_12 : decode cX3_init 12 = .ok (.aload_n 0, 1) := by decide +kernel
theorem dX3_init_13 : decode cX3_init 13 = .ok (.bipush 12, 2) := by decide +kernel
theorem dX3_init_15 : decode cX3_init 15 = .ok (.newarray .int, 2) := by decide +kernel
theorem dX3_init_17 : decode cX3_init 17 = .ok (.putfield 13, 3) := by decide +kernel
theorem dX3_init_20 : decode cX3_init 20 = .ok (.aload_n 0, 1) := by decide +kernel
theorem dX3_init_21 : decode cX3_init 21 = .ok (.bipush 12, 2) := by decide +kernel
theorem dX3_init_23 : decode cX3_init 23 = .ok (.newarray .int, 2) := by decide +kernel
theorem dX3_init_25 : decode cX3_init 25 = .ok (.putfield 16, 3) := by decide +kernel
theorem dX3_init_28 : decode cX3_init 28 = .ok (.return_, 1) := by decide +kernel
theorem dX3_forget_0 : decode cX3_forget 0 = .ok (.aload_n 0, 1) := by decide +kernel
theorem dX3_forget_1 : decode cX3_forget 1 = .ok (.iconst 0, 1) := by decide +kernel
theorem dX3_forget_2 : decode cX3_forget 2 = .ok (.putfield 19, 3) := by decide +kernel
theorem dX3_forget_5 : decode cX3_forget 5 = .ok (.return_, 1) := by decide +kernel
theorem dX3_add_0 : decode cX3_add 0 = .ok (.aload_n 0, 1) := by decide +kernel
theorem dX3_add_1 : decode cX3_add 1 = .ok (.getfield 19, 3) := by decide +kernel
theorem dX3_add_4 : decode cX3_add 4 = .ok (.bipush 12, 2) := by decide +kernel
theorem dX3_add_6 : decode cX3_add 6 = .ok (.if_icmp .ne 7, 3) := by decide +kernel
theorem dX3_add_9 : decode cX3_add 9 = .ok (.aload_n 0, 1) := by decide +kernel
theorem dX3_add_10 : decode cX3_add 10 = .ok (.invokevirtual 23, 3) := by decide +kernel
theorem dX3_add_13 : decode cX3_add 13 = .ok (.aload_n 0, 1) := by decide +kernel
theorem dX3_add_14 : decode cX3_add 14 = .ok (.getfield 9, 3) := by decide +kernel
theorem dX3_add_17 : decode cX3_add 17 = .ok (.aload_n 0, 1) := by decide +kernel
theorem dX3_add_18 : decode cX3_add 18 = .ok (.getfield 19, 3) := by decide +kernel
theorem dX3_add_21 : decode cX3_add 21 = .ok (.iload_n 1, 1) := by decide +kernel
theorem dX3_add_22 : decode cX3_add 22 = .ok (.iastore, 1) := by decide +kernel
theorem dX3_add_23 : decode cX3_add 23 = .ok (.aload_n 0, 1) := by decide +kernel
theorem dX3_add_24 : decode cX3_add 24 = .ok (.getfield 13, 3) := by decide +kernel
theorem dX3_add_27 : decode cX3_add 27 = .ok (.aload_n 0, 1) := by decide +kernel
theorem dX3_add_28 : decode cX3_add 28 = .ok (.getfield 19, 3) := by decide +kernel
theorem dX3_add_31 : decode cX3_add 31 = .ok (.iload_n 2, 1) := by decide +kernel
theorem dX3_add_32 : decode cX3_add 32 = .ok (.iastore, 1) := by decide +kernel
theorem dX3_add_33 : decode cX3_add 33 = .ok (.aload_n 0, 1) := by decide +kernel
theorem dX3_add_34 : decode cX3_add 34 = .ok (.getfield 16, 3) := by decide +kernel
theorem dX3_add_37 : decode cX3_add 37 = .ok (.aload_n 0, 1) := by decide +kernel
theorem dX3_add_38 : decode cX3_add 38 = .ok (.getfield 19, 3) := by decide +kernel
theorem dX3_add_41 : decode cX3_add 41 = .ok (.iload_n 3, 1) := by decide +kernel
theorem dX3_add_42 : decode cX3_add 42 = .ok (.iastore, 1) := by decide +kernel
theorem dX3_add_43 : decode cX3_add 43 = .ok (.aload_n 0, 1) := by decide +kernel
theorem dX3_add_44 : decode cX3_add 44 = .ok (.dup, 1) := by decide +kernel
theorem dX3_add_45 : decode cX3_add 45 = .ok (.getfield 19, 3) := by decide +kernel
theorem dX3_add_48 : decode cX3_add 48 = .ok (.iconst 1, 1) := by decide +kernel
theorem dX3_add_49 : decode cX3_add 49 = .ok (.iadd, 1) := by decide +kernel
theorem dX3_add_50 : decode cX3_add 50 = .ok (.putfield 19, 3) := by decide +kernel
theorem dX3_add_53 : decode cX3_add 53 = .ok (.return_, 1) := by decide +kernel
theorem dX3_dropOldest_0 : decode cX3_dropOldest 0 = .ok (.aload_n 0, 1) := by decide +kernel
theorem dX3_dropOldest_1 : decode cX3_dropOldest 1 = .ok (.bipush 11, 2) := by decide +kernel
theorem dX3_dropOldest_3 : decode cX3_dropOldest 3 = .ok (.putfield 19, 3) := by decide +kernel
theorem dX3_dropOldest_6 : decode cX3_dropOldest 6 = .ok (.aload_n 0, 1) := by decide +kernel
theorem dX3_dropOldest_7 : decode cX3_dropOldest 7 = .ok (.getfield 9, 3) := by decide +kernel
theorem dX3_dropOldest_10 : decode cX3_dropOldest 10 = .ok (.iconst 1, 1) := by decide +kernel
theorem dX3_dropOldest_11 : decode cX3_dropOldest 11 = .ok (.aload_n 0, 1) := by decide +kernel
theorem dX3_dropOldest_12 : decode cX3_dropOldest 12 = .ok (.getfield 9, 3) := by decide +kernel
theorem dX3_dropOldest_15 : decode cX3_dropOldest 15 = .ok (.iconst 0, 1) := by decide +kernel
theorem dX3_dropOldest_16 : decode cX3_dropOldest 16 = .ok (.aload_n 0, 1) := by decide +kernel
theorem dX3_dropOldest_17 : decode cX3_dropOldest 17 = .ok (.getfield 19, 3) := by decide +kernel
theorem dX3_dropOldest_20 : decode cX3_dropOldest 20 = .ok (.invokestatic 26, 3) := by decide +kernel
theorem dX3_dropOldest_23 : decode cX3_dropOldest 23 = .ok (.aload_n 0, 1) := by decide +kernel
theorem dX3_dropOldest_24 : decode cX3_dropOldest 24 = .ok (.getfield 13, 3) := by decide +kernel
theorem dX3_dropOldest_27 : decode cX3_dropOldest 27 = .ok (.iconst 1, 1) := by decide +kernel
theorem dX3_dropOldest_28 : decode cX3_dropOldest 28 = .ok (.aload_n 0, 1) := by decide +kernel
theorem dX3_dropOldest_29 : decode cX3_dropOldest 29 = .ok (.getfield 13, 3) := by decide +kernel
theorem dX3_dropOldest_32 : decode cX3_dropOldest 32 = .ok (.iconst 0, 1) := by decide +kernel
theorem dX3_dropOldest_33 : decode cX3_dropOldest 33 = .ok (.aload_n 0, 1) := by decide +kernel
theorem dX3_dropOldest_34 : decode cX3_dropOldest 34 = .ok (.getfield 19, 3) := by decide +kernel
theorem dX3_dropOldest_37 : decode cX3_dropOldest 37 = .ok (.invokestatic 26, 3) := by decide +kernel
theorem dX3_dropOldest_40 : decode cX3_dropOldest 40 = .ok (.aload_n 0, 1) := by decide +kernel
theorem dX3_dropOldest_41 : decode cX3_dropOldest 41 = .ok (.getfield 16, 3) := by decide +kernel
theorem dX3_dropOldest_44 : decode cX3_dropOldest 44 = .ok (.iconst 1, 1) := by decide +kernel
theorem dX3_dropOldest_45 : decode cX3_dropOldest 45 = .ok (.aload_n 0, 1) := by decide +kernel
theorem dX3_dropOldest_46 : decode cX3_dropOldest 46 = .ok (.getfield 16, 3) := by decide +kernel
theorem dX3_dropOldest_49 : decode cX3_dropOldest 49 = .ok (.iconst 0, 1) := by decide +kernel
theorem dX3_dropOldest_50 : decode cX3_dropOldest 50 = .ok (.aload_n 0, 1) := by decide +kernel
theorem dX3_dropOldest_51 : decode cX3_dropOldest 51 = .ok (.getfield 19, 3) := by decide +kernel
theorem dX3_dropOldest_54 : decode cX3_dropOldest 54 = .ok (.invokestatic 26, 3) := by decide +kernel
theorem dX3_dropOldest_57 : decode cX3_dropOldest 57 = .ok (.return_, 1) := by decide +kernel
theorem dX3_takeBack_0 : decode cX3_takeBack 0 = .ok (.aload_n 0, 1) := by decide +kernel
theorem dX3_takeBack_1 : decode cX3_takeBack 1 = .ok (.getfield 19, 3) := by decide +kernel
theorem dX3_takeBack_4 : decode cX3_takeBack 4 = .ok (.ifCond .ne 4, 3) := by decide +kernel
theorem dX3_takeBack_7 : decode cX3_takeBack 7 = .ok (.return_, 1) := by decide +kernel
theorem dX3_takeBack_8 : decode cX3_takeBack 8 = .ok (.aload_n 0, 1) := by decide +kernel
theorem dX3_takeBack_9 : decode cX3_takeBack 9 = .ok (.dup, 1) := by decide +kernel
theorem dX3_takeBack_10 : decode cX3_takeBack 10 = .ok (.getfield 19, 3) := by decide +kernel
theorem dX3_takeBack_13 : decode cX3_takeBack 13 = .ok (.iconst 1, 1) := by decide +kernel
theorem dX3_takeBack_14 : decode cX3_takeBack 14 = .ok (.isub, 1) := by decide +kernel
theorem dX3_takeBack_15 : decode cX3_takeBack 15 = .ok (.putfield 19, 3) := by decide +kernel
theorem dX3_takeBack_18 : decode cX3_takeBack 18 = .ok (.aload_n 0, 1) := by decide +kernel
theorem dX3_takeBack_19 : decode cX3_takeBack 19 = .ok (.getfield 13, 3) := by decide +kernel
theorem dX3_takeBack_22 : decode cX3_takeBack 22 = .ok (.aload_n 0, 1) := by decide +kernel
theorem dX3_takeBack_23 : decode cX3_takeBack 23 = .ok (.getfield 19, 3) := by decide +kernel
theorem dX3_takeBack_26 : decode cX3_takeBack 26 = .ok (.iaload, 1) := by decide +kernel
theorem dX3_takeBack_27 : decode cX3_takeBack 27 = .ok (.istore_n 2, 1) := by decide +kernel
theorem dX3_takeBack_28 : decode cX3_takeBack 28 = .ok (.aload_n 0, 1) := by decide +kernel
theorem dX3_takeBack_29 : decode cX3_takeBack 29 = .ok (.getfield 9, 3) := by decide +kernel
theorem dX3_takeBack_32 : decode cX3_takeBack 32 = .ok (.aload_n 0, 1) := by decide +kernel
theorem dX3_takeBack_33 : decode cX3_takeBack 33 = .ok (.getfield 19, 3) := by decide +kernel
theorem dX3_takeBack_36 : decode cX3_takeBack 36 = .ok (.iaload, 1) := by decide +kernel
theorem dX3_takeBack_37 : decode cX3_takeBack 37 = .ok (.tableswitch 128 0 4 #[35, 51, 81, 107, 115], 35) := by decide +kernel
theorem dX3_takeBack_72 : decode cX3_takeBack 72 = .ok (.aload_n 1, 1) := by decide +kernel
theorem dX3_takeBack_73 : decode cX3_takeBack 73 = .ok (.aload_n 0, 1) := by decide +kernel
theorem dX3_takeBack_74 : decode cX3_takeBack 74 = .ok (.getfield 16, 3) := by decide +kernel
theorem dX3_takeBack_77 : decode cX3_takeBack 77 = .ok (.aload_n 0, 1) := by decide +kernel
theorem dX3_takeBack_78 : decode cX3_takeBack 78 = .ok (.getfield 19, 3) := by decide +kernel
theorem dX3_takeBack_81 : decode cX3_takeBack 81 = .ok (.iaload, 1) := by decide +kernel
theorem dX3_takeBack_82 : decode cX3_takeBack 82 = .ok (.putfield 32, 3) := by decide +kernel
theorem dX3_takeBack_85 : decode cX3_takeBack 85 = .ok (.goto 98, 3) := by decide +kernel
theorem dX3_takeBack_88 : decode cX3_takeBack 88 = .ok (.aload_n 1, 1) := by decide +kernel
theorem dX3_takeBack_89 : decode cX3_takeBack 89 = .ok (.getfield 37, 3) := by decide +kernel
theorem dX3_takeBack_92 : decode cX3_takeBack 92 = .ok (.iload_n 2, 1) := by decide +kernel
theorem dX3_takeBack_93 : decode cX3_takeBack 93 = .ok (.aaload, 1) := by decide +kernel
theorem dX3_takeBack_94 : decode cX3_takeBack 94 = .ok (.aload_n 0, 1) := by decide +kernel
theorem dX3_takeBack_95 : decode cX3_takeBack 95 = .ok (.getfield 16, 3) := by decide +kernel
theorem dX3_takeBack_98 : decode cX3_takeBack 98 = .ok (.aload_n 0, 1) := by decide +kernel
theorem dX3_takeBack_99 : decode cX3_takeBack 99 = .ok (.getfield 19, 3) := by decide +kernel
theorem dX3_takeBack_102 : decode cX3_takeBack 102 = .ok (.iaload, 1) := by decide +kernel
theorem dX3_takeBack_103 : decode cX3_takeBack 103 = .ok (.iconst 1, 1) := by decide +kernel
theorem dX3_takeBack_104 : decode cX3_takeBack 104 = .ok (.if_icmp .ne 7, 3) := by decide +kernel
theorem dX3_takeBack_107 : decode cX3_takeBack 107 = .ok (.iconst 1, 1) := by decide +kernel
theorem dX3_takeBack_108 : decode cX3_takeBack 108 = .ok (.goto 4, 3) := by decide +kernel
theorem dX3_takeBack_111 : decode cX3_takeBack 111 = .ok (.iconst 0, 1) := by decide +kernel
theorem dX3_takeBack_112 : decode cX3_takeBack 112 = .ok (.putfield 41, 3) := by decide +kernel
theorem dX3_takeBack_115 : decode cX3_takeBack 115 = .ok (.goto 68, 3) := by decide +kernel
theorem dX3_takeBack_118 : decode cX3_takeBack 118 = .ok (.aload_n 1, 1) := by decide +kernel
theorem dX3_takeBack_119 : decode cX3_takeBack 119 = .ok (.iload_n 2, 1) := by decide +kernel
theorem dX3_takeBack_120 : decode cX3_takeBack 120 = .ok (.aload_n 0, 1) := by decide +kernel
theorem dX3_takeBack_121 : decode cX3_takeBack 121 = .ok (.getfield 16, 3) := by decide +kernel
theorem dX3_takeBack_124 : decode cX3_takeBack 124 = .ok (.aload_n 0, 1) := by decide +kernel
theorem dX3_takeBack_125 : decode cX3_takeBack 125 = .ok (.getfield 19, 3) := by decide +kernel
theorem dX3_takeBack_128 : decode cX3_takeBack 128 = .ok (.iaload, 1) := by decide +kernel
theorem dX3_takeBack_129 : decode cX3_takeBack 129 = .ok (.iconst 1, 1) := by decide +kernel
theorem dX3_takeBack_130 : decode cX3_takeBack 130 = .ok (.if_icmp .ne 7, 3) := by decide +kernel
theorem dX3_takeBack_133 : decode cX3_takeBack 133 = .ok (.iconst 1, 1) := by decide +kernel
theorem dX3_takeBack_134 : decode cX3_takeBack 134 = .ok (.goto 4, 3) := by decide +kernel
theorem dX3_takeBack_137 : decode cX3_takeBack 137 = .ok (.iconst 0, 1) := by decide +kernel
theorem dX3_takeBack_138 : decode cX3_takeBack 138 = .ok (.invokevirtual 47, 3) := by decide +kernel
theorem dX3_takeBack_141 : decode cX3_takeBack 141 = .ok (.goto 42, 3) := by decide +kernel
theorem dX3_takeBack_144 : decode cX3_takeBack 144 = .ok (.aload_n 1, 1) := by decide +kernel
theorem dX3_takeBack_145 : decode cX3_takeBack 145 = .ok (.iload_n 2, 1) := by decide +kernel
theorem dX3_takeBack_146 : decode cX3_takeBack 146 = .ok (.putfield 51, 3) := by decide +kernel
theorem dX3_takeBack_149 : decode cX3_takeBack 149 = .ok (.goto 34, 3) := by decide +kernel
theorem dX3_takeBack_152 : decode cX3_takeBack 152 = .ok (.aload_n 1, 1) := by decide +kernel
theorem dX3_takeBack_153 : decode cX3_takeBack 153 = .ok (.getfield 54, 3) := by decide +kernel
theorem dX3_takeBack_156 : decode cX3_takeBack 156 = .ok (.iload_n 2, 1) := by decide +kernel
theorem dX3_takeBack_157 : decode cX3_takeBack 157 = .ok (.aaload, 1) := by decide +kernel
theorem dX3_takeBack_158 : decode cX3_takeBack 158 = .ok (.iconst 0, 1) := by decide +kernel
theorem dX3_takeBack_159 : decode cX3_takeBack 159 = .ok (.putfield 58, 3) := by decide +kernel
theorem dX3_takeBack_162 : decode cX3_takeBack 162 = .ok (.goto 21, 3) := by decide +kernel
theorem dX3_takeBack_165 : decode cX3_takeBack 165 = .ok (.aload_n 1, 1) := by decide +kernel
theorem dX3_takeBack_166 : decode cX3_takeBack 166 = .ok (.getfield 54, 3) := by decide +kernel
theorem dX3_takeBack_169 : decode cX3_takeBack 169 = .ok (.iload_n 2, 1) := by decide +kernel
theorem dX3_takeBack_170 : decode cX3_takeBack 170 = .ok (.aaload, 1) := by decide +kernel
theorem dX3_takeBack_171 : decode cX3_takeBack 171 = .ok (.aload_n 0, 1) := by decide +kernel
theorem dX3_takeBack_172 : decode cX3_takeBack 172 = .ok (.getfield 16, 3) := by decide +kernel
theorem dX3_takeBack_175 : decode cX3_takeBack 175 = .ok (.aload_n 0, 1) := by decide +kernel
theorem dX3_takeBack_176 : decode cX3_takeBack 176 = .ok (.getfield 19, 3) := by decide +kernel
theorem dX3_takeBack_179 : decode cX3_takeBack 179 = .ok (.iaload, 1) := by decide +kernel
theorem dX3_takeBack_180 : decode cX3_takeBack 180 = .ok (.putfield 63, 3) := by decide +kernel
theorem dX3_takeBack_183 : decode cX3_takeBack 183 = .ok (.return_, 1) := by decide +kernel
theorem dX4_init_0 : decode cX4_init 0 = .ok (.aload_n 0, 1) := by decide +kernel
theorem dX4_init_1 : decode cX4_init 1 = .ok (.invokespecial 3, 3) := by decide +kernel
theorem dX4_init_4 : decode cX4_init 4 = .ok (.aload_n 0, 1) := by decide +kernel
theorem dX4_init_5 : decode cX4_init 5 = .ok (.bipush 60, 2) := by decide +kernel
theorem dX4_init_7 : decode cX4_init 7 = .ok (.newarray .int, 2) := by decide +kernel
theorem dX4_init_9 : decode cX4_init 9 = .ok (.putfield 11, 3) := by decide +kernel
theorem dX4_init_12 : decode cX4_init 12 = .ok (.aload_n 0, 1) := by decide +kernel
theorem dX4_init_13 : decode cX4_init 13 = .ok (.bipush 60, 2) := by decide +kernel
theorem dX4_init_15 : decode cX4_init 15 = .ok (.newarray .int, 2) := by decide +kernel
theorem dX4_init_17 : decode cX4_init 17 = .ok (.putfield 15, 3) := by decide +kernel
theorem dX4_init_20 : decode cX4_init 20 = .ok (.aload_n 0, 1) := by decide +kernel
theorem dX4_init_21 : decode cX4_init 21 = .ok (.bipush 6, 2) := by decide +kernel
theorem dX4_init_23 : decode cX4_init 23 = .ok (.bipush 60, 2) := by decide +kernel
theorem dX4_init_25 : decode cX4_init 25 = .ok (.multianewarray 18 2, 4) := by decide +kernel
theorem dX4_init_29 : decode cX4_init 29 = .ok (.putfield 20, 3) := by decide +kernel
theorem dX4_init_32 : decode cX4_init 32 = .ok (.aload_n 0, 1) := by decide +kernel
theorem dX4_init_33 : decode cX4_init 33 = .ok (.bipush 60, 2) := by decide +kernel
theorem dX4_init_35 : decode cX4_init 35 = .ok (.newarray .int, 2) := by decide +kernel
theorem dX4_init_37 : decode cX4_init 37 = .ok (.putfield 23, 3) := by decide +kernel
theorem dX4_init_40 : decode cX4_init 40 = .ok (.aload_n 0, 1) := by decide +kernel
theorem dX4_init_41 : decode cX4_init 41 = .ok (.bipush 60, 2) := by decide +kernel
theorem dX4_init_43 : decode cX4_init 43 = .ok (.newarray .int, 2) := by decide +kernel
theorem dX4_init_45 : decode cX4_init 45 = .ok (.putfield 26, 3) := by decide +kernel
theorem dX4_init_48 : decode cX4_init 48 = .ok (.aload_n 0, 1) := by decide +kernel
theorem dX4_init_49 : decode cX4_init 49 = .ok (.bipush 60, 2) := by decide +kernel
theorem dX4_init_51 : decode cX4_init 51 = .ok (.newarray .int, 2) := by decide +kernel
theorem dX4_init_53 : decode cX4_init 53 = .ok (.putfield 29, 3) := by decide +kernel
theorem dX4_init_56 : decode cX4_init 56 = .ok (.aload_n 0, 1) := by decide +kernel
theorem dX4_init_57 : decode cX4_init 57 = .ok (.bipush 60, 2) := by decide +kernel
theorem dX4_init_59 : decode cX4_init 59 = .ok (.newarray .int, 2) := by decide +kernel
theorem dX4_init_61 : decode cX4_init 61 = .ok (.putfield 32, 3) := by decide +kernel
theorem dX4_init_64 : decode cX4_init 64 = .ok (.aload_n 0, 1) := by decide +kernel
theorem dX4_init_65 : decode cX4_init 65 = .ok (.bipush 60, 2) := by decide +kernel
theorem dX4_init_67 : decode cX4_init 67 = .ok (.newarray .int, 2) := by decide +kernel
theorem dX4_init_69 : decode cX4_init 69 = .ok (.putfield 35, 3) := by decide +kernel
theorem dX4_init_72 : decode cX4_init 72 = .ok (.aload_n 0, 1) := by decide +kernel
theorem dX4_init_73 : decode cX4_init 73 = .ok (.iconst 4, 1) := by decide +kernel
theorem dX4_init_74 : decode cX4_init 74 = .ok (.newarray .int, 2) := by decide +kernel
theorem dX4_init_76 : decode cX4_init 76 = .ok (.putfield 40, 3) := by decide +kernel
theorem dX4_init_79 : decode cX4_init 79 = .ok (.aload_n 0, 1) := by decide +kernel
theorem dX4_init_80 : decode cX4_init 80 = .ok (.iconst 4, 1) := by decide +kernel
theorem dX4_init_81 : decode cX4_init 81 = .ok (.newarray .int, 2) := by decide +kernel
theorem dX4_init_83 : decode cX4_init 83 = .ok (.putfield 43, 3) := by decide +kernel
theorem dX4_init_86 : decode cX4_init 86 = .ok (.aload_n 0, 1) := by decide +kernel
theorem dX4_init_87 : decode cX4_init 87 = .ok (.iconst 4, 1) := by decide +kernel
theorem dX4_init_88 : decode cX4_init 88 = .ok (.newarray .int, 2) := by decide +kernel
theorem dX4_init_90 : decode cX4_init 90 = .ok (.putfield 46, 3) := by decide +kernel
theorem dX4_init_93 : decode cX4_init 93 = .ok (.aload_n 0, 1) := by decide +kernel
theorem dX4_init_94 : decode cX4_init 94 = .ok (.iconst 4, 1) := by decide +kernel
theorem dX4_init_95 : decode cX4_init 95 = .ok (.newarray .int, 2) := by decide +kernel
theorem dX4_init_97 : decode cX4_init 97 = .ok (.putfield 49, 3) := by decide +kernel
theorem dX4_init_100 : decode cX4_init 100 = .ok (.aload_n 0, 1) := by decide +kernel
theorem dX4_init_101 : decode cX4_init 101 = .ok (.bipush 24, 2) := by decide +kernel
theorem dX4_init_103 : decode cX4_init 103 = .ok (.newarray .int, 2) := by decide +kernel
theorem dX4_init_105 : decode cX4_init 105 = .ok (.putfield 52, 3) := by decide +kernel
theorem dX4_init_108 : decode cX4_init 108 = .ok (.aload_n 0, 1) := by decide +kernel
theorem dX4_init_109 : decode cX4_init 109 = .ok (.bipush 24, 2) := by decide +kernel
theorem dX4_init_111 : decode cX4_init 111 = .ok (.newarray .int, 2) := by decide +kernel
theorem dX4_init_113 : decode cX4_init 113 = .ok (.putfield 55, 3) := by decide +kernel
theorem dX4_init_116 : decode cX4_init 116 = .ok (.return_, 1) := by decide +kernel
theorem dX4_run_0 : decode cX4_run 0 = .ok (.aload_n 0, 1) := by decide +kernel
theorem dX4_run_1 : decode cX4_run 1 = .ok (.aload_n 1, 1) := by decide +kernel
theorem dX4_run_2 : decode cX4_run 2 = .ok (.iload_n 2, 1) := by decide +kernel
theorem dX4_run_3 : decode cX4_run 3 = .ok (.invokevirtual 58, 3) := by decide +kernel
theorem dX4_run_6 : decode cX4_run 6 = .ok (.iload_n 2, 1) := by decide +kernel
theorem dX4_run_7 : decode cX4_run 7 = .ok (.istore_n 3, 1) := by decide +kernel
theorem dX4_run_8 : decode cX4_run 8 = .ok (.iconst 0, 1) := by decide +kernel
theorem dX4_run_9 : decode cX4_run 9 = .ok (.istore 4, 2) := by decide +kernel
theorem dX4_run_11 : decode cX4_run 11 = .ok (.iload 4, 2) := by decide +kernel
theorem dX4_run_13 : decode cX4_run 13 = .ok (.ldc 62, 2) := by decide +kernel
theorem dX4_run_15 : decode cX4_run 15 = .ok (.if_icmp .ge 51, 3) := by decide +kernel
theorem dX4_run_18 : decode cX4_run 18 = .ok (.iload_n 3, 1) := by decide +kernel
theorem dX4_run_19 : decode cX4_run 19 = .ok (.iconst (-1), 1) := by decide +kernel
theorem dX4_run_20 : decode cX4_run 20 = .ok (.if_icmp .eq 46, 3) := by decide +kernel
theorem dX4_run_23 : decode cX4_run 23 = .ok (.aload_n 0, 1) := by decide +kernel
theorem dX4_run_24 : decode cX4_run 24 = .ok (.aload_n 1, 1) := by decide +kernel
theorem dX4_run_25 : decode cX4_run 25 = .ok (.iload_n 3, 1) := by decide +kernel
theorem dX4_run_26 : decode cX4_run 26 = .ok (.invokevirtual 63, 3) := by decide +kernel
theorem dX4_run_29 : decode cX4_run 29 = .ok (.aload_n 0, 1) := by decide +kernel
theorem dX4_run_30 : decode cX4_run 30 = .ok (.aload_n 1, 1) := by decide +kernel
theorem dX4_run_31 : decode cX4_run 31 = .ok (.iload_n 3, 1) := by decide +kernel
theorem dX4_run_32 : decode cX4_run 32 = .ok (.invokevirtual 66, 3) := by decide +kernel
theorem dX4_run_35 : decode cX4_run 35 = .ok (.aload_n 0, 1) := by decide +kernel
theorem dX4_run_36 : decode cX4_run 36 = .ok (.aload_n 1, 1) := by decide +kernel
theorem dX4_run_37 : decode cX4_run 37 = .ok (.iload_n 3, 1) := by decide +kernel
theorem dX4_run_38 : decode cX4_run 38 = .ok (.invokevirtual 69, 3) := by decide +kernel
theorem dX4_run_41 : decode cX4_run 41 = .ok (.aload_n 0, 1) := by decide +kernel
theorem dX4_run_42 : decode cX4_run 42 = .ok (.aload_n 1, 1) := by decide +kernel
theorem dX4_run_43 : decode cX4_run 43 = .ok (.iload_n 3, 1) := by decide +kernel
theorem dX4_run_44 : decode cX4_run 44 = .ok (.invokevirtual 72, 3) := by decide +kernel
theorem dX4_run_47 : decode cX4_run 47 = .ok (.aload_n 0, 1) := by decide +kernel
theorem dX4_run_48 : decode cX4_run 48 = .ok (.aload_n 1, 1) := by decide +kernel
theorem dX4_run_49 : decode cX4_run 49 = .ok (.iload_n 3, 1) := by decide +kernel
theorem dX4_run_50 : decode cX4_run 50 = .ok (.invokevirtual 75, 3) := by decide +kernel
theorem dX4_run_53 : decode cX4_run 53 = .ok (.aload_n 0, 1) := by decide +kernel
theorem dX4_run_54 : decode cX4_run 54 = .ok (.aload_n 1, 1) := by decide +kernel
theorem dX4_run_55 : decode cX4_run 55 = .ok (.iload_n 3, 1) := by decide +kernel
theorem dX4_run_56 : decode cX4_run 56 = .ok (.invokevirtual 78, 3) := by decide +kernel
theorem dX4_run_59 : decode cX4_run 59 = .ok (.istore_n 3, 1) := by decide +kernel
theorem dX4_run_60 : decode cX4_run 60 = .ok (.iinc 4 1, 3) := by decide +kernel
theorem dX4_run_63 : decode cX4_run 63 = .ok (.goto (-52), 3) := by decide +kernel
theorem dX4_run_66 : decode cX4_run 66 = .ok (.iconst 0, 1) := by decide +kernel
theorem dX4_run_67 : decode cX4_run 67 = .ok (.istore 4, 2) := by decide +kernel
theorem dX4_run_69 : decode cX4_run 69 = .ok (.iload 4, 2) := by decide +kernel
theorem dX4_run_71 : decode cX4_run 71 = .ok (.aload_n 0, 1) := by decide +kernel
theorem dX4_run_72 : decode cX4_run 72 = .ok (.getfield 82, 3) := by decide +kernel
theorem dX4_run_75 : decode cX4_run 75 = .ok (.if_icmp .ge 39, 3) := by decide +kernel
theorem dX4_run_78 : decode cX4_run 78 = .ok (.aload_n 0, 1) := by decide +kernel
theorem dX4_run_79 : decode cX4_run 79 = .ok (.aload_n 0, 1) := by decide +kernel
theorem dX4_run_80 : decode cX4_run 80 = .ok (.getfield 86, 3) := by decide +kernel
theorem dX4_run_83 : decode cX4_run 83 = .ok (.aload_n 0, 1) := by decide +kernel
theorem dX4_run_84 : decode cX4_run 84 = .ok (.getfield 20, 3) := by decide +kernel
theorem dX4_run_87 : decode cX4_run 87 = .ok (.iconst 5, 1) := by decide +kernel
theorem dX4_run_88 : decode cX4_run 88 = .ok (.aaload, 1) := by decide +kernel
theorem dX4_run_89 : decode cX4_run 89 = .ok (.iload 4, 2) := by decide +kernel
theorem dX4_run_91 : decode cX4_run 91 = .ok (.iaload, 1) := by decide +kernel
theorem dX4_run_92 : decode cX4_run 92 = .ok (.aload_n 0, 1) := by decide +kernel
theorem dX4_run_93 : decode cX4_run 93 = .ok (.getfield 29, 3) := by decide +kernel
theorem dX4_run_96 : decode cX4_run 96 = .ok (.iload 4, 2) := by decide +kernel
theorem dX4_run_98 : decode cX4_run 98 = .ok (.iaload, 1) := by decide +kernel
theorem dX4_run_99 : decode cX4_run 99 = .ok (.invokestatic 89, 3) := by decide +kernel
theorem dX4_run_102 : decode cX4_run 102 = .ok (.invokestatic 89, 3) := by decide +kernel
theorem dX4_run_105 : decode cX4_run 105 = .ok (.putfield 86, 3) := by decide +kernel
theorem dX4_run_108 : decode cX4_run 108 = .ok (.iinc 4 1, 3) := by decide +kernel
theorem dX4_run_111 : decode cX4_run 111 = .ok (.goto (-42), 3) := by decide +kernel
theorem dX4_run_114 : decode cX4_run 114 = .ok (.aload_n 0, 1) := by decide +kernel
theorem dX4_run_115 : decode cX4_run 115 = .ok (.aload_n 1, 1) := by decide +kernel
theorem dX4_run_116 : decode cX4_run 116 = .ok (.invokevirtual 95, 3) := by decide +kernel
theorem dX4_run_119 : decode cX4_run 119 = .ok (.return_, 1) := by decide +kernel
theorem dX4_begin_0 : decode cX4_begin 0 = .ok (.aload_n 0, 1) := by decide +kernel
theorem dX4_begin_1 : decode cX4_begin 1 = .ok (.iload_n 2, 1) := by decide +kernel
theorem dX4_begin_2 : decode cX4_begin 2 = .ok (.putfield 99, 3) := by decide +kernel
theorem dX4_begin_5 : decode cX4_begin 5 = .ok (.aload_n 0, 1) := by decide +kernel
theorem dX4_begin_6 : decode cX4_begin 6 = .ok (.iload_n 2, 1) := by decide +kernel
theorem dX4_begin_7 : decode cX4_begin 7 = .ok (.putfield 86, 3) := by decide +kernel
theorem dX4_begin_10 : decode cX4_begin 10 = .ok (.aload_n 0, 1) := by decide +kernel
theorem dX4_begin_11 : decode cX4_begin 11 = .ok (.iconst 0, 1) := by decide +kernel
theorem dX4_begin_12 : decode cX4_begin 12 = .ok (.putfield 102, 3) := by decide +kernel
theorem dX4_begin_15 : decode cX4_begin 15 = .ok (.aload_n 0, 1) := by decide +kernel
theorem dX4_begin_16 : decode cX4_begin 16 = .ok (.iconst 0, 1) := by decide +kernel
theorem dX4_begin_17 : decode cX4_begin 17 = .ok (.putfield 105, 3) := by decide +kernel
theorem dX4_begin_20 : decode cX4_begin 20 = .ok (.aload_n 0, 1) := by decide +kernel
theorem dX4_begin_21 : decode cX4_begin 21 = .ok (.iconst 0, 1) := by decide +kernel
theorem dX4_begin_22 : decode cX4_begin 22 = .ok (.putfield 108, 3) := by decide +kernel
theorem dX4_begin_25 : decode cX4_begin 25 = .ok (.aload_n 0, 1) := by decide +kernel
theorem dX4_begin_26 : decode cX4_begin 26 = .ok (.getfield 20, 3) := by decide +kernel
theorem dX4_begin_29 : decode cX4_begin 29 = .ok (.astore_n 3, 1) := by decide +kernel
theorem dX4_begin_30 : decode cX4_begin 30 = .ok (.aload_n 3, 1) := by decide +kernel
theorem dX4_begin_31 : decode cX4_begin 31 = .ok (.arraylength, 1) := by decide +kernel
theorem dX4_begin_32 : decode cX4_begin 32 = .ok (.istore 4, 2) := by decide +kernel
theorem dX4_begin_34 : decode cX4_begin 34 = .ok (.iconst 0, 1) := by decide +kernel
theorem dX4_begin_35 : decode cX4_begin 35 = .ok (.istore 5, 2) := by decide +kernel
theorem dX4_begin_37 : decode cX4_begin 37 = .ok (.iload 5, 2) := by decide +kernel
theorem dX4_begin_39 : decode cX4_begin 39 = .ok (.iload 4, 2) := by decide +kernel
theorem dX4_begin_41 : decode cX4_begin 41 = .ok (.if_icmp .ge 21, 3) := by decide +kernel
theorem dX4_begin_44 : decode cX4_begin 44 = .ok (.aload_n 3, 1) := by decide +kernel
theorem dX4_begin_45 : decode cX4_begin 45 = .ok (.iload 5, 2) := by decide +kernel
theorem dX4_begin_47 : decode cX4_begin 47 = .ok (.aaload, 1) := by decide +kernel
theorem dX4_begin_48 : decode cX4_begin 48 = .ok (.astore 6, 2) := by decide +kernel
theorem dX4_begin_50 : decode cX4_begin 50 = .ok (.aload 6, 2) := by decide +kernel
theorem dX4_begin_52 : decode cX4_begin 52 = .ok (.iconst (-1), 1) := by decide +kernel
theorem dX4_begin_53 : decode cX4_begin 53 = .ok (.invokestatic 111, 3) := by decide +kernel
theorem dX4_begin_56 : decode cX4_begin 56 = .ok (.iinc 5 1, 3) := by decide +kernel
theorem dX4_begin_59 : decode cX4_begin 59 = .ok (.goto (-22), 3) := by decide +kernel
theorem dX4_begin_62 : decode cX4_begin 62 = .ok (.aload_n 0, 1) := by decide +kernel
theorem dX4_begin_63 : decode cX4_begin 63 = .ok (.getfield 15, 3) := by decide +kernel
theorem dX4_begin_66 : decode cX4_begin 66 = .ok (.iconst (-1), 1) := by decide +kernel
theorem dX4_begin_67 : decode cX4_begin 67 = .ok (.invokestatic 111, 3) := by decide +kernel
theorem dX4_begin_70 : decode cX4_begin 70 = .ok (.aload_n 0, 1) := by decide +kernel
theorem dX4_begin_71 : decode cX4_begin 71 = .ok (.getfield 23, 3) := by decide +kernel
theorem dX4_begin_74 : decode cX4_begin 74 = .ok (.iconst (-1), 1) := by decide +kernel
theorem dX4_begin_75 : decode cX4_begin 75 = .ok (.invokestatic 111, 3) := by decide +kernel
theorem dX4_begin_78 : decode cX4_begin 78 = .ok (.aload_n 0, 1) := by decide +kernel
theorem dX4_begin_79 : decode cX4_begin 79 = .ok (.getfield 26, 3) := by decide +kernel
theorem dX4_begin_82 : decode cX4_begin 82 = .ok (.iconst (-1), 1) := by decide +kernel
theorem dX4_begin_83 : decode cX4_begin 83 = .ok (.invokestatic 111, 3) := by decide +kernel
theorem dX4_begin_86 : decode cX4_begin 86 = .ok (.aload_n 0, 1) := by decide +kernel
theorem dX4_begin_87 : decode cX4_begin 87 = .ok (.getfield 29, 3) := by decide +kernel
theorem dX4_begin_90 : decode cX4_begin 90 = .ok (.iconst (-1), 1) := by decide +kernel
theorem dX4_begin_91 : decode cX4_begin 91 = .ok (.invokestatic 111, 3) := by decide +kernel
theorem dX4_begin_94 : decode cX4_begin 94 = .ok (.aload_n 0, 1) := by decide +kernel
theorem dX4_begin_95 : decode cX4_begin 95 = .ok (.getfield 43, 3) := by decide +kernel
theorem dX4_begin_98 : decode cX4_begin 98 = .ok (.iconst (-1), 1) := by decide +kernel
theorem dX4_begin_99 : decode cX4_begin 99 = .ok (.invokestatic 111, 3) := by decide +kernel
theorem dX4_begin_102 : decode cX4_begin 102 = .ok (.aload_n 0, 1) := by decide +kernel
theorem dX4_begin_103 : decode cX4_begin 103 = .ok (.getfield 46, 3) := by decide +kernel
theorem dX4_begin_106 : decode cX4_begin 106 = .ok (.iconst 0, 1) := by decide +kernel
theorem dX4_begin_107 : decode cX4_begin 107 = .ok (.invokestatic 111, 3) := by decide +kernel
theorem dX4_begin_110 : decode cX4_begin 110 = .ok (.iconst 0, 1) := by decide +kernel
theorem dX4_begin_111 : decode cX4_begin 111 = .ok (.istore_n 3, 1) := by decide +kernel
theorem dX4_begin_112 : decode cX4_begin 112 = .ok (.iload_n 3, 1) := by decide +kernel
theorem dX4_begin_113 : decode cX4_begin 113 = .ok (.aload_n 1, 1) := by decide +kernel
theorem dX4_begin_114 : decode cX4_begin 114 = .ok (.getfield 117, 3) := by decide +kernel
theorem dX4_begin_117 : decode cX4_begin 117 = .ok (.if_icmp .ge 24, 3) := by decide +kernel
theorem dX4_begin_120 : decode cX4_begin 120 = .ok (.aload_n 0, 1) := by decide +kernel
theorem dX4_begin_121 : decode cX4_begin 121 = .ok (.getfield 40, 3) := by decide +kernel
theorem dX4_begin_124 : decode cX4_begin 124 = .ok (.iload_n 3, 1) := by decide +kernel
theorem dX4_begin_125 : decode cX4_begin 125 = .ok (.aload_n 1, 1) := by decide +kernel
theorem dX4_begin_126 : decode cX4_begin 126 = .ok (.getfield 120, 3) := by decide +kernel
theorem dX4_begin_129 : decode cX4_begin 129 = .ok (.iload_n 3, 1) := by decide +kernel
theorem dX4_begin_130 : decode cX4_begin 130 = .ok (.aaload, 1) := by decide +kernel
theorem dX4_begin_131 : decode cX4_begin 131 = .ok (.getfield 124, 3) := by decide +kernel
theorem dX4_begin_134 : decode cX4_begin 134 = .ok (.iastore, 1) := by decide +kernel
theorem dX4_begin_135 : decode cX4_begin 135 = .ok (.iinc 3 1, 3) := by decide +kernel
theorem dX4_begin_138 : decode cX4_begin 138 = .ok (.goto (-26), 3) := by decide +kernel
theorem dX4_begin_141 : decode cX4_begin 141 = .ok (.aload_n 0, 1) := by decide +kernel
theorem dX4_begin_142 : decode cX4_begin 142 = .ok (.aload_n 1, 1) := by decide +kernel
theorem dX4_begin_143 : decode cX4_begin 143 = .ok (.invokevirtual 128, 3) := by decide +kernel
theorem dX4_begin_146 : decode cX4_begin 146 = .ok (.return_, 1) := by decide +kernel
theorem dX4_numberBatches_0 : decode cX4_numberBatches 0 = .ok (.aload_n 0, 1) := by decide +kernel
theorem dX4_numberBatches_1 : decode cX4_numberBatches 1 = .ok (.iconst 0, 1) := by decide +kernel
theorem dX4_numberBatches_2 : decode cX4_numberBatches 2 = .ok (.putfield 82, 3) := by decide +kernel
theorem dX4_numberBatches_5 : decode cX4_numberBatches 5 = .ok (.iconst 0, 1) := by decide +kernel
theorem dX4_numberBatches_6 : decode cX4_numberBatches 6 = .ok (.istore_n 2, 1) := by decide +kernel
theorem dX4_numberBatches_7 : decode cX4_numberBatches 7 = .ok (.iconst 0, 1) := by decide +kernel
theorem dX4_numberBatches_8 : decode cX4_numberBatches 8 = .ok (.istore_n 3, 1) := by decide +kernel
theorem dX4_numberBatches_9 : decode cX4_numberBatches 9 = .ok (.iload_n 3, 1) := by decide +kernel
theorem dX4_numberBatches_10 : decode cX4_numberBatches 10 = .ok (.aload_n 1, 1) := by decide +kernel
theorem dX4_numberBatches_11 : decode cX4_numberBatches 11 = .ok (.getfield 131, 3) := by decide +kernel
theorem dX4_numberBatches_14 : decode cX4_numberBatches 14 = .ok (.if_icmp .ge 129, 3) := by decide +kernel
theorem dX4_numberBatches_17 : decode cX4_numberBatches 17 = .ok (.iconst (-1), 1) := by decide +kernel
theorem dX4_numberBatches_18 : decode cX4_numberBatches 18 = .ok (.istore 4, 2) := by decide +kernel
theorem dX4_numberBatches_20 : decode cX4_numberBatches 20 = .ok (.iconst 0, 1) := by decide +kernel
theorem dX4_numberBatches_21 : decode cX4_numberBatches 21 = .ok (.istore 5, 2) := by decide +kernel
theorem dX4_numberBatches_23 : decode cX4_numberBatches 23 = .ok (.iload 5, 2) := by decide +kernel
theorem dX4_numberBatches_25 : decode cX4_numberBatches 25 = .ok (.aload_n 1, 1) := by decide +kernel
theorem dX4_numberBatches_26 : decode cX4_numberBatches 26 = .ok (.getfield 131, 3) := by decide +kernel
theorem dX4_numberBatches_29 : decode cX4_numberBatches 29 = .ok (.if_icmp .ge 43, 3) := by decide +kernel
theorem dX4_numberBatches_32 : decode cX4_numberBatches 32 = .ok (.iload_n 2, 1) := by decide +kernel
theorem dX4_numberBatches_33 : decode cX4_numberBatches 33 = .ok (.iload 5, 2) := by decide +kernel
theorem dX4_numberBatches_35 : decode cX4_numberBatches 35 = .ok (.ishr, 1) := by decide +kernel
theorem dX4_numberBatches_36 : decode cX4_numberBatches 36 = .ok (.iconst 1, 1) := by decide +kernel
theorem dX4_numberBatches_37 : decode cX4_numberBatches 37 = .ok (.iand, 1) := by decide +kernel
theorem dX4_numberBatches_38 : decode cX4_numberBatches 38 = .ok (.ifCond .ne 28, 3) := by decide +kernel
theorem dX4_numberBatches_41 : decode cX4_numberBatches 41 = .ok (.iload 4, 2) := by decide +kernel
theorem dX4_numberBatches_43 : decode cX4_numberBatches 43 = .ok (.iconst (-1), 1) := by decide +kernel
theorem dX4_numberBatches_44 : decode cX4_numberBatches 44 = .ok (.if_icmp .eq 18, 3) := by decide +kernel
theorem dX4_numberBatches_47 : decode cX4_numberBatches 47 = .ok (.aload_n 1, 1) := by decide +kernel
theorem dX4_numberBatches_48 : decode cX4_numberBatches 48 = .ok (.iload 5, 2) := by decide +kernel
theorem dX4_numberBatches_50 : decode cX4_numberBatches 50 = .ok (.invokevirtual 134, 3) := by decide +kernel
theorem dX4_numberBatches_53 : decode cX4_numberBatches 53 = .ok (.aload_n 1, 1) := by decide +kernel
theorem dX4_numberBatches_54 : decode cX4_numberBatches 54 = .ok (.iload 4, 2) := by decide +kernel
theorem dX4_numberBatches_56 : decode cX4_numberBatches 56 = .ok (.invokevirtual 134, 3) := by decide +kernel
theorem dX4_numberBatches_59 : decode cX4_numberBatches 59 = .ok (.if_icmp .ge 7, 3) := by decide +kernel
theorem dX4_numberBatches_62 : decode cX4_numberBatches 62 = .ok (.iload 5, 2) := by decide +kernel
theorem dX4_numberBatches_64 : decode cX4_numberBatches 64 = .ok (.istore 4, 2) := by decide +kernel
theorem dX4_numberBatches_66 : decode cX4_numberBatches 66 = .ok (.iinc 5 1, 3) := by decide +kernel
theorem dX4_numberBatches_69 : decode cX4_numberBatches 69 = .ok (.goto (-46), 3) := by decide +kernel
theorem dX4_numberBatches_72 : decode cX4_numberBatches 72 = .ok (.iload 4, 2) := by decide +kernel
theorem dX4_numberBatches_74 : decode cX4_numberBatches 74 = .ok (.iconst (-1), 1) := by decide +kernel
theorem dX4_numberBatches_75 : decode cX4_numberBatches 75 = .ok (.if_icmp .ne 4, 3) := by decide +kernel
theorem dX4_numberBatches_78 : decode cX4_numberBatches 78 = .ok (.return_, 1) := by decide +kernel
theorem dX4_numberBatches_79 : decode cX4_numberBatches 79 = .ok (.iload_n 2, 1) := by decide +kernel
theorem dX4_numberBatches_80 : decode cX4_numberBatches 80 = .ok (.iconst 1, 1) := by decide +kernel
theorem dX4_numberBatches_81 : decode cX4_numberBatches 81 = .ok (.iload 4, 2) := by decide +kernel
theorem dX4_numberBatches_83 : decode cX4_numberBatches 83 = .ok (.ishl, 1) := by decide +kernel
theorem dX4_numberBatches_84 : decode cX4_numberBatches 84 = .ok (.ior, 1) := by decide +kernel
theorem dX4_numberBatches_85 : decode cX4_numberBatches 85 = .ok (.istore_n 2, 1) := by decide +kernel
theorem dX4_numberBatches_86 : decode cX4_numberBatches 86 = .ok (.bipush 60, 2) := by decide +kernel
theorem dX4_numberBatches_88 : decode cX4_numberBatches 88 = .ok (.aload_n 0, 1) := by decide +kernel
theorem dX4_numberBatches_89 : decode cX4_numberBatches 89 = .ok (.getfield 82, 3) := by decide +kernel
theorem dX4_numberBatches_92 : decode cX4_numberBatches 92 = .ok (.aload_n 1, 1) := by decide +kernel
theorem dX4_numberBatches_93 : decode cX4_numberBatches 93 = .ok (.iload 4, 2) := by decide +kernel
theorem dX4_numberBatches_95 : decode cX4_numberBatches 95 = .ok (.invokevirtual 138, 3) := by decide +kernel
theorem dX4_numberBatches_98 : decode cX4_numberBatches 98 = .ok (.iadd, 1) := by decide +kernel
theorem dX4_numberBatches_99 : decode cX4_numberBatches 99 = .ok (.invokestatic 141, 3) := by decide +kernel
theorem dX4_numberBatches_102 : decode cX4_numberBatches 102 = .ok (.istore 5, 2) := by decide +kernel
theorem dX4_numberBatches_104 : decode cX4_numberBatches 104 = .ok (.aload_n 0, 1) := by decide +kernel
theorem dX4_numberBatches_105 : decode cX4_numberBatches 105 = .ok (.getfield 82, 3) := by decide +kernel
theorem dX4_numberBatches_108 : decode cX4_numberBatches 108 = .ok (.iload 5, 2) := by decide +kernel
theorem dX4_numberBatches_110 : decode cX4_numberBatches 110 = .ok (.if_icmp .ge 27, 3) := by decide +kernel
theorem dX4_numberBatches_113 : decode cX4_numberBatches 113 = .ok (.aload_n 0, 1) := by decide +kernel
theorem dX4_numberBatches_114 : decode cX4_numberBatches 114 = .ok (.getfield 11, 3) := by decide +kernel
theorem dX4_numberBatches_117 : decode cX4_numberBatches 117 = .ok (.aload_n 0, 1) := by decide +kernel
theorem dX4_numberBatches_118 : decode cX4_numberBatches 118 = .ok (.getfield 82, 3) := by decide +kernel
theorem dX4_numberBatches_121 : decode cX4_numberBatches 121 = .ok (.iload 4, 2) := by decide +kernel
theorem dX4_numberBatches_123 : decode cX4_numberBatches 123 = .ok (.iastore, 1) := by decide +kernel
theorem dX4_numberBatches_124 : decode cX4_numberBatches 124 = .ok (.aload_n 0, 1) := by decide +kernel
theorem dX4_numberBatches_125 : decode cX4_numberBatches 125 = .ok (.dup, 1) := by decide +kernel
theorem dX4_numberBatches_126 : decode cX4_numberBatches 126 = .ok (.getfield 82, 3) := by decide +kernel
theorem dX4_numberBatches_129 : decode cX4_numberBatches 129 = .ok (.iconst 1, 1) := by decide +kernel
theorem dX4_numberBatches_130 : decode cX4_numberBatches 130 = .ok (.iadd, 1) := by decide +kernel
theorem dX4_numberBatches_131 : decode cX4_numberBatches 131 = .ok (.putfield 82, 3) := by decide +kernel
theorem dX4_numberBatches_134 : decode cX4_numberBatches 134 = .ok (.goto (-30), 3) := by decide +kernel
theorem dX4_numberBatches_137 : decode cX4_numberBatches 137 = .ok (.iinc 3 1, 3) := by decide +kernel
theorem dX4_numberBatches_140 : decode cX4_numberBatches 140 = .ok (.goto (-131), 3) := by decide +kernel
theorem dX4_numberBatches_143 : decode cX4_numberBatches 143 = .ok (.return_, 1) := by decide +kernel
theorem dX4_noteWhatEnded_0 : decode cX4_noteWhatEnded 0 = .ok (.iconst 0, 1) := by decide +kernel
theorem dX4_noteWhatEnded_1 : decode cX4_noteWhatEnded 1 = .ok (.istore_n 3, 1) := by decide +kernel
theorem dX4_noteWhatEnded_2 : decode cX4_noteWhatEnded 2 = .ok (.iload_n 3, 1) := by decide +kernel
theorem dX4_noteWhatEnded_3 : decode cX4_noteWhatEnded 3 = .ok (.aload_n 0, 1) := by decide +kernel
theorem dX4_noteWhatEnded_4 : decode cX4_noteWhatEnded 4 = .ok (.getfield 82, 3) := by decide +kernel
theorem dX4_noteWhatEnded_7 : decode cX4_noteWhatEnded 7 = .ok (.if_icmp .ge 87, 3) := by decide +kernel
theorem dX4_noteWhatEnded_10 : decode cX4_noteWhatEnded 10 = .ok (.aload_n 0, 1) := by decide +kernel
theorem dX4_noteWhatEnded_11 : decode cX4_noteWhatEnded 11 = .ok (.getfield 23, 3) := by decide +kernel
theorem dX4_noteWhatEnded_14 : decode cX4_noteWhatEnded 14 = .ok (.iload_n 3, 1) := by decide +kernel
theorem dX4_noteWhatEnded_15 : decode cX4_noteWhatEnded 15 = .ok (.iaload, 1) := by decide +kernel
theorem dX4_noteWhatEnded_16 : decode cX4_noteWhatEnded 16 = .ok (.iload_n 2, 1) := by decide +kernel
theorem dX4_noteWhatEnded_17 : decode cX4_noteWhatEnded 17 = .ok (.if_icmp .ne 32, 3) := by decide +kernel
theorem dX4_noteWhatEnded_20 : decode cX4_noteWhatEnded 20 = .ok (.aload_n 0, 1) := by decide +kernel
theorem dX4_noteWhatEnded_21 : decode cX4_noteWhatEnded 21 = .ok (.getfield 105, 3) := by decide +kernel
theorem dX4_noteWhatEnded_24 : decode cX4_noteWhatEnded 24 = .ok (.bipush 60, 2) := by decide +kernel
theorem dX4_noteWhatEnded_26 : decode cX4_noteWhatEnded 26 = .ok (.if_icmp .ge 23, 3) := by decide +kernel
theorem dX4_noteWhatEnded_29 : decode cX4_noteWhatEnded 29 = .ok (.aload_n 0, 1) := by decide +kernel
theorem dX4_noteWhatEnded_30 : decode cX4_noteWhatEnded 30 = .ok (.getfield 32, 3) := by decide +kernel
theorem dX4_noteWhatEnded_33 : decode cX4_noteWhatEnded 33 = .ok (.aload_n 0, 1) := by decide +kernel
theorem dX4_noteWhatEnded_34 : decode cX4_noteWhatEnded 34 = .ok (.getfield 105, 3) := by decide +kernel
theorem dX4_noteWhatEnded_37 : decode cX4_noteWhatEnded 37 = .ok (.iload_n 3, 1) := by decide +kernel
theorem dX4_noteWhatEnded_38 : decode cX4_noteWhatEnded 38 = .ok (.iastore, 1) := by decide +kernel
theorem dX4_noteWhatEnded_39 : decode cX4_noteWhatEnded 39 = .ok (.aload_n 0, 1) := by decide +kernel
theorem dX4_noteWhatEnded_40 : decode cX4_noteWhatEnded 40 = .ok (.dup, 1) := by decide +kernel
theorem dX4_noteWhatEnded_41 : decode cX4_noteWhatEnded 41 = .ok (.getfield 105, 3) := by decide +kernel
theorem dX4_noteWhatEnded_44 : decode cX4_noteWhatEnded 44 = .ok (.iconst 1, 1) := by decide +kernel
theorem dX4_noteWhatEnded_45 : decode cX4_noteWhatEnded 45 = .ok (.iadd, 1) := by decide +kernel
theorem dX4_noteWhatEnded_46 : decode cX4_noteWhatEnded 46 = .ok (.putfield 105, 3) := by decide +kernel
theorem dX4_noteWhatEnded_49 : decode cX4_noteWhatEnded 49 = .ok (.aload_n 0, 1) := by decide +kernel
theorem dX4_noteWhatEnded_50 : decode cX4_noteWhatEnded 50 = .ok (.getfield 26, 3) := by decide +kernel
theorem dX4_noteWhatEnded_53 : decode cX4_noteWhatEnded 53 = .ok (.iload_n 3, 1) := by decide +kernel
theorem dX4_noteWhatEnded_54 : decode cX4_noteWhatEnded 54 = .ok (.iaload, 1) := by decide +kernel
theorem dX4_noteWhatEnded_55 : decode cX4_noteWhatEnded 55 = .ok (.iload_n 2, 1) := by decide +kernel
theorem dX4_noteWhatEnded_56 : decode cX4_noteWhatEnded 56 = .ok (.if_icmp .ne 32, 3) := by decide +kernel
theorem dX4_noteWhatEnded_59 : decode cX4_noteWhatEnded 59 = .ok (.aload_n 0, 1) := by decide +kernel
theorem dX4_noteWhatEnded_60 : decode cX4_noteWhatEnded 60 = .ok (.getfield 108, 3) := by decide +kernel
theorem dX4_noteWhatEnded_63 : decode cX4_noteWhatEnded 63 = .ok (.bipush 60, 2) := by decide +kernel
theorem dX4_noteWhatEnded_65 : decode cX4_noteWhatEnded 65 = .ok (.if_icmp .ge 23, 3) := by decide +kernel
theorem dX4_noteWhatEnded_68 : decode cX4_noteWhatEnded 68 = .ok (.aload_n 0, 1) := by decide +kernel
theorem dX4_noteWhatEnded_69 : decode cX4_noteWhatEnded 69 = .ok (.getfield 35, 3) := by decide +kernel
theorem dX4_noteWhatEnded_72 : decode cX4_noteWhatEnded 72 = .ok (.aload_n 0, 1) := by decide +kernel
theorem dX4_noteWhatEnded_73 : decode cX4_noteWhatEnded 73 = .ok (.getfield 108, 3) := by decide +kernel
theorem dX4_noteWhatEnded_76 : decode cX4_noteWhatEnded 76 = .ok (.iload_n 3, 1) := by decide +kernel
theorem dX4_noteWhatEnded_77 : decode cX4_noteWhatEnded 77 = .ok (.iastore, 1) := by decide +kernel
theorem dX4_noteWhatEnded_78 : decode cX4_noteWhatEnded 78 = .ok (.aload_n 0, 1) := by decide +kernel
theorem dX4_noteWhatEnded_79 : decode cX4_noteWhatEnded 79 = .ok (.dup, 1) := by decide +kernel
theorem dX4_noteWhatEnded_80 : decode cX4_noteWhatEnded 80 = .ok (.getfield 108, 3) := by decide +kernel
theorem dX4_noteWhatEnded_83 : decode cX4_noteWhatEnded 83 = .ok (.iconst 1, 1) := by decide +kernel
theorem dX4_noteWhatEnded_84 : decode cX4_noteWhatEnded 84 = .ok (.iadd, 1) := by decide +kernel
theorem dX4_noteWhatEnded_85 : decode cX4_noteWhatEnded 85 = .ok (.putfield 108, 3) := by decide +kernel
theorem dX4_noteWhatEnded_88 : decode cX4_noteWhatEnded 88 = .ok (.iinc 3 1, 3) := by decide +kernel
theorem dX4_noteWhatEnded_91 : decode cX4_noteWhatEnded 91 = .ok (.goto (-89), 3) := by decide +kernel
theorem dX4_noteWhatEnded_94 : decode cX4_noteWhatEnded 94 = .ok (.iconst 0, 1) := by decide +kernel
theorem dX4_noteWhatEnded_95 : decode cX4_noteWhatEnded 95 = .ok (.istore_n 3, 1) := by decide +kernel
theorem dX4_noteWhatEnded_96 : decode cX4_noteWhatEnded 96 = .ok (.iload_n 3, 1) := by decide +kernel
theorem dX4_noteWhatEnded_97 : decode cX4_noteWhatEnded 97 = .ok (.aload_n 1, 1) := by decide +kernel
theorem dX4_noteWhatEnded_98 : decode cX4_noteWhatEnded 98 = .ok (.getfield 117, 3) := by decide +kernel
theorem dX4_noteWhatEnded_101 : decode cX4_noteWhatEnded 101 = .ok (.if_icmp .ge 21, 3) := by decide +kernel
theorem dX4_noteWhatEnded_104 : decode cX4_noteWhatEnded 104 = .ok (.aload_n 0, 1) := by decide +kernel
theorem dX4_noteWhatEnded_105 : decode cX4_noteWhatEnded 105 = .ok (.getfield 49, 3) := by decide +kernel
theorem dX4_noteWhatEnded_108 : decode cX4_noteWhatEnded 108 = .ok (.iload_n 3, 1) := by decide +kernel
theorem dX4_noteWhatEnded_109 : decode cX4_noteWhatEnded 109 = .ok (.aload_n 0, 1) := by decide +kernel
theorem dX4_noteWhatEnded_110 : decode cX4_noteWhatEnded 110 = .ok (.iload_n 3, 1) := by decide +kernel
theorem dX4_noteWhatEnded_111 : decode cX4_noteWhatEnded 111 = .ok (.iload_n 2, 1) := by decide +kernel
theorem dX4_noteWhatEnded_112 : decode cX4_noteWhatEnded 112 = .ok (.invokevirtual 144, 3) := by decide +kernel
theorem dX4_noteWhatEnded_115 : decode cX4_noteWhatEnded 115 = .ok (.iastore, 1) := by decide +kernel
theorem dX4_noteWhatEnded_116 : decode cX4_noteWhatEnded 116 = .ok (.iinc 3 1, 3) := by decide +kernel
theorem dX4_noteWhatEnded_119 : decode cX4_noteWhatEnded 119 = .ok (.goto (-23), 3) := by decide +kernel
theorem dX4_noteWhatEnded_122 : decode cX4_noteWhatEnded 122 = .ok (.return_, 1) := by decide +kernel
theorem dX4_spoilWaiting_0 : decode cX4_spoilWaiting 0 = .ok (.iconst 0, 1) := by decide +kernel
theorem dX4_spoilWaiting_1 : decode cX4_spoilWaiting 1 = .ok (.istore_n 3, 1) := by decide +kernel
theorem dX4_spoilWaiting_2 : decode cX4_spoilWaiting 2 = .ok (.iconst 0, 1) := by decide +kernel
theorem dX4_spoilWaiting_3 : decode cX4_spoilWaiting 3 = .ok (.istore 4, 2) := by decide +kernel
theorem dX4_spoilWaiting_5 : decode cX4_spoilWaiting 5 = .ok (.iload 4, 2) := by decide +kernel
theorem dX4_spoilWaiting_7 : decode cX4_spoilWaiting 7 = .ok (.aload_n 0, 1) := by decide +kernel
theorem dX4_spoilWaiting_8 : decode cX4_spoilWaiting 8 = .ok (.getfield 108, 3) := by decide +kernel
theorem dX4_spoilWaiting_11 : decode cX4_spoilWaiting 11 = .ok (.if_icmp .ge 67, 3) := by decide +kernel
theorem dX4_spoilWaiting_14 : decode cX4_spoilWaiting 14 = .ok (.aload_n 0, 1) := by decide +kernel
theorem dX4_spoilWaiting_15 : decode cX4_spoilWaiting 15 = .ok (.getfield 35, 3) := by decide +kernel
theorem dX4_spoilWaiting_18 : decode cX4_spoilWaiting 18 = .ok (.iload 4, 2) := by decide +kernel
theorem dX4_spoilWaiting_20 : decode cX4_spoilWaiting 20 = .ok (.iaload, 1) := by decide +kernel
theorem dX4_spoilWaiting_21 : decode cX4_spoilWaiting 21 = .ok (.istore 5, 2) := by decide +kernel
theorem dX4_spoilWaiting_23 : decode cX4_spoilWaiting 23 = .ok (.iload_n 2, 1) := by decide +kernel
theorem dX4_spoilWaiting_24 : decode cX4_spoilWaiting 24 = .ok (.aload_n 0, 1) := by decide +kernel
theorem dX4_spoilWaiting_25 : decode cX4_spoilWaiting 25 = .ok (.getfield 26, 3) := by decide +kernel
theorem dX4_spoilWaiting_28 : decode cX4_spoilWaiting 28 = .ok (.iload 5, 2) := by decide +kernel
theorem dX4_spoilWaiting_30 : decode cX4_spoilWaiting 30 = .ok (.iaload, 1) := by decide +kernel
theorem dX4_spoilWaiting_31 : decode cX4_spoilWaiting 31 = .ok (.isub, 1) := by decide +kernel
theorem dX4_spoilWaiting_32 : decode cX4_spoilWaiting 32 = .ok (.aload_n 1, 1) := by decide +kernel
theorem dX4_spoilWaiting_33 : decode cX4_spoilWaiting 33 = .ok (.getfield 147, 3) := by decide +kernel
theorem dX4_spoilWaiting_36 : decode cX4_spoilWaiting 36 = .ok (.aload_n 0, 1) := by decide +kernel
theorem dX4_spoilWaiting_37 : decode cX4_spoilWaiting 37 = .ok (.getfield 11, 3) := by decide +kernel
theorem dX4_spoilWaiting_40 : decode cX4_spoilWaiting 40 = .ok (.iload 5, 2) := by decide +kernel
theorem dX4_spoilWaiting_42 : decode cX4_spoilWaiting 42 = .ok (.iaload, 1) := by decide +kernel
theorem dX4_spoilWaiting_43 : decode cX4_spoilWaiting 43 = .ok (.aaload, 1) := by decide +kernel
theorem dX4_spoilWaiting_44 : decode cX4_spoilWaiting 44 = .ok (.getfield 151, 3) := by decide +kernel
theorem dX4_spoilWaiting_47 : decode cX4_spoilWaiting 47 = .ok (.if_icmp .le 14, 3) := by decide +kernel
theorem dX4_spoilWaiting_50 : decode cX4_spoilWaiting 50 = .ok (.aload_n 0, 1) := by decide +kernel
theorem dX4_spoilWaiting_51 : decode cX4_spoilWaiting 51 = .ok (.getfield 29, 3) := by decide +kernel
theorem dX4_spoilWaiting_54 : decode cX4_spoilWaiting 54 = .ok (.iload 5, 2) := by decide +kernel
theorem dX4_spoilWaiting_56 : decode cX4_spoilWaiting 56 = .ok (.iload_n 2, 1) := by decide +kernel
theorem dX4_spoilWaiting_57 : decode cX4_spoilWaiting 57 = .ok (.iastore, 1) := by decide +kernel
theorem dX4_spoilWaiting_58 : decode cX4_spoilWaiting 58 = .ok (.goto 14, 3) := by decide +kernel
theorem dX4_spoilWaiting_61 : decode cX4_spoilWaiting 61 = .ok (.aload_n 0, 1) := by decide +kernel
theorem dX4_spoilWaiting_62 : decode cX4_spoilWaiting 62 = .ok (.getfield 35, 3) := by decide +kernel
theorem dX4_spoilWaiting_65 : decode cX4_spoilWaiting 65 = .ok (.iload_n 3, 1) := by decide +kernel
theorem dX4_spoilWaiting_66 : decode cX4_spoilWaiting 66 = .ok (.iload 5, 2) := by decide +kernel
theorem dX4_spoilWaiting_68 : decode cX4_spoilWaiting 68 = .ok (.iastore, 1) := by decide +kernel
theorem dX4_spoilWaiting_69 : decode cX4_spoilWaiting 69 = .ok (.iinc 3 1, 3) := by decide +kernel
theorem dX4_spoilWaiting_72 : decode cX4_spoilWaiting 72 = .ok (.iinc 4 1, 3) := by decide +kernel
theorem dX4_spoilWaiting_75 : decode cX4_spoilWaiting 75 = .ok (.goto (-70), 3) := by decide +kernel
theorem dX4_spoilWaiting_78 : decode cX4_spoilWaiting 78 = .ok (.aload_n 0, 1) := by decide +kernel
theorem dX4_spoilWaiting_79 : decode cX4_spoilWaiting 79 = .ok (.iload_n 3, 1) := by decide +kernel
theorem dX4_spoilWaiting_80 : decode cX4_spoilWaiting 80 = .ok (.putfield 108, 3) := by decide +kernel
theorem dX4_spoilWaiting_83 : decode cX4_spoilWaiting 83 = .ok (.return_, 1) := by decide +kernel
theorem dX4_bakeWaiting_0 : decode cX4_bakeWaiting 0 = .ok (.iconst 0, 1) := by decide +kernel
theorem dX4_bakeWaiting_1 : decode cX4_bakeWaiting 1 = .ok (.istore_n 3, 1) := by decide +kernel
theorem dX4_bakeWaiting_2 : decode cX4_bakeWaiting 2 = .ok (.iconst 0, 1) := by decide +kernel
theorem dX4_bakeWaiting_3 : decode cX4_bakeWaiting 3 = .ok (.istore 4, 2) := by decide +kernel
theorem dX4_bakeWaiting_5 : decode cX4_bakeWaiting 5 = .ok (.iload 4, 2) := by decide +kernel
theorem dX4_bakeWaiting_7 : decode cX4_bakeWaiting 7 = .ok (.aload_n 0, 1) := by decide +kernel
theorem dX4_bakeWaiting_8 : decode cX4_bakeWaiting 8 = .ok (.getfield 108, 3) := by decide +kernel
theorem dX4_bakeWaiting_11 : decode cX4_bakeWaiting 11 = .ok (.if_icmp .ge 122, 3) := by decide +kernel
theorem dX4_bakeWaiting_14 : decode cX4_bakeWaiting 14 = .ok (.aload_n 0, 1) := by decide +kernel
theorem dX4_bakeWaiting_15 : decode cX4_bakeWaiting 15 = .ok (.getfield 35, 3) := by decide +kernel
theorem dX4_bakeWaiting_18 : decode cX4_bakeWaiting 18 = .ok (.iload 4, 2) := by decide +kernel
theorem dX4_bakeWaiting_20 : decode cX4_bakeWaiting 20 = .ok (.iaload, 1) := by decide +kernel
theorem dX4_bakeWaiting_21 : decode cX4_bakeWaiting 21 = .ok (.istore 5, 2) := by decide +kernel
theorem dX4_bakeWaiting_23 : decode cX4_bakeWaiting 23 = .ok (.aload_n 1, 1) := by decide +kernel
theorem dX4_bakeWaiting_24 : decode cX4_bakeWaiting 24 = .ok (.getfield 147, 3) := by decide +kernel
theorem dX4_bakeWaiting_27 : decode cX4_bakeWaiting 27 = .ok (.aload_n 0, 1) := by decide +kernel
theorem dX4_bakeWaiting_28 : decode cX4_bakeWaiting 28 = .ok (.getfield 11, 3) := by decide +kernel
theorem dX4_bakeWaiting_31 : decode cX4_bakeWaiting 31 = .ok (.iload 5, 2) := by decide +kernel
theorem dX4_bakeWaiting_33 : decode cX4_bakeWaiting 33 = .ok (.iaload, 1) := by decide +kernel
theorem dX4_bakeWaiting_34 : decode cX4_bakeWaiting 34 = .ok (.aaload, 1) := by decide +kernel
theorem dX4_bakeWaiting_35 : decode cX4_bakeWaiting 35 = .ok (.astore 6, 2) := by decide +kernel
theorem dX4_bakeWaiting_37 : decode cX4_bakeWaiting 37 = .ok (.aload_n 0, 1) := by decide +kernel
theorem dX4_bakeWaiting_38 : decode cX4_bakeWaiting 38 = .ok (.aload_n 1, 1) := by decide +kernel
theorem dX4_bakeWaiting_39 : decode cX4_bakeWaiting 39 = .ok (.aload 6, 2) := by decide +kernel
theorem dX4_bakeWaiting_41 : decode cX4_bakeWaiting 41 = .ok (.getfield 156, 3) := by decide +kernel
theorem dX4_bakeWaiting_44 : decode cX4_bakeWaiting 44 = .ok (.iload_n 2, 1) := by decide +kernel
theorem dX4_bakeWaiting_45 : decode cX4_bakeWaiting 45 = .ok (.invokevirtual 157, 3) := by decide +kernel
theorem dX4_bakeWaiting_48 : decode cX4_bakeWaiting 48 = .ok (.istore 7, 2) := by decide +kernel
theorem dX4_bakeWaiting_50 : decode cX4_bakeWaiting 50 = .ok (.iload 7, 2) := by decide +kernel
theorem dX4_bakeWaiting_52 : decode cX4_bakeWaiting 52 = .ok (.iconst (-1), 1) := by decide +kernel
theorem dX4_bakeWaiting_53 : decode cX4_bakeWaiting 53 = .ok (.if_icmp .eq 52, 3) := by decide +kernel
theorem dX4_bakeWaiting_56 : decode cX4_bakeWaiting 56 = .ok (.aload_n 0, 1) := by decide +kernel
theorem dX4_bakeWaiting_57 : decode cX4_bakeWaiting 57 = .ok (.getfield 15, 3) := by decide +kernel
theorem dX4_bakeWaiting_60 : decode cX4_bakeWaiting 60 = .ok (.iload 5, 2) := by decide +kernel
theorem dX4_bakeWaiting_62 : decode cX4_bakeWaiting 62 = .ok (.iload 7, 2) := by decide +kernel
theorem dX4_bakeWaiting_64 : decode cX4_bakeWaiting 64 = .ok (.iastore, 1) := by decide +kernel
theorem dX4_bakeWaiting_65 : decode cX4_bakeWaiting 65 = .ok (.aload_n 0, 1) := by decide +kernel
theorem dX4_bakeWaiting_66 : decode cX4_bakeWaiting 66 = .ok (.getfield 49, 3) := by decide +kernel
theorem dX4_bakeWaiting_69 : decode cX4_bakeWaiting 69 = .ok (.iload 7, 2) := by decide +kernel
theorem dX4_bakeWaiting_71 : decode cX4_bakeWaiting 71 = .ok (.dup2, 1) := by decide +kernel
theorem dX4_bakeWaiting_72 : decode cX4_bakeWaiting 72 = .ok (.iaload, 1) := by decide +kernel
theorem dX4_bakeWaiting_73 : decode cX4_bakeWaiting 73 = .ok (.iconst 1, 1) := by decide +kernel
theorem dX4_bakeWaiting_74 : decode cX4_bakeWaiting 74 = .ok (.iadd, 1) := by decide +kernel
theorem dX4_bakeWaiting_75 : decode cX4_bakeWaiting 75 = .ok (.iastore, 1) := by decide +kernel
theorem dX4_bakeWaiting_76 : decode cX4_bakeWaiting 76 = .ok (.aload_n 0, 1) := by decide +kernel
theorem dX4_bakeWaiting_77 : decode cX4_bakeWaiting 77 = .ok (.getfield 20, 3) := by decide +kernel
theorem dX4_bakeWaiting_80 : decode cX4_bakeWaiting 80 = .ok (.iconst 4, 1) := by decide +kernel
theorem dX4_bakeWaiting_81 : decode cX4_bakeWaiting 81 = .ok (.aaload, 1) := by decide +kernel
theorem dX4_bakeWaiting_82 : decode cX4_bakeWaiting 82 = .ok (.iload 5, 2) := by decide +kernel
theorem dX4_bakeWaiting_84 : decode cX4_bakeWaiting 84 = .ok (.iload_n 2, 1) := by decide +kernel
theorem dX4_bakeWaiting_85 : decode cX4_bakeWaiting 85 = .ok (.iastore, 1) := by decide +kernel
theorem dX4_bakeWaiting_86 : decode cX4_bakeWaiting 86 = .ok (.aload_n 0, 1) := by decide +kernel
theorem dX4_bakeWaiting_87 : decode cX4_bakeWaiting 87 = .ok (.getfield 20, 3) := by decide +kernel
theorem dX4_bakeWaiting_90 : decode cX4_bakeWaiting 90 = .ok (.iconst 5, 1) := by decide +kernel
theorem dX4_bakeWaiting_91 : decode cX4_bakeWaiting 91 = .ok (.aaload, 1) := by decide +kernel
theorem dX4_bakeWaiting_92 : decode cX4_bakeWaiting 92 = .ok (.iload 5, 2) := by decide +kernel
theorem dX4_bakeWaiting_94 : decode cX4_bakeWaiting 94 = .ok (.iload_n 2, 1) := by decide +kernel
theorem dX4_bakeWaiting_95 : decode cX4_bakeWaiting 95 = .ok (.aload 6, 2) := by decide +kernel
theorem dX4_bakeWaiting_97 : decode cX4_bakeWaiting 97 = .ok (.getfield 161, 3) := by decide +kernel
theorem dX4_bakeWaiting_100 : decode cX4_bakeWaiting 100 = .ok (.iadd, 1) := by decide +kernel
theorem dX4_bakeWaiting_101 : decode cX4_bakeWaiting 101 = .ok (.iastore, 1) := by decide +kernel
theorem dX4_bakeWaiting_102 : decode cX4_bakeWaiting 102 = .ok (.goto 25, 3) := by decide +kernel
theorem dX4_bakeWaiting_105 : decode cX4_bakeWaiting 105 = .ok (.aload_n 0, 1) := by decide +kernel
theorem dX4_bakeWaiting_106 : decode cX4_bakeWaiting 106 = .ok (.aload_n 1, 1) := by decide +kernel
theorem dX4_bakeWaiting_107 : decode cX4_bakeWaiting 107 = .ok (.aload 6, 2) := by decide +kernel
theorem dX4_bakeWaiting_109 : decode cX4_bakeWaiting 109 = .ok (.getfield 156, 3) := by decide +kernel
theorem dX4_bakeWaiting_112 : decode cX4_bakeWaiting 112 = .ok (.iload_n 2, 1) := by decide +kernel
theorem dX4_bakeWaiting_113 : decode cX4_bakeWaiting 113 = .ok (.invokevirtual 164, 3) := by decide +kernel
theorem dX4_bakeWaiting_116 : decode cX4_bakeWaiting 116 = .ok (.aload_n 0, 1) := by decide +kernel
theorem dX4_bakeWaiting_117 : decode cX4_bakeWaiting 117 = .ok (.getfield 35, 3) := by decide +kernel
theorem dX4_bakeWaiting_120 : decode cX4_bakeWaiting 120 = .ok (.iload_n 3, 1) := by decide +kernel
theorem dX4_bakeWaiting_121 : decode cX4_bakeWaiting 121 = .ok (.iload 5, 2) := by decide +kernel
theorem dX4_bakeWaiting_123 : decode cX4_bakeWaiting 123 = .ok (.iastore, 1) := by decide +kernel
theorem dX4_bakeWaiting_124 : decode cX4_bakeWaiting 124 = .ok (.iinc 3 1, 3) := by decide +kernel
theorem dX4_bakeWaiting_127 : decode cX4_bakeWaiting 127 = .ok (.iinc 4 1, 3) := by decide +kernel
theorem dX4_bakeWaiting_130 : decode cX4_bakeWaiting 130 = .ok (.goto (-125), 3) := by decide +kernel
theorem dX4_bakeWaiting_133 : decode cX4_bakeWaiting 133 = .ok (.aload_n 0, 1) := by decide +kernel
theorem dX4_bakeWaiting_134 : decode cX4_bakeWaiting 134 = .ok (.iload_n 3, 1) := by decide +kernel
theorem dX4_bakeWaiting_135 : decode cX4_bakeWaiting 135 = .ok (.putfield 108, 3) := by decide +kernel
theorem dX4_bakeWaiting_138 : decode cX4_bakeWaiting 138 = .ok (.return_, 1) := by decide +kernel
theorem dX4_freeOven_0 : decode cX4_freeOven 0 = .ok (.iconst 0, 1) := by decide +kernel
theorem dX4_freeOven_1 : decode cX4_freeOven 1 = .ok (.istore 4, 2) := by decide +kernel
theorem dX4_freeOven_3 : decode cX4_freeOven 3 = .ok (.iload 4, 2) := by decide +kernel
theorem dX4_freeOven_5 : decode cX4_freeOven 5 = .ok (.aload_n 1, 1) := by decide +kernel
theorem dX4_freeOven_6 : decode cX4_freeOven 6 = .ok (.getfield 117, 3) := by decide +kernel
theorem dX4_freeOven_9 : decode cX4_freeOven 9 = .ok (.if_icmp .ge 66, 3) := by decide +kernel
theorem dX4_freeOven_12 : decode cX4_freeOven 12 = .ok (.aload_n 1, 1) := by decide +kernel
theorem dX4_freeOven_13 : decode cX4_freeOven 13 = .ok (.getfield 120, 3) := by decide +kernel
theorem dX4_freeOven_16 : decode cX4_freeOven 16 = .ok (.iload 4, 2) := by decide +kernel
theorem dX4_freeOven_18 : decode cX4_freeOven 18 = .ok (.aaload, 1) := by decide +kernel
theorem dX4_freeOven_19 : decode cX4_freeOven 19 = .ok (.astore 5, 2) := by decide +kernel
theorem dX4_freeOven_21 : decode cX4_freeOven 21 = .ok (.aload 5, 2) := by decide +kernel
theorem dX4_freeOven_23 : decode cX4_freeOven 23 = .ok (.getfield 168, 3) := by decide +kernel
theorem dX4_freeOven_26 : decode cX4_freeOven 26 = .ok (.ifCond .ne 43, 3) := by decide +kernel
theorem dX4_freeOven_29 : decode cX4_freeOven 29 = .ok (.aload_n 0, 1) := by decide +kernel
theorem dX4_freeOven_30 : decode cX4_freeOven 30 = .ok (.getfield 43, 3) := by decide +kernel
theorem dX4_freeOven_33 : decode cX4_freeOven 33 = .ok (.iload 4, 2) := by decide +kernel
theorem dX4_freeOven_35 : decode cX4_freeOven 35 = .ok (.iaload, 1) := by decide +kernel
theorem dX4_freeOven_36 : decode cX4_freeOven 36 = .ok (.iload_n 3, 1) := by decide +kernel
theorem dX4_freeOven_37 : decode cX4_freeOven 37 = .ok (.if_icmp .gt 32, 3) := by decide +kernel
theorem dX4_freeOven_40 : decode cX4_freeOven 40 = .ok (.aload_n 0, 1) := by decide +kernel
theorem dX4_freeOven_41 : decode cX4_freeOven 41 = .ok (.getfield 40, 3) := by decide +kernel
theorem dX4_freeOven_44 : decode cX4_freeOven 44 = .ok (.iload 4, 2) := by decide +kernel
theorem dX4_freeOven_46 : decode cX4_freeOven 46 = .ok (.iaload, 1) := by decide +kernel
theorem dX4_freeOven_47 : decode cX4_freeOven 47 = .ok (.iload_n 2, 1) := by decide +kernel
theorem dX4_freeOven_48 : decode cX4_freeOven 48 = .ok (.if_icmp .ne 21, 3) := by decide +kernel
theorem dX4_freeOven_51 : decode cX4_freeOven 51 = .ok (.aload_n 0, 1) := by decide +kernel
theorem dX4_freeOven_52 : decode cX4_freeOven 52 = .ok (.getfield 49, 3) := by decide +kernel
theorem dX4_freeOven_55 : decode cX4_freeOven 55 = .ok (.iload 4, 2) := by decide +kernel
theorem dX4_freeOven_57 : decode cX4_freeOven 57 = .ok (.iaload, 1) := by decide +kernel
theorem dX4_freeOven_58 : decode cX4_freeOven 58 = .ok (.aload 5, 2) := by decide +kernel
theorem dX4_freeOven_60 : decode cX4_freeOven 60 = .ok (.getfield 172, 3) := by decide +kernel
theorem dX4_freeOven_63 : decode cX4_freeOven 63 = .ok (.if_icmp .ge 6, 3) := by decide +kernel
theorem dX4_freeOven_66 : decode cX4_freeOven 66 = .ok (.iload 4, 2) := by decide +kernel
theorem dX4_freeOven_68 : decode cX4_freeOven 68 = .ok (.ireturn, 1) := by decide +kernel
theorem dX4_freeOven_69 : decode cX4_freeOven 69 = .ok (.iinc 4 1, 3) := by decide +kernel
theorem dX4_freeOven_72 : decode cX4_freeOven 72 = .ok (.goto (-69), 3) := by decide +kernel
theorem dX4_freeOven_75 : decode cX4_freeOven 75 = .ok (.iconst (-1), 1) := by decide +kernel
theorem dX4_freeOven_76 : decode cX4_freeOven 76 = .ok (.ireturn, 1) := by decide +kernel
theorem dX4_changeAnOven_0 : decode cX4_changeAnOven 0 = .ok (.iconst (-1), 1) := by decide +kernel
theorem dX4_changeAnOven_1 : decode cX4_changeAnOven 1 = .ok (.istore 4, 2) := by decide +kernel
theorem dX4_changeAnOven_3 : decode cX4_changeAnOven 3 = .ok (.iconst 0, 1) := by decide +kernel
theorem dX4_changeAnOven_4 : decode cX4_changeAnOven 4 = .ok (.istore 5, 2) := by decide +kernel
theorem dX4_changeAnOven_6 : decode cX4_changeAnOven 6 = .ok (.iconst 0, 1) := by decide +kernel
theorem dX4_changeAnOven_7 : decode cX4_changeAnOven 7 = .ok (.istore 6, 2) := by decide +kernel
theorem dX4_changeAnOven_9 : decode cX4_changeAnOven 9 = .ok (.iload 6, 2) := by decide +kernel
theorem dX4_changeAnOven_11 : decode cX4_changeAnOven 11 = .ok (.aload_n 1, 1) := by decide +kernel
theorem dX4_changeAnOven_12 : decode cX4_changeAnOven 12 = .ok (.getfield 117, 3) := by decide +kernel
theorem dX4_changeAnOven_15 : decode cX4_changeAnOven 15 = .ok (.if_icmp .ge 103, 3) := by decide +kernel
theorem dX4_changeAnOven_18 : decode cX4_changeAnOven 18 = .ok (.aload_n 0, 1) := by decide +kernel
theorem dX4_changeAnOven_19 : decode cX4_changeAnOven 19 = .ok (.getfield 43, 3) := by decide +kernel
theorem dX4_changeAnOven_22 : decode cX4_changeAnOven 22 = .ok (.iload 6, 2) := by decide +kernel
theorem dX4_changeAnOven_24 : decode cX4_changeAnOven 24 = .ok (.iaload, 1) := by decide +kernel
theorem dX4_changeAnOven_25 : decode cX4_changeAnOven 25 = .ok (.iload_n 3, 1) := by decide +kernel
theorem dX4_changeAnOven_26 : decode cX4_changeAnOven 26 = .ok (.if_icmp .le 15, 3) := by decide +kernel
theorem dX4_changeAnOven_29 : decode cX4_changeAnOven 29 = .ok (.aload_n 0, 1) := by decide +kernel
theorem dX4_changeAnOven_30 : decode cX4_changeAnOven 30 = .ok (.getfield 40, 3) := by decide +kernel
theorem dX4_changeAnOven_33 : decode cX4_changeAnOven 33 = .ok (.iload 6, 2) := by decide +kernel
theorem dX4_changeAnOven_35 : decode cX4_changeAnOven 35 = .ok (.iaload, 1) := by decide +kernel
theorem dX4_changeAnOven_36 : decode cX4_changeAnOven 36 = .ok (.iload_n 2, 1) := by decide +kernel
theorem dX4_changeAnOven_37 : decode cX4_changeAnOven 37 = .ok (.if_icmp .ne 75, 3) := by decide +kernel
theorem dX4_changeAnOven_40 : decode cX4_changeAnOven 40 = .ok (.return_, 1) := by decide +kernel
theorem dX4_changeAnOven_41 : decode cX4_changeAnOven 41 = .ok (.aload_n 1, 1) := by decide +kernel
theorem dX4_changeAnOven_42 : decode cX4_changeAnOven 42 = .ok (.getfield 120, 3) := by decide +kernel
theorem dX4_changeAnOven_45 : decode cX4_changeAnOven 45 = .ok (.iload 6, 2) := by decide +kernel
theorem dX4_changeAnOven_47 : decode cX4_changeAnOven 47 = .ok (.aaload, 1) := by decide +kernel
theorem dX4_changeAnOven_48 : decode cX4_changeAnOven 48 = .ok (.getfield 168, 3) := by decide +kernel
theorem dX4_changeAnOven_51 : decode cX4_changeAnOven 51 = .ok (.ifCond .ne 61, 3) := by decide +kernel
theorem dX4_changeAnOven_54 : decode cX4_changeAnOven 54 = .ok (.aload_n 0, 1) := by decide +kernel
theorem dX4_changeAnOven_55 : decode cX4_changeAnOven 55 = .ok (.getfield 49, 3) := by decide +kernel
theorem dX4_changeAnOven_58 : decode cX4_changeAnOven 58 = .ok (.iload 6, 2) := by decide +kernel
theorem dX4_changeAnOven_60 : decode cX4_changeAnOven 60 = .ok (.iaload, 1) := by decide +kernel
theorem dX4_changeAnOven_61 : decode cX4_changeAnOven 61 = .ok (.ifCond .ne 51, 3) := by decide +kernel
theorem dX4_changeAnOven_64 : decode cX4_changeAnOven 64 = .ok (.aload_n 0, 1) := by decide +kernel
theorem dX4_changeAnOven_65 : decode cX4_changeAnOven 65 = .ok (.getfield 40, 3) := by decide +kernel
theorem dX4_changeAnOven_68 : decode cX4_changeAnOven 68 = .ok (.iload 6, 2) := by decide +kernel
theorem dX4_changeAnOven_70 : decode cX4_changeAnOven 70 = .ok (.iaload, 1) := by decide +kernel
theorem dX4_changeAnOven_71 : decode cX4_changeAnOven 71 = .ok (.iload_n 2, 1) := by decide +kernel
theorem dX4_changeAnOven_72 : decode cX4_changeAnOven 72 = .ok (.isub, 1) := by decide +kernel
theorem dX4_changeAnOven_73 : decode cX4_changeAnOven 73 = .ok (.invokestatic 175, 3) := by decide +kernel
theorem dX4_changeAnOven_76 : decode cX4_changeAnOven 76 = .ok (.aload_n 1, 1) := by decide +kernel
theorem dX4_changeAnOven_77 : decode cX4_changeAnOven 77 = .ok (.getfield 120, 3) := by decide +kernel
theorem dX4_changeAnOven_80 : decode cX4_changeAnOven 80 = .ok (.iload 6, 2) := by decide +kernel
theorem dX4_changeAnOven_82 : decode cX4_changeAnOven 82 = .ok (.aaload, 1) := by decide +kernel
theorem dX4_changeAnOven_83 : decode cX4_changeAnOven 83 = .ok (.getfield 178, 3) := by decide +kernel
theorem dX4_changeAnOven_86 : decode cX4_changeAnOven 86 = .ok (.invokestatic 181, 3) := by decide +kernel
theorem dX4_changeAnOven_89 : decode cX4_changeAnOven 89 = .ok (.istore 7, 2) := by decide +kernel
theorem dX4_changeAnOven_91 : decode cX4_changeAnOven 91 = .ok (.iload 4, 2) := by decide +kernel
theorem dX4_changeAnOven_93 : decode cX4_changeAnOven 93 = .ok (.iconst (-1), 1) := by decide +kernel
theorem dX4_changeAnOven_94 : decode cX4_changeAnOven 94 = .ok (.if_icmp .eq 10, 3) := by decide +kernel
theorem dX4_changeAnOven_97 : decode cX4_changeAnOven 97 = .ok (.iload 7, 2) := by decide +kernel
theorem dX4_changeAnOven_99 : decode cX4_changeAnOven 99 = .ok (.iload 5, 2) := by decide +kernel
theorem dX4_changeAnOven_101 : decode cX4_changeAnOven 101 = .ok (.if_icmp .ge 11, 3) := by decide +kernel
theorem dX4_changeAnOven_104 : decode cX4_changeAnOven 104 = .ok (.iload 6, 2) := by decide +kernel
theorem dX4_changeAnOven_106 : decode cX4_changeAnOven 106 = .ok (.istore 4, 2) := by decide +kernel
theorem dX4_changeAnOven_108 : decode cX4_changeAnOven 108 = .ok (.iload 7, 2) := by decide +kernel
theorem dX4_changeAnOven_110 : decode cX4_changeAnOven 110 = .ok (.istore 5, 2) := by decide +kernel
theorem dX4_changeAnOven_112 : decode cX4_changeAnOven 112 = .ok (.iinc 6 1, 3) := by decide +kernel
theorem dX4_changeAnOven_115 : decode cX4_changeAnOven 115 = .ok (.goto (-106), 3) := by decide +kernel
theorem dX4_changeAnOven_118 : decode cX4_changeAnOven 118 = .ok (.iload 4, 2) := by decide +kernel
theorem dX4_changeAnOven_120 : decode cX4_changeAnOven 120 = .ok (.iconst (-1), 1) := by decide +kernel
theorem dX4_changeAnOven_121 : decode cX4_changeAnOven 121 = .ok (.if_icmp .eq 34, 3) := by decide +kernel
theorem dX4_changeAnOven_124 : decode cX4_changeAnOven 124 = .ok (.aload_n 0, 1) := by decide +kernel
theorem dX4_changeAnOven_125 : decode cX4_changeAnOven 125 = .ok (.getfield 40, 3) := by decide +kernel
theorem dX4_changeAnOven_128 : decode cX4_changeAnOven 128 = .ok (.iload 4, 2) := by decide +kernel
theorem dX4_changeAnOven_130 : decode cX4_changeAnOven 130 = .ok (.iload_n 2, 1) := by decide +kernel
theorem dX4_changeAnOven_131 : decode cX4_changeAnOven 131 = .ok (.iastore, 1) := by decide +kernel
theorem dX4_changeAnOven_132 : decode cX4_changeAnOven 132 = .ok (.aload_n 0, 1) := by decide +kernel
theorem dX4_changeAnOven_133 : decode cX4_changeAnOven 133 = .ok (.getfield 43, 3) := by decide +kernel
theorem dX4_changeAnOven_136 : decode cX4_changeAnOven 136 = .ok (.iload 4, 2) := by decide +kernel
theorem dX4_changeAnOven_138 : decode cX4_changeAnOven 138 = .ok (.iload_n 3, 1) := by decide +kernel
theorem dX4_changeAnOven_139 : decode cX4_changeAnOven 139 = .ok (.iload 5, 2) := by decide +kernel
theorem dX4_changeAnOven_141 : decode cX4_changeAnOven 141 = .ok (.iadd, 1) := by decide +kernel
theorem dX4_changeAnOven_142 : decode cX4_changeAnOven 142 = .ok (.iastore, 1) := by decide +kernel
theorem dX4_changeAnOven_143 : decode cX4_changeAnOven 143 = .ok (.aload_n 0, 1) := by decide +kernel
theorem dX4_changeAnOven_144 : decode cX4_changeAnOven 144 = .ok (.getfield 46, 3) := by decide +kernel
theorem dX4_changeAnOven_147 : decode cX4_changeAnOven 147 = .ok (.iload 4, 2) := by decide +kernel
theorem dX4_changeAnOven_149 : decode cX4_changeAnOven 149 = .ok (.dup2, 1) := by decide +kernel
theorem dX4_changeAnOven_150 : decode cX4_changeAnOven 150 = .ok (.iaload, 1) := by decide +kernel
theorem dX4_changeAnOven_151 : decode cX4_changeAnOven 151 = .ok (.iload 5, 2) := by decide +kernel
theorem dX4_changeAnOven_153 : decode cX4_changeAnOven 153 = .ok (.iadd, 1) := by decide +kernel
theorem dX4_changeAnOven_154 : decode cX4_changeAnOven 154 = .ok (.iastore, 1) := by decide +kernel
theorem dX4_changeAnOven_155 : decode cX4_changeAnOven 155 = .ok (.return_, 1) := by decide +kernel
theorem dX4_shapeWaiting_0 : decode cX4_shapeWaiting 0 = .ok (.aload_n 0, 1) := by decide +kernel
theorem dX4_shapeWaiting_1 : decode cX4_shapeWaiting 1 = .ok (.getfield 105, 3) := by decide +kernel
theorem dX4_shapeWaiting_4 : decode cX4_shapeWaiting 4 = .ok (.iconst 0, 1) := by decide +kernel
theorem dX4_shapeWaiting_5 : decode cX4_shapeWaiting 5 = .ok (.aload_n 1, 1) := by decide +kernel
theorem dX4_shapeWaiting_6 : decode cX4_shapeWaiting 6 = .ok (.getfield 184, 3) := by decide +kernel
theorem dX4_shapeWaiting_9 : decode cX4_shapeWaiting 9 = .ok (.aload_n 0, 1) := by decide +kernel
theorem dX4_shapeWaiting_10 : decode cX4_shapeWaiting 10 = .ok (.iconst 2, 1) := by decide +kernel
theorem dX4_shapeWaiting_11 : decode cX4_shapeWaiting 11 = .ok (.iload_n 2, 1) := by decide +kernel
theorem dX4_shapeWaiting_12 : decode cX4_shapeWaiting 12 = .ok (.invokevirtual 187, 3) := by decide +kernel
theorem dX4_shapeWaiting_15 : decode cX4_shapeWaiting 15 = .ok (.isub, 1) := by decide +kernel
theorem dX4_shapeWaiting_16 : decode cX4_shapeWaiting 16 = .ok (.invokestatic 89, 3) := by decide +kernel
theorem dX4_shapeWaiting_19 : decode cX4_shapeWaiting 19 = .ok (.invokestatic 141, 3) := by decide +kernel
theorem dX4_shapeWaiting_22 : decode cX4_shapeWaiting 22 = .ok (.istore_n 3, 1) := by decide +kernel
theorem dX4_shapeWaiting_23 : decode cX4_shapeWaiting 23 = .ok (.iconst 0, 1) := by decide +kernel
theorem dX4_shapeWaiting_24 : decode cX4_shapeWaiting 24 = .ok (.istore 4, 2) := by decide +kernel
theorem dX4_shapeWaiting_26 : decode cX4_shapeWaiting 26 = .ok (.iload 4, 2) := by decide +kernel
theorem dX4_shapeWaiting_28 : decode cX4_shapeWaiting 28 = .ok (.iload_n 3, 1) := by decide +kernel
theorem dX4_shapeWaiting_29 : decode cX4_shapeWaiting 29 = .ok (.if_icmp .ge 84, 3) := by decide +kernel
theorem dX4_shapeWaiting_32 : decode cX4_shapeWaiting 32 = .ok (.aload_n 0, 1) := by decide +kernel
theorem dX4_shapeWaiting_33 : decode cX4_shapeWaiting 33 = .ok (.getfield 32, 3) := by decide +kernel
theorem dX4_shapeWaiting_36 : decode cX4_shapeWaiting 36 = .ok (.iload 4, 2) := by decide +kernel
theorem dX4_shapeWaiting_38 : decode cX4_shapeWaiting 38 = .ok (.iaload, 1) := by decide +kernel
theorem dX4_shapeWaiting_39 : decode cX4_shapeWaiting 39 = .ok (.istore 5, 2) := by decide +kernel
theorem dX4_shapeWaiting_41 : decode cX4_shapeWaiting 41 = .ok (.aload_n 1, 1) := by decide +kernel
theorem dX4_shapeWaiting_42 : decode cX4_shapeWaiting 42 = .ok (.getfield 147, 3) := by decide +kernel
theorem dX4_shapeWaiting_45 : decode cX4_shapeWaiting 45 = .ok (.aload_n 0, 1) := by decide +kernel
theorem dX4_shapeWaiting_46 : decode cX4_shapeWaiting 46 = .ok (.getfield 11, 3) := by decide +kernel
theorem dX4_shapeWaiting_49 : decode cX4_shapeWaiting 49 = .ok (.iload 5, 2) := by decide +kernel
theorem dX4_shapeWaiting_51 : decode cX4_shapeWaiting 51 = .ok (.iaload, 1) := by decide +kernel
theorem dX4_shapeWaiting_52 : decode cX4_shapeWaiting 52 = .ok (.aaload, 1) := by decide +kernel
theorem dX4_shapeWaiting_53 : decode cX4_shapeWaiting 53 = .ok (.astore 6, 2) := by decide +kernel
theorem dX4_shapeWaiting_55 : decode cX4_shapeWaiting 55 = .ok (.aload_n 0, 1) := by decide +kernel
theorem dX4_shapeWaiting_56 : decode cX4_shapeWaiting 56 = .ok (.getfield 20, 3) := by decide +kernel
theorem dX4_shapeWaiting_59 : decode cX4_shapeWaiting 59 = .ok (.iconst 2, 1) := by decide +kernel
theorem dX4_shapeWaiting_60 : decode cX4_shapeWaiting 60 = .ok (.aaload, 1) := by decide +kernel
theorem dX4_shapeWaiting_61 : decode cX4_shapeWaiting 61 = .ok (.iload 5, 2) := by decide +kernel
theorem dX4_shapeWaiting_63 : decode cX4_shapeWaiting 63 = .ok (.iload_n 2, 1) := by decide +kernel
theorem dX4_shapeWaiting_64 : decode cX4_shapeWaiting 64 = .ok (.iastore, 1) := by decide +kernel
theorem dX4_shapeWaiting_65 : decode cX4_shapeWaiting 65 = .ok (.aload_n 0, 1) := by decide +kernel
theorem dX4_shapeWaiting_66 : decode cX4_shapeWaiting 66 = .ok (.getfield 20, 3) := by decide +kernel
theorem dX4_shapeWaiting_69 : decode cX4_shapeWaiting 69 = .ok (.iconst 3, 1) := by decide +kernel
theorem dX4_shapeWaiting_70 : decode cX4_shapeWaiting 70 = .ok (.aaload, 1) := by decide +kernel
theorem dX4_shapeWaiting_71 : decode cX4_shapeWaiting 71 = .ok (.iload 5, 2) := by decide +kernel
theorem dX4_shapeWaiting_73 : decode cX4_shapeWaiting 73 = .ok (.iload_n 2, 1) := by decide +kernel
theorem dX4_shapeWaiting_74 : decode cX4_shapeWaiting 74 = .ok (.aload 6, 2) := by decide +kernel
theorem dX4_shapeWaiting_76 : decode cX4_shapeWaiting 76 = .ok (.getfield 190, 3) := by decide +kernel
theorem dX4_shapeWaiting_79 : decode cX4_shapeWaiting 79 = .ok (.iadd, 1) := by decide +kernel
theorem dX4_shapeWaiting_80 : decode cX4_shapeWaiting 80 = .ok (.iastore, 1) := by decide +kernel
theorem dX4_shapeWaiting_81 : decode cX4_shapeWaiting 81 = .ok (.aload_n 0, 1) := by decide +kernel
theorem dX4_shapeWaiting_82 : decode cX4_shapeWaiting 82 = .ok (.getfield 26, 3) := by decide +kernel
theorem dX4_shapeWaiting_85 : decode cX4_shapeWaiting 85 = .ok (.iload 5, 2) := by decide +kernel
theorem dX4_shapeWaiting_87 : decode cX4_shapeWaiting 87 = .ok (.aload_n 0, 1) := by decide +kernel
theorem dX4_shapeWaiting_88 : decode cX4_shapeWaiting 88 = .ok (.getfield 20, 3) := by decide +kernel
theorem dX4_shapeWaiting_91 : decode cX4_shapeWaiting 91 = .ok (.iconst 3, 1) := by decide +kernel
theorem dX4_shapeWaiting_92 : decode cX4_shapeWaiting 92 = .ok (.aaload, 1) := by decide +kernel
theorem dX4_shapeWaiting_93 : decode cX4_shapeWaiting 93 = .ok (.iload 5, 2) := by decide +kernel
theorem dX4_shapeWaiting_95 : decode cX4_shapeWaiting 95 = .ok (.iaload, 1) := by decide +kernel
theorem dX4_shapeWaiting_96 : decode cX4_shapeWaiting 96 = .ok (.aload_n 1, 1) := by decide +kernel
theorem dX4_shapeWaiting_97 : decode cX4_shapeWaiting 97 = .ok (.aload 6, 2) := by decide +kernel
theorem dX4_shapeWaiting_99 : decode cX4_shapeWaiting 99 = .ok (.getfield 193, 3) := by decide +kernel
theorem dX4_shapeWaiting_102 : decode cX4_shapeWaiting 102 = .ok (.invokevirtual 196, 3) := by decide +kernel
theorem dX4_shapeWaiting_105 : decode cX4_shapeWaiting 105 = .ok (.iadd, 1) := by decide +kernel
theorem dX4_shapeWaiting_106 : decode cX4_shapeWaiting 106 = .ok (.iastore, 1) := by decide +kernel
theorem dX4_shapeWaiting_107 : decode cX4_shapeWaiting 107 = .ok (.iinc 4 1, 3) := by decide +kernel
theorem dX4_shapeWaiting_110 : decode cX4_shapeWaiting 110 = .ok (.goto (-84), 3) := by decide +kernel
theorem dX4_shapeWaiting_113 : decode cX4_shapeWaiting 113 = .ok (.aload_n 0, 1) := by decide +kernel
theorem dX4_shapeWaiting_114 : decode cX4_shapeWaiting 114 = .ok (.dup, 1) := by decide +kernel
theorem dX4_shapeWaiting_115 : decode cX4_shapeWaiting 115 = .ok (.getfield 105, 3) := by decide +kernel
theorem dX4_shapeWaiting_118 : decode cX4_shapeWaiting 118 = .ok (.iload_n 3, 1) := by decide +kernel
theorem dX4_shapeWaiting_119 : decode cX4_shapeWaiting 119 = .ok (.isub, 1) := by decide +kernel
theorem dX4_shapeWaiting_120 : decode cX4_shapeWaiting 120 = .ok (.putfield 105, 3) := by decide +kernel
theorem dX4_shapeWaiting_123 : decode cX4_shapeWaiting 123 = .ok (.aload_n 0, 1) := by decide +kernel
theorem dX4_shapeWaiting_124 : decode cX4_shapeWaiting 124 = .ok (.getfield 32, 3) := by decide +kernel
theorem dX4_shapeWaiting_127 : decode cX4_shapeWaiting 127 = .ok (.iload_n 3, 1) := by decide +kernel
theorem dX4_shapeWaiting_128 : decode cX4_shapeWaiting 128 = .ok (.aload_n 0, 1) := by decide +kernel
theorem dX4_shapeWaiting_129 : decode cX4_shapeWaiting 129 = .ok (.getfield 32, 3) := by decide +kernel
theorem dX4_shapeWaiting_132 : decode cX4_shapeWaiting 132 = .ok (.iconst 0, 1) := by decide +kernel
theorem dX4_shapeWaiting_133 : decode cX4_shapeWaiting 133 = .ok (.aload_n 0, 1) := by decide +kernel
theorem dX4_shapeWaiting_134 : decode cX4_shapeWaiting 134 = .ok (.getfield 105, 3) := by decide +kernel
theorem dX4_shapeWaiting_137 : decode cX4_shapeWaiting 137 = .ok (.invokestatic 199, 3) := by decide +kernel
theorem dX4_shapeWaiting_140 : decode cX4_shapeWaiting 140 = .ok (.return_, 1) := by decide +kernel
theorem dX4_mixNext_0 : decode cX4_mixNext 0 = .ok (.aload_n 0, 1) := by decide +kernel
theorem dX4_mixNext_1 : decode cX4_mixNext 1 = .ok (.getfield 82, 3) := by decide +kernel
theorem dX4_mixNext_4 : decode cX4_mixNext 4 = .ok (.aload_n 0, 1) := by decide +kernel
theorem dX4_mixNext_5 : decode cX4_mixNext 5 = .ok (.getfield 102, 3) := by decide +kernel
theorem dX4_mixNext_8 : decode cX4_mixNext 8 = .ok (.iconst 0, 1) := by decide +kernel
theorem dX4_mixNext_9 : decode cX4_mixNext 9 = .ok (.aload_n 1, 1) := by decide +kernel
theorem dX4_mixNext_10 : decode cX4_mixNext 10 = .ok (.getfield 205, 3) := by decide +kernel
theorem dX4_mixNext_13 : decode cX4_mixNext 13 = .ok (.aload_n 0, 1) := by decide +kernel
theorem dX4_mixNext_14 : decode cX4_mixNext 14 = .ok (.iconst 0, 1) := by decide +kernel
theorem dX4_mixNext_15 : decode cX4_mixNext 15 = .ok (.iload_n 2, 1) := by decide +kernel
theorem dX4_mixNext_16 : decode cX4_mixNext 16 = .ok (.invokevirtual 187, 3) := by decide +kernel
theorem dX4_mixNext_19 : decode cX4_mixNext 19 = .ok (.isub, 1) := by decide +kernel
theorem dX4_mixNext_20 : decode cX4_mixNext 20 = .ok (.invokestatic 89, 3) := by decide +kernel
theorem dX4_mixNext_23 : decode cX4_mixNext 23 = .ok (.iadd, 1) := by decide +kernel
theorem dX4_mixNext_24 : decode cX4_mixNext 24 = .ok (.invokestatic 141, 3) := by decide +kernel
theorem dX4_mixNext_27 : decode cX4_mixNext 27 = .ok (.istore_n 3, 1) := by decide +kernel
theorem dX4_mixNext_28 : decode cX4_mixNext 28 = .ok (.aload_n 0, 1) := by decide +kernel
theorem dX4_mixNext_29 : decode cX4_mixNext 29 = .ok (.getfield 102, 3) := by decide +kernel
theorem dX4_mixNext_32 : decode cX4_mixNext 32 = .ok (.iload_n 3, 1) := by decide +kernel
theorem dX4_mixNext_33 : decode cX4_mixNext 33 = .ok (.if_icmp .ge 92, 3) := by decide +kernel
theorem dX4_mixNext_36 : decode cX4_mixNext 36 = .ok (.aload_n 1, 1) := by decide +kernel
theorem dX4_mixNext_37 : decode cX4_mixNext 37 = .ok (.getfield 147, 3) := by decide +kernel
theorem dX4_mixNext_40 : decode cX4_mixNext 40 = .ok (.aload_n 0, 1) := by decide +kernel
theorem dX4_mixNext_41 : decode cX4_mixNext 41 = .ok (.getfield 11, 3) := by decide +kernel
theorem dX4_mixNext_44 : decode cX4_mixNext 44 = .ok (.aload_n 0, 1) := by decide +kernel
theorem dX4_mixNext_45 : decode cX4_mixNext 45 = .ok (.getfield 102, 3) := by decide +kernel
theorem dX4_mixNext_48 : decode cX4_mixNext 48 = .ok (.iaload, 1) := by decide +kernel
theorem dX4_mixNext_49 : decode cX4_mixNext 49 = .ok (.aaload, 1) := by decide +kernel
theorem dX4_mixNext_50 : decode cX4_mixNext 50 = .ok (.astore 4, 2) := by decide +kernel
theorem dX4_mixNext_52 : decode cX4_mixNext 52 = .ok (.aload_n 0, 1) := by decide +kernel
theorem dX4_mixNext_53 : decode cX4_mixNext 53 = .ok (.getfield 20, 3) := by decide +kernel
theorem dX4_mixNext_56 : decode cX4_mixNext 56 = .ok (.iconst 0, 1) := by decide +kernel
theorem dX4_mixNext_57 : decode cX4_mixNext 57 = .ok (.aaload, 1) := by decide +kernel
theorem dX4_mixNext_58 : decode cX4_mixNext 58 = .ok (.aload_n 0, 1) := by decide +kernel
theorem dX4_mixNext_59 : decode cX4_mixNext 59 = .ok (.getfield 102, 3) := by decide +kernel
theorem dX4_mixNext_62 : decode cX4_mixNext 62 = .ok (.iload_n 2, 1) := by decide +kernel
theorem dX4_mixNext_63 : decode cX4_mixNext 63 = .ok (.iastore, 1) := by decide +kernel
theorem dX4_mixNext_64 : decode cX4_mixNext 64 = .ok (.aload_n 0, 1) := by decide +kernel
theorem dX4_mixNext_65 : decode cX4_mixNext 65 = .ok (.getfield 20, 3) := by decide +kernel
theorem dX4_mixNext_68 : decode cX4_mixNext 68 = .ok (.iconst 1, 1) := by decide +kernel
theorem dX4_mixNext_69 : decode cX4_mixNext 69 = .ok (.aaload, 1) := by decide +kernel
theorem dX4_mixNext_70 : decode cX4_mixNext 70 = .ok (.aload_n 0, 1) := by decide +kernel
theorem dX4_mixNext_71 : decode cX4_mixNext 71 = .ok (.getfield 102, 3) := by decide +kernel
theorem dX4_mixNext_74 : decode cX4_mixNext 74 = .ok (.iload_n 2, 1) := by decide +kernel
theorem dX4_mixNext_75 : decode cX4_mixNext 75 = .ok (.aload 4, 2) := by decide +kernel
theorem dX4_mixNext_77 : decode cX4_mixNext 77 = .ok (.getfield 208, 3) := by decide +kernel
theorem dX4_mixNext_80 : decode cX4_mixNext 80 = .ok (.iadd, 1) := by decide +kernel
theorem dX4_mixNext_81 : decode cX4_mixNext 81 = .ok (.iastore, 1) := by decide +kernel
theorem dX4_mixNext_82 : decode cX4_mixNext 82 = .ok (.aload_n 0, 1) := by decide +kernel
theorem dX4_mixNext_83 : decode cX4_mixNext 83 = .ok (.getfield 23, 3) := by decide +kernel
theorem dX4_mixNext_86 : decode cX4_mixNext 86 = .ok (.aload_n 0, 1) := by decide +kernel
theorem dX4_mixNext_87 : decode cX4_mixNext 87 = .ok (.getfield 102, 3) := by decide +kernel
theorem dX4_mixNext_90 : decode cX4_mixNext 90 = .ok (.aload_n 0, 1) := by decide +kernel
theorem dX4_mixNext_91 : decode cX4_mixNext 91 = .ok (.getfield 20, 3) := by decide +kernel
theorem dX4_mixNext_94 : decode cX4_mixNext 94 = .ok (.iconst 1, 1) := by decide +kernel
theorem dX4_mixNext_95 : decode cX4_mixNext 95 = .ok (.aaload, 1) := by decide +kernel
theorem dX4_mixNext_96 : decode cX4_mixNext 96 = .ok (.aload_n 0, 1) := by decide +kernel
theorem dX4_mixNext_97 : decode cX4_mixNext 97 = .ok (.getfield 102, 3) := by decide +kernel
theorem dX4_mixNext_100 : decode cX4_mixNext 100 = .ok (.iaload, 1) := by decide +kernel
theorem dX4_mixNext_101 : decode cX4_mixNext 101 = .ok (.aload_n 1, 1) := by decide +kernel
theorem dX4_mixNext_102 : decode cX4_mixNext 102 = .ok (.aload 4, 2) := by decide +kernel
theorem dX4_mixNext_104 : decode cX4_mixNext 104 = .ok (.getfield 211, 3) := by decide +kernel
theorem dX4_mixNext_107 : decode cX4_mixNext 107 = .ok (.invokevirtual 196, 3) := by decide +kernel
theorem dX4_mixNext_110 : decode cX4_mixNext 110 = .ok (.iadd, 1) := by decide +kernel
theorem dX4_mixNext_111 : decode cX4_mixNext 111 = .ok (.iastore, 1) := by decide +kernel
theorem dX4_mixNext_112 : decode cX4_mixNext 112 = .ok (.aload_n 0, 1) := by decide +kernel
theorem dX4_mixNext_113 : decode cX4_mixNext 113 = .ok (.dup, 1) := by decide +kernel
theorem dX4_mixNext_114 : decode cX4_mixNext 114 = .ok (.getfield 102, 3) := by decide +kernel
theorem dX4_mixNext_117 : decode cX4_mixNext 117 = .ok (.iconst 1, 1) := by decide +kernel
theorem dX4_mixNext_118 : decode cX4_mixNext 118 = .ok (.iadd, 1) := by decide +kernel
theorem dX4_mixNext_119 : decode cX4_mixNext 119 = .ok (.putfield 102, 3) := by decide +kernel
theorem dX4_mixNext_122 : decode cX4_mixNext 122 = .ok (.goto (-94), 3) := by decide +kernel
theorem dX4_mixNext_125 : decode cX4_mixNext 125 = .ok (.return_, 1) := by decide +kernel
theorem dX4_nextMinute_0 : decode cX4_nextMinute 0 = .ok (.iconst (-1), 1) := by decide +kernel
theorem dX4_nextMinute_1 : decode cX4_nextMinute 1 = .ok (.istore_n 3, 1) := by decide +kernel
theorem dX4_nextMinute_2 : decode cX4_nextMinute 2 = .ok (.iconst 0, 1) := by decide +kernel
theorem dX4_nextMinute_3 : decode cX4_nextMinute 3 = .ok (.istore 4, 2) := by decide +kernel
theorem dX4_nextMinute_5 : decode cX4_nextMinute 5 = .ok (.iload 4, 2) := by decide +kernel
theorem dX4_nextMinute_7 : decode cX4_nextMinute 7 = .ok (.aload_n 0, 1) := by decide +kernel
theorem dX4_nextMinute_8 : decode cX4_nextMinute 8 = .ok (.getfield 82, 3) := by decide +kernel
theorem dX4_nextMinute_11 : decode cX4_nextMinute 11 = .ok (.if_icmp .ge 80, 3) := by decide +kernel
theorem dX4_nextMinute_14 : decode cX4_nextMinute 14 = .ok (.iload_n 3, 1) := by decide +kernel
theorem dX4_nextMinute_15 : decode cX4_nextMinute 15 = .ok (.aload_n 0, 1) := by decide +kernel
theorem dX4_nextMinute_16 : decode cX4_nextMinute 16 = .ok (.getfield 20, 3) := by decide +kernel
theorem dX4_nextMinute_19 : decode cX4_nextMinute 19 = .ok (.iconst 1, 1) := by decide +kernel
theorem dX4_nextMinute_20 : decode cX4_nextMinute 20 = .ok (.aaload, 1) := by decide +kernel
theorem dX4_nextMinute_21 : decode cX4_nextMinute 21 = .ok (.iload 4, 2) := by decide +kernel
theorem dX4_nextMinute_23 : decode cX4_nextMinute 23 = .ok (.iaload, 1) := by decide +kernel
theorem dX4_nextMinute_24 : decode cX4_nextMinute 24 = .ok (.iload_n 2, 1) := by decide +kernel
theorem dX4_nextMinute_25 : decode cX4_nextMinute 25 = .ok (.invokestatic 214, 3) := by decide +kernel
theorem dX4_nextMinute_28 : decode cX4_nextMinute 28 = .ok (.istore_n 3, 1) := by decide +kernel
theorem dX4_nextMinute_29 : decode cX4_nextMinute 29 = .ok (.iload_n 3, 1) := by decide +kernel
theorem dX4_nextMinute_30 : decode cX4_nextMinute 30 = .ok (.aload_n 0, 1) := by decide +kernel
theorem dX4_nextMinute_31 : decode cX4_nextMinute 31 = .ok (.getfield 23, 3) := by decide +kernel
theorem dX4_nextMinute_34 : decode cX4_nextMinute 34 = .ok (.iload 4, 2) := by decide +kernel
theorem dX4_nextMinute_36 : decode cX4_nextMinute 36 = .ok (.iaload, 1) := by decide +kernel
theorem dX4_nextMinute_37 : decode cX4_nextMinute 37 = .ok (.iload_n 2, 1) := by decide +kernel
theorem dX4_nextMinute_38 : decode cX4_nextMinute 38 = .ok (.invokestatic 214, 3) := by decide +kernel
theorem dX4_nextMinute_41 : decode cX4_nextMinute 41 = .ok (.istore_n 3, 1) := by decide +kernel
theorem dX4_nextMinute_42 : decode cX4_nextMinute 42 = .ok (.iload_n 3, 1) := by decide +kernel
theorem dX4_nextMinute_43 : decode cX4_nextMinute 43 = .ok (.aload_n 0, 1) := by decide +kernel
theorem dX4_nextMinute_44 : decode cX4_nextMinute 44 = .ok (.getfield 20, 3) := by decide +kernel
theorem dX4_nextMinute_47 : decode cX4_nextMinute 47 = .ok (.iconst 3, 1) := by decide +kernel
theorem dX4_nextMinute_48 : decode cX4_nextMinute 48 = .ok (.aaload, 1) := by decide +kernel
theorem dX4_nextMinute_49 : decode cX4_nextMinute 49 = .ok (.iload 4, 2) := by decide +kernel
theorem dX4_nextMinute_51 : decode cX4_nextMinute 51 = .ok (.iaload, 1) := by decide +kernel
theorem dX4_nextMinute_52 : decode cX4_nextMinute 52 = .ok (.iload_n 2, 1) := by decide +kernel
theorem dX4_nextMinute_53 : decode cX4_nextMinute 53 = .ok (.invokestatic 214, 3) := by decide +kernel
theorem dX4_nextMinute_56 : decode cX4_nextMinute 56 = .ok (.istore_n 3, 1) := by decide +kernel
theorem dX4_nextMinute_57 : decode cX4_nextMinute 57 = .ok (.iload_n 3, 1) := by decide +kernel
theorem dX4_nextMinute_58 : decode cX4_nextMinute 58 = .ok (.aload_n 0, 1) := by decide +kernel
theorem dX4_nextMinute_59 : decode cX4_nextMinute 59 = .ok (.getfield 26, 3) := by decide +kernel
theorem dX4_nextMinute_62 : decode cX4_nextMinute 62 = .ok (.iload 4, 2) := by decide +kernel
theorem dX4_nextMinute_64 : decode cX4_nextMinute 64 = .ok (.iaload, 1) := by decide +kernel
theorem dX4_nextMinute_65 : decode cX4_nextMinute 65 = .ok (.iload_n 2, 1) := by decide +kernel
theorem dX4_nextMinute_66 : decode cX4_nextMinute 66 = .ok (.invokestatic 214, 3) := by decide +kernel
theorem dX4_nextMinute_69 : decode cX4_nextMinute 69 = .ok (.istore_n 3, 1) := by decide +kernel
theorem dX4_nextMinute_70 : decode cX4_nextMinute 70 = .ok (.iload_n 3, 1) := by decide +kernel
theorem dX4_nextMinute_71 : decode cX4_nextMinute 71 = .ok (.aload_n 0, 1) := by decide +kernel
theorem dX4_nextMinute_72 : decode cX4_nextMinute 72 = .ok (.getfield 20, 3) := by decide +kernel
theorem dX4_nextMinute_75 : decode cX4_nextMinute 75 = .ok (.iconst 5, 1) := by decide +kernel
theorem dX4_nextMinute_76 : decode cX4_nextMinute 76 = .ok (.aaload, 1) := by decide +kernel
theorem dX4_nextMinute_77 : decode cX4_nextMinute 77 = .ok (.iload 4, 2) := by decide +kernel
theorem dX4_nextMinute_79 : decode cX4_nextMinute 79 = .ok (.iaload, 1) := by decide +kernel
theorem dX4_nextMinute_80 : decode cX4_nextMinute 80 = .ok (.iload_n 2, 1) := by decide +kernel
theorem dX4_nextMinute_81 : decode cX4_nextMinute 81 = .ok (.invokestatic 214, 3) := by decide +kernel
theorem dX4_nextMinute_84 : decode cX4_nextMinute 84 = .ok (.istore_n 3, 1) := by decide +kernel
theorem dX4_nextMinute_85 : decode cX4_nextMinute 85 = .ok (.iinc 4 1, 3) := by decide +kernel
theorem dX4_nextMinute_88 : decode cX4_nextMinute 88 = .ok (.goto (-83), 3) := by decide +kernel
theorem dX4_nextMinute_91 : decode cX4_nextMinute 91 = .ok (.iconst 0, 1) := by decide +kernel
theorem dX4_nextMinute_92 : decode cX4_nextMinute 92 = .ok (.istore 4, 2) := by decide +kernel
theorem dX4_nextMinute_94 : decode cX4_nextMinute 94 = .ok (.iload 4, 2) := by decide +kernel
theorem dX4_nextMinute_96 : decode cX4_nextMinute 96 = .ok (.aload_n 0, 1) := by decide +kernel
theorem dX4_nextMinute_97 : decode cX4_nextMinute 97 = .ok (.getfield 108, 3) := by decide +kernel
theorem dX4_nextMinute_100 : decode cX4_nextMinute 100 = .ok (.if_icmp .ge 49, 3) := by decide +kernel
theorem dX4_nextMinute_103 : decode cX4_nextMinute 103 = .ok (.aload_n 0, 1) := by decide +kernel
theorem dX4_nextMinute_104 : decode cX4_nextMinute 104 = .ok (.getfield 35, 3) := by decide +kernel
theorem dX4_nextMinute_107 : decode cX4_nextMinute 107 = .ok (.iload 4, 2) := by decide +kernel
theorem dX4_nextMinute_109 : decode cX4_nextMinute 109 = .ok (.iaload, 1) := by decide +kernel
theorem dX4_nextMinute_110 : decode cX4_nextMinute 110 = .ok (.istore 5, 2) := by decide +kernel
theorem dX4_nextMinute_112 : decode cX4_nextMinute 112 = .ok (.iload_n 3, 1) := by decide +kernel
theorem dX4_nextMinute_113 : decode cX4_nextMinute 113 = .ok (.aload_n 0, 1) := by decide +kernel
theorem dX4_nextMinute_114 : decode cX4_nextMinute 114 = .ok (.getfield 26, 3) := by decide +kernel
theorem dX4_nextMinute_117 : decode cX4_nextMinute 117 = .ok (.iload 5, 2) := by decide +kernel
theorem dX4_nextMinute_119 : decode cX4_nextMinute 119 = .ok (.iaload, 1) := by decide +kernel
theorem dX4_nextMinute_120 : decode cX4_nextMinute 120 = .ok (.aload_n 1, 1) := by decide +kernel
theorem dX4_nextMinute_121 : decode cX4_nextMinute 121 = .ok (.getfield 147, 3) := by decide +kernel
theorem dX4_nextMinute_124 : decode cX4_nextMinute 124 = .ok (.aload_n 0, 1) := by decide +kernel
theorem dX4_nextMinute_125 : decode cX4_nextMinute 125 = .ok (.getfield 11, 3) := by decide +kernel
theorem dX4_nextMinute_128 : decode cX4_nextMinute 128 = .ok (.iload 5, 2) := by decide +kernel
theorem dX4_nextMinute_130 : decode cX4_nextMinute 130 = .ok (.iaload, 1) := by decide +kernel
theorem dX4_nextMinute_131 : decode cX4_nextMinute 131 = .ok (.aaload, 1) := by decide +kernel
theorem dX4_nextMinute_132 : decode cX4_nextMinute 132 = .ok (.getfield 151, 3) := by decide +kernel
theorem dX4_nextMinute_135 : decode cX4_nextMinute 135 = .ok (.iadd, 1) := by decide +kernel
theorem dX4_nextMinute_136 : decode cX4_nextMinute 136 = .ok (.iconst 1, 1) := by decide +kernel
theorem dX4_nextMinute_137 : decode cX4_nextMinute 137 = .ok (.iadd, 1) := by decide +kernel
theorem dX4_nextMinute_138 : decode cX4_nextMinute 138 = .ok (.iload_n 2, 1) := by decide +kernel
theorem dX4_nextMinute_139 : decode cX4_nextMinute 139 = .ok (.invokestatic 214, 3) := by decide +kernel
theorem dX4_nextMinute_142 : decode cX4_nextMinute 142 = .ok (.istore_n 3, 1) := by decide +kernel
theorem dX4_nextMinute_143 : decode cX4_nextMinute 143 = .ok (.iinc 4 1, 3) := by decide +kernel
theorem dX4_nextMinute_146 : decode cX4_nextMinute 146 = .ok (.goto (-52), 3) := by decide +kernel
theorem dX4_nextMinute_149 : decode cX4_nextMinute 149 = .ok (.iconst 0, 1) := by decide +kernel
theorem dX4_nextMinute_150 : decode cX4_nextMinute 150 = .ok (.istore 4, 2) := by decide +kernel
theorem dX4_nextMinute_152 : decode cX4_nextMinute 152 = .ok (.iload 4, 2) := by decide +kernel
theorem dX4_nextMinute_154 : decode cX4_nextMinute 154 = .ok (.aload_n 1, 1) := by decide +kernel
theorem dX4_nextMinute_155 : decode cX4_nextMinute 155 = .ok (.getfield 117, 3) := by decide +kernel
theorem dX4_nextMinute_158 : decode cX4_nextMinute 158 = .ok (.if_icmp .ge 22, 3) := by decide +kernel
theorem dX4_nextMinute_161 : decode cX4_nextMinute 161 = .ok (.iload_n 3, 1) := by decide +kernel
theorem dX4_nextMinute_162 : decode cX4_nextMinute 162 = .ok (.aload_n 0, 1) := by decide +kernel
theorem dX4_nextMinute_163 : decode cX4_nextMinute 163 = .ok (.getfield 43, 3) := by decide +kernel
theorem dX4_nextMinute_166 : decode cX4_nextMinute 166 = .ok (.iload 4, 2) := by decide +kernel
theorem dX4_nextMinute_168 : decode cX4_nextMinute 168 = .ok (.iaload, 1) := by decide +kernel
theorem dX4_nextMinute_169 : decode cX4_nextMinute 169 = .ok (.iload_n 2, 1) := by decide +kernel
theorem dX4_nextMinute_170 : decode cX4_nextMinute 170 = .ok (.invokestatic 214, 3) := by decide +kernel
theorem dX4_nextMinute_173 : decode cX4_nextMinute 173 = .ok (.istore_n 3, 1) := by decide +kernel
theorem dX4_nextMinute_174 : decode cX4_nextMinute 174 = .ok (.iinc 4 1, 3) := by decide +kernel
theorem dX4_nextMinute_177 : decode cX4_nextMinute 177 = .ok (.goto (-25), 3) := by decide +kernel
theorem dX4_nextMinute_180 : decode cX4_nextMinute 180 = .ok (.iload_n 3, 1) := by decide +kernel
theorem dX4_nextMinute_181 : decode cX4_nextMinute 181 = .ok (.ireturn, 1) := by decide +kernel
theorem dX4_sooner_0 : decode cX4_sooner 0 = .ok (.iload_n 1, 1) := by decide +kernel
theorem dX4_sooner_1 : decode cX4_sooner 1 = .ok (.iload_n 2, 1) := by decide +kernel
theorem dX4_sooner_2 : decode cX4_sooner 2 = .ok (.if_icmp .le 17, 3) := by decide +kernel
theorem dX4_sooner_5 : decode cX4_sooner 5 = .ok (.iload_n 0, 1) := by decide +kernel
theorem dX4_sooner_6 : decode cX4_sooner 6 = .ok (.iconst (-1), 1) := by decide +kernel
theorem dX4_sooner_7 : decode cX4_sooner 7 = .ok (.if_icmp .eq 8, 3) := by decide +kernel
theorem dX4_sooner_10 : decode cX4_sooner 10 = .ok (.iload_n 1, 1) := by decide +kernel
theorem dX4_sooner_11 : decode cX4_sooner 11 = .ok (.iload_n 0, 1) := by decide +kernel
theorem dX4_sooner_12 : decode cX4_sooner 12 = .ok (.if_icmp .ge 7, 3) := by decide +kernel
theorem dX4_sooner_15 : decode cX4_sooner 15 = .ok (.iload_n 1, 1) := by decide +kernel
theorem dX4_sooner_16 : decode cX4_sooner 16 = .ok (.goto 4, 3) := by decide +kernel
theorem dX4_sooner_19 : decode cX4_sooner 19 = .ok (.iload_n 0, 1) := by decide +kernel
theorem dX4_sooner_20 : decode cX4_sooner 20 = .ok (.ireturn, 1) := by decide +kernel
theorem dX4_giveLoaves_0 : decode cX4_giveLoaves 0 = .ok (.aload_n 0, 1) := by decide +kernel
theorem dX4_giveLoaves_1 : decode cX4_giveLoaves 1 = .ok (.getfield 52, 3) := by decide +kernel
theorem dX4_giveLoaves_4 : decode cX4_giveLoaves 4 = .ok (.iconst (-1), 1) := by decide +kernel
theorem dX4_giveLoaves_5 : decode cX4_giveLoaves 5 = .ok (.invokestatic 111, 3) := by decide +kernel
theorem dX4_giveLoaves_8 : decode cX4_giveLoaves 8 = .ok (.aload_n 0, 1) := by decide +kernel
theorem dX4_giveLoaves_9 : decode cX4_giveLoaves 9 = .ok (.getfield 55, 3) := by decide +kernel
theorem dX4_giveLoaves_12 : decode cX4_giveLoaves 12 = .ok (.iconst (-1), 1) := by decide +kernel
theorem dX4_giveLoaves_13 : decode cX4_giveLoaves 13 = .ok (.invokestatic 111, 3) := by decide +kernel
theorem dX4_giveLoaves_16 : decode cX4_giveLoaves 16 = .ok (.iconst 0, 1) := by decide +kernel
theorem dX4_giveLoaves_17 : decode cX4_giveLoaves 17 = .ok (.istore_n 2, 1) := by decide +kernel
theorem dX4_giveLoaves_18 : decode cX4_giveLoaves 18 = .ok (.iload_n 2, 1) := by decide +kernel
theorem dX4_giveLoaves_19 : decode cX4_giveLoaves 19 = .ok (.aload_n 1, 1) := by decide +kernel
theorem dX4_giveLoaves_20 : decode cX4_giveLoaves 20 = .ok (.getfield 218, 3) := by decide +kernel
theorem dX4_giveLoaves_23 : decode cX4_giveLoaves 23 = .ok (.if_icmp .ge 93, 3) := by decide +kernel
theorem dX4_giveLoaves_26 : decode cX4_giveLoaves 26 = .ok (.aload_n 1, 1) := by decide +kernel
theorem dX4_giveLoaves_27 : decode cX4_giveLoaves 27 = .ok (.iload_n 2, 1) := by decide +kernel
theorem dX4_giveLoaves_28 : decode cX4_giveLoaves 28 = .ok (.invokevirtual 221, 3) := by decide +kernel
theorem dX4_giveLoaves_31 : decode cX4_giveLoaves 31 = .ok (.ifCond .eq 79, 3) := by decide +kernel
theorem dX4_giveLoaves_34 : decode cX4_giveLoaves 34 = .ok (.aload_n 1, 1) := by decide +kernel
theorem dX4_giveLoaves_35 : decode cX4_giveLoaves 35 = .ok (.getfield 225, 3) := by decide +kernel
theorem dX4_giveLoaves_38 : decode cX4_giveLoaves 38 = .ok (.iload_n 2, 1) := by decide +kernel
theorem dX4_giveLoaves_39 : decode cX4_giveLoaves 39 = .ok (.aaload, 1) := by decide +kernel
theorem dX4_giveLoaves_40 : decode cX4_giveLoaves 40 = .ok (.getfield 229, 3) := by decide +kernel
theorem dX4_giveLoaves_43 : decode cX4_giveLoaves 43 = .ok (.istore_n 3, 1) := by decide +kernel
theorem dX4_giveLoaves_44 : decode cX4_giveLoaves 44 = .ok (.aload_n 1, 1) := by decide +kernel
theorem dX4_giveLoaves_45 : decode cX4_giveLoaves 45 = .ok (.iload_n 2, 1) := by decide +kernel
theorem dX4_giveLoaves_46 : decode cX4_giveLoaves 46 = .ok (.invokevirtual 233, 3) := by decide +kernel
theorem dX4_giveLoaves_49 : decode cX4_giveLoaves 49 = .ok (.istore 4, 2) := by decide +kernel
theorem dX4_giveLoaves_51 : decode cX4_giveLoaves 51 = .ok (.aload_n 0, 1) := by decide +kernel
theorem dX4_giveLoaves_52 : decode cX4_giveLoaves 52 = .ok (.aload_n 1, 1) := by decide +kernel
theorem dX4_giveLoaves_53 : decode cX4_giveLoaves 53 = .ok (.iload_n 3, 1) := by decide +kernel
theorem dX4_giveLoaves_54 : decode cX4_giveLoaves 54 = .ok (.iload 4, 2) := by decide +kernel
theorem dX4_giveLoaves_56 : decode cX4_giveLoaves 56 = .ok (.aload_n 1, 1) := by decide +kernel
theorem dX4_giveLoaves_57 : decode cX4_giveLoaves 57 = .ok (.getfield 225, 3) := by decide +kernel
theorem dX4_giveLoaves_60 : decode cX4_giveLoaves 60 = .ok (.iload_n 2, 1) := by decide +kernel
theorem dX4_giveLoaves_61 : decode cX4_giveLoaves 61 = .ok (.aaload, 1) := by decide +kernel
theorem dX4_giveLoaves_62 : decode cX4_giveLoaves 62 = .ok (.getfield 236, 3) := by decide +kernel
theorem dX4_giveLoaves_65 : decode cX4_giveLoaves 65 = .ok (.iadd, 1) := by decide +kernel
theorem dX4_giveLoaves_66 : decode cX4_giveLoaves 66 = .ok (.iconst 1, 1) := by decide +kernel
theorem dX4_giveLoaves_67 : decode cX4_giveLoaves 67 = .ok (.isub, 1) := by decide +kernel
theorem dX4_giveLoaves_68 : decode cX4_giveLoaves 68 = .ok (.invokevirtual 239, 3) := by decide +kernel
theorem dX4_giveLoaves_71 : decode cX4_giveLoaves 71 = .ok (.istore 5, 2) := by decide +kernel
theorem dX4_giveLoaves_73 : decode cX4_giveLoaves 73 = .ok (.aload_n 0, 1) := by decide +kernel
theorem dX4_giveLoaves_74 : decode cX4_giveLoaves 74 = .ok (.getfield 55, 3) := by decide +kernel
theorem dX4_giveLoaves_77 : decode cX4_giveLoaves 77 = .ok (.iload_n 2, 1) := by decide +kernel
theorem dX4_giveLoaves_78 : decode cX4_giveLoaves 78 = .ok (.aload_n 0, 1) := by decide +kernel
theorem dX4_giveLoaves_79 : decode cX4_giveLoaves 79 = .ok (.aload_n 1, 1) := by decide +kernel
theorem dX4_giveLoaves_80 : decode cX4_giveLoaves 80 = .ok (.iload_n 3, 1) := by decide +kernel
theorem dX4_giveLoaves_81 : decode cX4_giveLoaves 81 = .ok (.iload 4, 2) := by decide +kernel
theorem dX4_giveLoaves_83 : decode cX4_giveLoaves 83 = .ok (.invokevirtual 239, 3) := by decide +kernel
theorem dX4_giveLoaves_86 : decode cX4_giveLoaves 86 = .ok (.iastore, 1) := by decide +kernel
theorem dX4_giveLoaves_87 : decode cX4_giveLoaves 87 = .ok (.aload_n 0, 1) := by decide +kernel
theorem dX4_giveLoaves_88 : decode cX4_giveLoaves 88 = .ok (.getfield 52, 3) := by decide +kernel
theorem dX4_giveLoaves_91 : decode cX4_giveLoaves 91 = .ok (.iload_n 2, 1) := by decide +kernel
theorem dX4_giveLoaves_92 : decode cX4_giveLoaves 92 = .ok (.iload 5, 2) := by decide +kernel
theorem dX4_giveLoaves_94 : decode cX4_giveLoaves 94 = .ok (.iconst (-1), 1) := by decide +kernel
theorem dX4_giveLoaves_95 : decode cX4_giveLoaves 95 = .ok (.if_icmp .ne 7, 3) := by decide +kernel
theorem dX4_giveLoaves_98 : decode cX4_giveLoaves 98 = .ok (.iconst (-1), 1) := by decide +kernel
theorem dX4_giveLoaves_99 : decode cX4_giveLoaves 99 = .ok (.goto 10, 3) := by decide +kernel
theorem dX4_giveLoaves_102 : decode cX4_giveLoaves 102 = .ok (.iload 5, 2) := by decide +kernel
theorem dX4_giveLoaves_104 : decode cX4_giveLoaves 104 = .ok (.aload_n 1, 1) := by decide +kernel
theorem dX4_giveLoaves_105 : decode cX4_giveLoaves 105 = .ok (.getfield 242, 3) := by decide +kernel
theorem dX4_giveLoaves_108 : decode cX4_giveLoaves 108 = .ok (.iadd, 1) := by decide +kernel
theorem dX4_giveLoaves_109 : decode cX4_giveLoaves 109 = .ok (.iastore, 1) := by decide +kernel
theorem dX4_giveLoaves_110 : decode cX4_giveLoaves 110 = .ok (.iinc 2 1, 3) := by decide +kernel
theorem dX4_giveLoaves_113 : decode cX4_giveLoaves 113 = .ok (.goto (-95), 3) := by decide +kernel
theorem dX4_giveLoaves_116 : decode cX4_giveLoaves 116 = .ok (.return_, 1) := by decide +kernel
theorem dX4_takenOut_0 : decode cX4_takenOut 0 = .ok (.iconst 0, 1) := by decide +kernel
theorem dX4_takenOut_1 : decode cX4_takenOut 1 = .ok (.istore 4, 2) := by decide +kernel
theorem dX4_takenOut_3 : decode cX4_takenOut 3 = .ok (.iconst 0, 1) := by decide +kernel
theorem dX4_takenOut_4 : decode cX4_takenOut 4 = .ok (.istore 5, 2) := by decide +kernel
theorem dX4_takenOut_6 : decode cX4_takenOut 6 = .ok (.iload 5, 2) := by decide +kernel
theorem dX4_takenOut_8 : decode cX4_takenOut 8 = .ok (.aload_n 0, 1) := by decide +kernel
theorem dX4_takenOut_9 : decode cX4_takenOut 9 = .ok (.getfield 82, 3) := by decide +kernel
theorem dX4_takenOut_12 : decode cX4_takenOut 12 = .ok (.if_icmp .ge 63, 3) := by decide +kernel
theorem dX4_takenOut_15 : decode cX4_takenOut 15 = .ok (.aload_n 0, 1) := by decide +kernel
theorem dX4_takenOut_16 : decode cX4_takenOut 16 = .ok (.getfield 11, 3) := by decide +kernel
theorem dX4_takenOut_19 : decode cX4_takenOut 19 = .ok (.iload 5, 2) := by decide +kernel
theorem dX4_takenOut_21 : decode cX4_takenOut 21 = .ok (.iaload, 1) := by decide +kernel
theorem dX4_takenOut_22 : decode cX4_takenOut 22 = .ok (.iload_n 2, 1) := by decide +kernel
theorem dX4_takenOut_23 : decode cX4_takenOut 23 = .ok (.if_icmp .ne 46, 3) := by decide +kernel
theorem dX4_takenOut_26 : decode cX4_takenOut 26 = .ok (.aload_n 0, 1) := by decide +kernel
theorem dX4_takenOut_27 : decode cX4_takenOut 27 = .ok (.getfield 20, 3) := by decide +kernel
theorem dX4_takenOut_30 : decode cX4_takenOut 30 = .ok (.iconst 5, 1) := by decide +kernel
theorem dX4_takenOut_31 : decode cX4_takenOut 31 = .ok (.aaload, 1) := by decide +kernel
theorem dX4_takenOut_32 : decode cX4_takenOut 32 = .ok (.iload 5, 2) := by decide +kernel
theorem dX4_takenOut_34 : decode cX4_takenOut 34 = .ok (.iaload, 1) := by decide +kernel
theorem dX4_takenOut_35 : decode cX4_takenOut 35 = .ok (.iconst (-1), 1) := by decide +kernel
theorem dX4_takenOut_36 : decode cX4_takenOut 36 = .ok (.if_icmp .eq 33, 3) := by decide +kernel
theorem dX4_takenOut_39 : decode cX4_takenOut 39 = .ok (.iload 4, 2) := by decide +kernel
theorem dX4_takenOut_41 : decode cX4_takenOut 41 = .ok (.aload_n 1, 1) := by decide +kernel
theorem dX4_takenOut_42 : decode cX4_takenOut 42 = .ok (.getfield 147, 3) := by decide +kernel
theorem dX4_takenOut_45 : decode cX4_takenOut 45 = .ok (.iload_n 2, 1) := by decide +kernel
theorem dX4_takenOut_46 : decode cX4_takenOut 46 = .ok (.aaload, 1) := by decide +kernel
theorem dX4_takenOut_47 : decode cX4_takenOut 47 = .ok (.getfield 245, 3) := by decide +kernel
theorem dX4_takenOut_50 : decode cX4_takenOut 50 = .ok (.iadd, 1) := by decide +kernel
theorem dX4_takenOut_51 : decode cX4_takenOut 51 = .ok (.istore 4, 2) := by decide +kernel
theorem dX4_takenOut_53 : decode cX4_takenOut 53 = .ok (.iload_n 3, 1) := by decide +kernel
theorem dX4_takenOut_54 : decode cX4_takenOut 54 = .ok (.iload 4, 2) := by decide +kernel
theorem dX4_takenOut_56 : decode cX4_takenOut 56 = .ok (.if_icmp .ge 13, 3) := by decide +kernel
theorem dX4_takenOut_59 : decode cX4_takenOut 59 = .ok (.aload_n 0, 1) := by decide +kernel
theorem dX4_takenOut_60 : decode cX4_takenOut 60 = .ok (.getfield 20, 3) := by decide +kernel
theorem dX4_takenOut_63 : decode cX4_takenOut 63 = .ok (.iconst 5, 1) := by decide +kernel
theorem dX4_takenOut_64 : decode cX4_takenOut 64 = .ok (.aaload, 1) := by decide +kernel
theorem dX4_takenOut_65 : decode cX4_takenOut 65 = .ok (.iload 5, 2) := by decide +kernel
theorem dX4_takenOut_67 : decode cX4_takenOut 67 = .ok (.iaload, 1) := by decide +kernel
theorem dX4_takenOut_68 : decode cX4_takenOut 68 = .ok (.ireturn, 1) := by decide +kernel
theorem dX4_takenOut_69 : decode cX4_takenOut 69 = .ok (.iinc 5 1, 3) := by decide +kernel
theorem dX4_takenOut_72 : decode cX4_takenOut 72 = .ok (.goto (-66), 3) := by decide +kernel
theorem dX4_takenOut_75 : decode cX4_takenOut 75 = .ok (.iconst (-1), 1) := by decide +kernel
theorem dX4_takenOut_76 : decode cX4_takenOut 76 = .ok (.ireturn, 1) := by decide +kernel
theorem dX4_leftOver_0 : decode cX4_leftOver 0 = .ok (.iconst 0, 1) := by decide +kernel
theorem dX4_leftOver_1 : decode cX4_leftOver 1 = .ok (.istore_n 3, 1) := by decide +kernel
theorem dX4_leftOver_2 : decode cX4_leftOver 2 = .ok (.iconst 0, 1) := by decide +kernel
theorem dX4_leftOver_3 : decode cX4_leftOver 3 = .ok (.istore 4, 2) := by decide +kernel
theorem dX4_leftOver_5 : decode cX4_leftOver 5 = .ok (.iload 4, 2) := by decide +kernel
theorem dX4_leftOver_7 : decode cX4_leftOver 7 = .ok (.aload_n 0, 1) := by decide +kernel
theorem dX4_leftOver_8 : decode cX4_leftOver 8 = .ok (.getfield 82, 3) := by decide +kernel
theorem dX4_leftOver_11 : decode cX4_leftOver 11 = .ok (.if_icmp .ge 45, 3) := by decide +kernel
theorem dX4_leftOver_14 : decode cX4_leftOver 14 = .ok (.aload_n 0, 1) := by decide +kernel
theorem dX4_leftOver_15 : decode cX4_leftOver 15 = .ok (.getfield 11, 3) := by decide +kernel
theorem dX4_leftOver_18 : decode cX4_leftOver 18 = .ok (.iload 4, 2) := by decide +kernel
theorem dX4_leftOver_20 : decode cX4_leftOver 20 = .ok (.iaload, 1) := by decide +kernel
theorem dX4_leftOver_21 : decode cX4_leftOver 21 = .ok (.iload_n 2, 1) := by decide +kernel
theorem dX4_leftOver_22 : decode cX4_leftOver 22 = .ok (.if_icmp .ne 28, 3) := by decide +kernel
theorem dX4_leftOver_25 : decode cX4_leftOver 25 = .ok (.aload_n 0, 1) := by decide +kernel
theorem dX4_leftOver_26 : decode cX4_leftOver 26 = .ok (.getfield 20, 3) := by decide +kernel
theorem dX4_leftOver_29 : decode cX4_leftOver 29 = .ok (.iconst 5, 1) := by decide +kernel
theorem dX4_leftOver_30 : decode cX4_leftOver 30 = .ok (.aaload, 1) := by decide +kernel
theorem dX4_leftOver_31 : decode cX4_leftOver 31 = .ok (.iload 4, 2) := by decide +kernel
theorem dX4_leftOver_33 : decode cX4_leftOver 33 = .ok (.iaload, 1) := by decide +kernel
theorem dX4_leftOver_34 : decode cX4_leftOver 34 = .ok (.iconst (-1), 1) := by decide +kernel
theorem dX4_leftOver_35 : decode cX4_leftOver 35 = .ok (.if_icmp .eq 15, 3) := by decide +kernel
theorem dX4_leftOver_38 : decode cX4_leftOver 38 = .ok (.iload_n 3, 1) := by decide +kernel
theorem dX4_leftOver_39 : decode cX4_leftOver 39 = .ok (.aload_n 1, 1) := by decide +kernel
theorem dX4_leftOver_40 : decode cX4_leftOver 40 = .ok (.getfield 147, 3) := by decide +kernel
theorem dX4_leftOver_43 : decode cX4_leftOver 43 = .ok (.iload_n 2, 1) := by decide +kernel
theorem dX4_leftOver_44 : decode cX4_leftOver 44 = .ok (.aaload, 1) := by decide +kernel
theorem dX4_leftOver_45 : decode cX4_leftOver 45 = .ok (.getfield 245, 3) := by decide +kernel
theorem dX4_leftOver_48 : decode cX4_leftOver 48 = .ok (.iadd, 1) := by decide +kernel
theorem dX4_leftOver_49 : decode cX4_leftOver 49 = .ok (.istore_n 3, 1) := by decide +kernel
theorem dX4_leftOver_50 : decode cX4_leftOver 50 = .ok (.iinc 4 1, 3) := by decide +kernel
theorem dX4_leftOver_53 : decode cX4_leftOver 53 = .ok (.goto (-48), 3) := by decide +kernel
theorem dX4_leftOver_56 : decode cX4_leftOver 56 = .ok (.iconst 0, 1) := by decide +kernel
theorem dX4_leftOver_57 : decode cX4_leftOver 57 = .ok (.iload_n 3, 1) := by decide +kernel
theorem dX4_leftOver_58 : decode cX4_leftOver 58 = .ok (.aload_n 1, 1) := by decide +kernel
theorem dX4_leftOver_59 : decode cX4_leftOver 59 = .ok (.iload_n 2, 1) := by decide +kernel
theorem dX4_leftOver_60 : decode cX4_leftOver 60 = .ok (.invokevirtual 246, 3) := by decide +kernel
theorem dX4_leftOver_63 : decode cX4_leftOver 63 = .ok (.isub, 1) := by decide +kernel
theorem dX4_leftOver_64 : decode cX4_leftOver 64 = .ok (.invokestatic 89, 3) := by decide +kernel
theorem dX4_leftOver_67 : decode cX4_leftOver 67 = .ok (.ireturn, 1) := by decide +kernel
theorem dX4_leftOverCents_0 : decode cX4_leftOverCents 0 = .ok (.aload_n 0, 1) := by decide +kernel
theorem dX4_leftOverCents_1 : decode cX4_leftOverCents 1 = .ok (.aload_n 1, 1) := by decide +kernel
theorem dX4_leftOverCents_2 : decode cX4_leftOverCents 2 = .ok (.iload_n 2, 1) := by decide +kernel
theorem dX4_leftOverCents_3 : decode cX4_leftOverCents 3 = .ok (.invokevirtual 249, 3) := by decide +kernel
theorem dX4_leftOverCents_6 : decode cX4_leftOverCents 6 = .ok (.istore 4, 2) := by decide +kernel
theorem dX4_leftOverCents_8 : decode cX4_leftOverCents 8 = .ok (.aload_n 1, 1) := by decide +kernel
theorem dX4_leftOverCents_9 : decode cX4_leftOverCents 9 = .ok (.getfield 147, 3) := by decide +kernel
theorem dX4_leftOverCents_12 : decode cX4_leftOverCents 12 = .ok (.iload_n 2, 1) := by decide +kernel
theorem dX4_leftOverCents_13 : decode cX4_leftOverCents 13 = .ok (.aaload, 1) := by decide +kernel
theorem dX4_leftOverCents_14 : decode cX4_leftOverCents 14 = .ok (.getfield 252, 3) := by decide +kernel
theorem dX4_leftOverCents_17 : decode cX4_leftOverCents 17 = .ok (.istore 5, 2) := by decide +kernel
theorem dX4_leftOverCents_19 : decode cX4_leftOverCents 19 = .ok (.iload 4, 2) := by decide +kernel
theorem dX4_leftOverCents_21 : decode cX4_leftOverCents 21 = .ok (.ifCond .eq 8, 3) := by decide +kernel
theorem dX4_leftOverCents_24 : decode cX4_leftOverCents 24 = .ok (.iload 5, 2) := by decide +kernel
theorem dX4_leftOverCents_26 : decode cX4_leftOverCents 26 = .ok (.ifCond .gt 5, 3) := by decide +kernel
theorem dX4_leftOverCents_29 : decode cX4_leftOverCents 29 = .ok (.iconst 0, 1) := by decide +kernel
theorem dX4_leftOverCents_30 : decode cX4_leftOverCents 30 = .ok (.ireturn, 1) := by decide +kernel
theorem dX4_leftOverCents_31 : decode cX4_leftOverCents 31 = .ok (.iload_n 3, 1) := by decide +kernel
theorem dX4_leftOverCents_32 : decode cX4_leftOverCents 32 = .ok (.aload_n 0, 1) := by decide +kernel
theorem dX4_leftOverCents_33 : decode cX4_leftOverCents 33 = .ok (.aload_n 1, 1) := by decide +kernel
theorem dX4_leftOverCents_34 : decode cX4_leftOverCents 34 = .ok (.iload_n 2, 1) := by decide +kernel
theorem dX4_leftOverCents_35 : decode cX4_leftOverCents 35 = .ok (.aload_n 1, 1) := by decide +kernel
theorem dX4_leftOverCents_36 : decode cX4_leftOverCents 36 = .ok (.iload_n 2, 1) := by decide +kernel
theorem dX4_leftOverCents_37 : decode cX4_leftOverCents 37 = .ok (.invokevirtual 246, 3) := by decide +kernel
theorem dX4_leftOverCents_40 : decode cX4_leftOverCents 40 = .ok (.invokevirtual 239, 3) := by decide +kernel
theorem dX4_leftOverCents_43 : decode cX4_leftOverCents 43 = .ok (.isub, 1) := by decide +kernel
theorem dX4_leftOverCents_44 : decode cX4_leftOverCents 44 = .ok (.istore 6, 2) := by decide +kernel
theorem dX4_leftOverCents_46 : decode cX4_leftOverCents 46 = .ok (.iload 6, 2) := by decide +kernel
theorem dX4_leftOverCents_48 : decode cX4_leftOverCents 48 = .ok (.ifCond .lt 10, 3) := by decide +kernel
theorem dX4_leftOverCents_51 : decode cX4_leftOverCents 51 = .ok (.iload 6, 2) := by decide +kernel
theorem dX4_leftOverCents_53 : decode cX4_leftOverCents 53 = .ok (.iload 5, 2) := by decide +kernel
theorem dX4_leftOverCents_55 : decode cX4_leftOverCents 55 = .ok (.if_icmp .le 7, 3) := by decide +kernel
theorem dX4_leftOverCents_58 : decode cX4_leftOverCents 58 = .ok (.iconst 0, 1) := by decide +kernel
theorem dX4_leftOverCents_59 : decode cX4_leftOverCents 59 = .ok (.goto 24, 3) := by decide +kernel
theorem dX4_leftOverCents_62 : decode cX4_leftOverCents 62 = .ok (.iload 4, 2) := by decide +kernel
theorem dX4_leftOverCents_64 : decode cX4_leftOverCents 64 = .ok (.aload_n 1, 1) := by decide +kernel
theorem dX4_leftOverCents_65 : decode cX4_leftOverCents 65 = .ok (.getfield 147, 3) := by decide +kernel
theorem dX4_leftOverCents_68 : decode cX4_leftOverCents 68 = .ok (.iload_n 2, 1) := by decide +kernel
theorem dX4_leftOverCents_69 : decode cX4_leftOverCents 69 = .ok (.aaload, 1) := by decide +kernel
theorem dX4_leftOverCents_70 : decode cX4_leftOverCents 70 = .ok (.getfield 255, 3) := by decide +kernel
theorem dX4_leftOverCents_73 : decode cX4_leftOverCents 73 = .ok (.iload 5, 2) := by decide +kernel
theorem dX4_leftOverCents_75 : decode cX4_leftOverCents 75 = .ok (.iload 6, 2) := by decide +kernel
theorem dX4_leftOverCents_77 : decode cX4_leftOverCents 77 = .ok (.isub, 1) := by decide +kernel
theorem dX4_leftOverCents_78 : decode cX4_leftOverCents 78 = .ok (.imul, 1) := by decide +kernel
theorem dX4_leftOverCents_79 : decode cX4_leftOverCents 79 = .ok (.iload 5, 2) := by decide +kernel
theorem dX4_leftOverCents_81 : decode cX4_leftOverCents 81 = .ok (.idiv, 1) := by decide +kernel
theorem dX4_leftOverCents_82 : decode cX4_leftOverCents 82 = .ok (.imul, 1) := by decide +kernel
theorem dX4_leftOverCents_83 : decode cX4_leftOverCents 83 = .ok (.ireturn, 1) := by decide +kernel
theorem dX4_hasBatch_0 : decode cX4_hasBatch 0 = .ok (.iload_n 1, 1) := by decide +kernel
theorem dX4_hasBatch_1 : decode cX4_hasBatch 1 = .ok (.ifCond .lt 15, 3) := by decide +kernel
theorem dX4_hasBatch_4 : decode cX4_hasBatch 4 = .ok (.iload_n 1, 1) := by decide +kernel
theorem dX4_hasBatch_5 : decode cX4_hasBatch 5 = .ok (.aload_n 0, 1) := by decide +kernel
theorem dX4_hasBatch_6 : decode cX4_hasBatch 6 = .ok (.getfield 82, 3) := by decide +kernel
theorem dX4_hasBatch_9 : decode cX4_hasBatch 9 = .ok (.if_icmp .ge 7, 3) := by decide +kernel
theorem dX4_hasBatch_12 : decode cX4_hasBatch 12 = .ok (.iconst 1, 1) := by decide +kernel
theorem dX4_hasBatch_13 : decode cX4_hasBatch 13 = .ok (.goto 4, 3) := by decide +kernel
theorem dX4_hasBatch_16 : decode cX4_hasBatch 16 = .ok (.iconst 0, 1) := by decide +kernel
theorem dX4_hasBatch_17 : decode cX4_hasBatch 17 = .ok (.ireturn, 1) := by decide +kernel
theorem dX4_isPlace_0 : decode cX4_isPlace 0 = .ok (.iload_n 0, 1) := by decide +kernel
theorem dX4_isPlace_1 : decode cX4_isPlace 1 = .ok (.ifCond .lt 12, 3) := by decide +kernel
theorem dX4_isPlace_4 : decode cX4_isPlace 4 = .ok (.iload_n 0, 1) := by decide +kernel
theorem dX4_isPlace_5 : decode cX4_isPlace 5 = .ok (.iconst 3, 1) := by decide +kernel
theorem dX4_isPlace_6 : decode cX4_isPlace 6 = .ok (.if_icmp .ge 7, 3) := by decide +kernel
theorem dX4_isPlace_9 : decode cX4_isPlace 9 = .ok (.iconst 1, 1) := by decide +kernel
theorem dX4_isPlace_10 : decode cX4_isPlace 10 = .ok (.goto 4, 3) := by decide +kernel
theorem dX4_isPlace_13 : decode cX4_isPlace 13 = .ok (.iconst 0, 1) := by decide +kernel
theorem dX4_isPlace_14 : decode cX4_isPlace 14 = .ok (.ireturn, 1) := by decide +kernel
theorem dX4_stageAt_0 : decode cX4_stageAt 0 = .ok (.iconst 2, 1) := by decide +kernel
theorem dX4_stageAt_1 : decode cX4_stageAt 1 = .ok (.iload_n 0, 1) := by decide +kernel
theorem dX4_stageAt_2 : decode cX4_stageAt 2 = .ok (.imul, 1) := by decide +kernel
theorem dX4_stageAt_3 : decode cX4_stageAt 3 = .ok (.ireturn, 1) := by decide +kernel
theorem dX4_spoiledBatches_0 : decode cX4_spoiledBatches 0 = .ok (.iconst 0, 1) := by decide +kernel
theorem dX4_spoiledBatches_1 : decode cX4_spoiledBatches 1 = .ok (.istore_n 1, 1) := by decide +kernel
theorem dX4_spoiledBatches_2 : decode cX4_spoiledBatches 2 = .ok (.iconst 0, 1) := by decide +kernel
theorem dX4_spoiledBatches_3 : decode cX4_spoiledBatches 3 = .ok (.istore_n 2, 1) := by decide +kernel
theorem dX4_spoiledBatches_4 : decode cX4_spoiledBatches 4 = .ok (.iload_n 2, 1) := by decide +kernel
theorem dX4_spoiledBatches_5 : decode cX4_spoiledBatches 5 = .ok (.aload_n 0, 1) := by decide +kernel
theorem dX4_spoiledBatches_6 : decode cX4_spoiledBatches 6 = .ok (.getfield 82, 3) := by decide +kernel
theorem dX4_spoiledBatches_9 : decode cX4_spoiledBatches 9 = .ok (.if_icmp .ge 27, 3) := by decide +kernel
theorem dX4_spoiledBatches_12 : decode cX4_spoiledBatches 12 = .ok (.iload_n 1, 1) := by decide +kernel
theorem dX4_spoiledBatches_13 : decode cX4_spoiledBatches 13 = .ok (.aload_n 0, 1) := by decide +kernel
theorem dX4_spoiledBatches_14 : decode cX4_spoiledBatches 14 = .ok (.getfield 29, 3) := by decide +kernel
theorem dX4_spoiledBatches_17 : decode cX4_spoiledBatches 17 = .ok (.iload_n 2, 1) := by decide +kernel
theorem dX4_spoiledBatches_18 : decode cX4_spoiledBatches 18 = .ok (.iaload, 1) := by decide +kernel
theorem dX4_spoiledBatches_19 : decode cX4_spoiledBatches 19 = .ok (.iconst (-1), 1) := by decide +kernel
theorem dX4_spoiledBatches_20 : decode cX4_spoiledBatches 20 = .ok (.if_icmp .ne 7, 3) := by decide +kernel
theorem dX4_spoiledBatches_23 : decode cX4_spoiledBatches 23 = .ok (.iconst 0, 1) := by decide +kernel
theorem dX4_spoiledBatches_24 : decode cX4_spoiledBatches 24 = .ok (.goto 4, 3) := by decide +kernel
theorem dX4_spoiledBatches_27 : decode cX4_spoiledBatches 27 = .ok (.iconst 1, 1) := by decide +kernel
theorem dX4_spoiledBatches_28 : decode cX4_spoiledBatches 28 = .ok (.iadd, 1) := by decide +kernel
theorem dX4_spoiledBatches_29 : decode cX4_spoiledBatches 29 = .ok (.istore_n 1, 1) := by decide +kernel
theorem dX4_spoiledBatches_30 : decode cX4_spoiledBatches 30 = .ok (.iinc 2 1, 3) := by decide +kernel
theorem dX4_spoiledBatches_33 : decode cX4_spoiledBatches 33 = .ok (.goto (-29), 3) := by decide +kernel
theorem dX4_spoiledBatches_36 : decode cX4_spoiledBatches 36 = .ok (.iload_n 1, 1) := by decide +kernel
theorem dX4_spoiledBatches_37 : decode cX4_spoiledBatches 37 = .ok (.ireturn, 1) := by decide +kernel
theorem dX4_minutesBakedIn_0 : decode cX4_minutesBakedIn 0 = .ok (.iconst 0, 1) := by decide +kernel
theorem dX4_minutesBakedIn_1 : decode cX4_minutesBakedIn 1 = .ok (.istore_n 2, 1) := by decide +kernel
theorem dX4_minutesBakedIn_2 : decode cX4_minutesBakedIn 2 = .ok (.iconst 0, 1) := by decide +kernel
theorem dX4_minutesBakedIn_3 : decode cX4_minutesBakedIn 3 = .ok (.istore_n 3, 1) := by decide +kernel
theorem dX4_minutesBakedIn_4 : decode cX4_minutesBakedIn 4 = .ok (.iload_n 3, 1) := by decide +kernel
theorem dX4_minutesBakedIn_5 : decode cX4_minutesBakedIn 5 = .ok (.aload_n 0, 1) := by decide +kernel
theorem dX4_minutesBakedIn_6 : decode cX4_minutesBakedIn 6 = .ok (.getfield 82, 3) := by decide +kernel
theorem dX4_minutesBakedIn_9 : decode cX4_minutesBakedIn 9 = .ok (.if_icmp .ge 39, 3) := by decide +kernel
theorem dX4_minutesBakedIn_12 : decode cX4_minutesBakedIn 12 = .ok (.aload_n 0, 1) := by decide +kernel
theorem dX4_minutesBakedIn_13 : decode cX4_minutesBakedIn 13 = .ok (.getfield 15, 3) := by decide +kernel
theorem dX4_minutesBakedIn_16 : decode cX4_minutesBakedIn 16 = .ok (.iload_n 3, 1) := by decide +kernel
theorem dX4_minutesBakedIn_17 : decode cX4_minutesBakedIn 17 = .ok (.iaload, 1) := by decide +kernel
theorem dX4_minutesBakedIn_18 : decode cX4_minutesBakedIn 18 = .ok (.iload_n 1, 1) := by decide +kernel
theorem dX4_minutesBakedIn_19 : decode cX4_minutesBakedIn 19 = .ok (.if_icmp .ne 23, 3) := by decide +kernel
theorem dX4_minutesBakedIn_22 : decode cX4_minutesBakedIn 22 = .ok (.iload_n 2, 1) := by decide +kernel
theorem dX4_minutesBakedIn_23 : decode cX4_minutesBakedIn 23 = .ok (.aload_n 0, 1) := by decide +kernel
theorem dX4_minutesBakedIn_24 : decode cX4_minutesBakedIn 24 = .ok (.getfield 20, 3) := by decide +kernel
theorem dX4_minutesBakedIn_27 : decode cX4_minutesBakedIn 27 = .ok (.iconst 5, 1) := by decide +kernel
theorem dX4_minutesBakedIn_28 : decode cX4_minutesBakedIn 28 = .ok (.aaload, 1) := by decide +kernel
theorem dX4_minutesBakedIn_29 : decode cX4_minutesBakedIn 29 = .ok (.iload_n 3, 1) := by decide +kernel
theorem dX4_minutesBakedIn_30 : decode cX4_minutesBakedIn 30 = .ok (.iaload, 1) := by decide +kernel
theorem dX4_minutesBakedIn_31 : decode cX4_minutesBakedIn 31 = .ok (.aload_n 0, 1) := by decide +kernel
theorem dX4_minutesBakedIn_32 : decode cX4_minutesBakedIn 32 = .ok (.getfield 20, 3) := by decide +kernel
theorem dX4_minutesBakedIn_35 : decode cX4_minutesBakedIn 35 = .ok (.iconst 4, 1) := by decide +kernel
theorem dX4_minutesBakedIn_36 : decode cX4_minutesBakedIn 36 = .ok (.aaload, 1) := by decide +kernel
theorem dX4_minutesBakedIn_37 : decode cX4_minutesBakedIn 37 = .ok (.iload_n 3, 1) := by decide +kernel
theorem dX4_minutesBakedIn_38 : decode cX4_minutesBakedIn 38 = .ok (.iaload, 1) := by decide +kernel
theorem dX4_minutesBakedIn_39 : decode cX4_minutesBakedIn 39 = .ok (.isub, 1) := by decide +kernel
theorem dX4_minutesBakedIn_40 : decode cX4_minutesBakedIn 40 = .ok (.iadd, 1) := by decide +kernel
theorem dX4_minutesBakedIn_41 : decode cX4_minutesBakedIn 41 = .ok (.istore_n 2, 1) := by decide +kernel
theorem dX4_minutesBakedIn_42 : decode cX4_minutesBakedIn 42 = .ok (.iinc 3 1, 3) := by decide +kernel
theorem dX4_minutesBakedIn_45 : decode cX4_minutesBakedIn 45 = .ok (.goto (-41), 3) := by decide +kernel
theorem dX4_minutesBakedIn_48 : decode cX4_minutesBakedIn 48 = .ok (.iload_n 2, 1) := by decide +kernel
theorem dX4_minutesBakedIn_49 : decode cX4_minutesBakedIn 49 = .ok (.ireturn, 1) := by decide +kernel
theorem dX4_minutesWaitedFor_0 : decode cX4_minutesWaitedFor 0 = .ok (.iconst 0, 1) := by decide +kernel
theorem dX4_minutesWaitedFor_1 : decode cX4_minutesWaitedFor 1 = .ok (.istore_n 2, 1) := by decide +kernel
theorem dX4_minutesWaitedFor_2 : decode cX4_minutesWaitedFor 2 = .ok (.iconst 0, 1) := by decide +kernel
theorem dX4_minutesWaitedFor_3 : decode cX4_minutesWaitedFor 3 = .ok (.istore_n 3, 1) := by decide +kernel
theorem dX4_minutesWaitedFor_4 : decode cX4_minutesWaitedFor 4 = .ok (.iload_n 3, 1) := by decide +kernel
theorem dX4_minutesWaitedFor_5 : decode cX4_minutesWaitedFor 5 = .ok (.aload_n 0, 1) := by decide +kernel
theorem dX4_minutesWaitedFor_6 : decode cX4_minutesWaitedFor 6 = .ok (.getfield 82, 3) := by decide +kernel
theorem dX4_minutesWaitedFor_9 : decode cX4_minutesWaitedFor 9 = .ok (.if_icmp .ge 91, 3) := by decide +kernel
theorem dX4_minutesWaitedFor_12 : decode cX4_minutesWaitedFor 12 = .ok (.iload_n 1, 1) := by decide +kernel
theorem dX4_minutesWaitedFor_13 : decode cX4_minutesWaitedFor 13 = .ok (.invokestatic 258, 3) := by decide +kernel
theorem dX4_minutesWaitedFor_16 : decode cX4_minutesWaitedFor 16 = .ok (.ifCond .ne 22, 3) := by decide +kernel
theorem dX4_minutesWaitedFor_19 : decode cX4_minutesWaitedFor 19 = .ok (.iload_n 2, 1) := by decide +kernel
theorem dX4_minutesWaitedFor_20 : decode cX4_minutesWaitedFor 20 = .ok (.aload_n 0, 1) := by decide +kernel
theorem dX4_minutesWaitedFor_21 : decode cX4_minutesWaitedFor 21 = .ok (.getfield 20, 3) := by decide +kernel
theorem dX4_minutesWaitedFor_24 : decode cX4_minutesWaitedFor 24 = .ok (.iconst 0, 1) := by decide +kernel
theorem dX4_minutesWaitedFor_25 : decode cX4_minutesWaitedFor 25 = .ok (.aaload, 1) := by decide +kernel
theorem dX4_minutesWaitedFor_26 : decode cX4_minutesWaitedFor 26 = .ok (.iload_n 3, 1) := by decide +kernel
theorem dX4_minutesWaitedFor_27 : decode cX4_minutesWaitedFor 27 = .ok (.iaload, 1) := by decide +kernel
theorem dX4_minutesWaitedFor_28 : decode cX4_minutesWaitedFor 28 = .ok (.aload_n 0, 1) := by decide +kernel
theorem dX4_minutesWaitedFor_29 : decode cX4_minutesWaitedFor 29 = .ok (.getfield 99, 3) := by decide +kernel
theorem dX4_minutesWaitedFor_32 : decode cX4_minutesWaitedFor 32 = .ok (.isub, 1) := by decide +kernel
theorem dX4_minutesWaitedFor_33 : decode cX4_minutesWaitedFor 33 = .ok (.iadd, 1) := by decide +kernel
theorem dX4_minutesWaitedFor_34 : decode cX4_minutesWaitedFor 34 = .ok (.istore_n 2, 1) := by decide +kernel
theorem dX4_minutesWaitedFor_35 : decode cX4_minutesWaitedFor 35 = .ok (.goto 59, 3) := by decide +kernel
theorem dX4_minutesWaitedFor_38 : decode cX4_minutesWaitedFor 38 = .ok (.iload_n 1, 1) := by decide +kernel
theorem dX4_minutesWaitedFor_39 : decode cX4_minutesWaitedFor 39 = .ok (.invokestatic 258, 3) := by decide +kernel
theorem dX4_minutesWaitedFor_42 : decode cX4_minutesWaitedFor 42 = .ok (.iconst 2, 1) := by decide +kernel
theorem dX4_minutesWaitedFor_43 : decode cX4_minutesWaitedFor 43 = .ok (.if_icmp .ne 24, 3) := by decide +kernel
theorem dX4_minutesWaitedFor_46 : decode cX4_minutesWaitedFor 46 = .ok (.iload_n 2, 1) := by decide +kernel
theorem dX4_minutesWaitedFor_47 : decode cX4_minutesWaitedFor 47 = .ok (.aload_n 0, 1) := by decide +kernel
theorem dX4_minutesWaitedFor_48 : decode cX4_minutesWaitedFor 48 = .ok (.getfield 20, 3) := by decide +kernel
theorem dX4_minutesWaitedFor_51 : decode cX4_minutesWaitedFor 51 = .ok (.iconst 2, 1) := by decide +kernel
theorem dX4_minutesWaitedFor_52 : decode cX4_minutesWaitedFor 52 = .ok (.aaload, 1) := by decide +kernel
theorem dX4_minutesWaitedFor_53 : decode cX4_minutesWaitedFor 53 = .ok (.iload_n 3, 1) := by decide +kernel
theorem dX4_minutesWaitedFor_54 : decode cX4_minutesWaitedFor 54 = .ok (.iaload, 1) := by decide +kernel
theorem dX4_minutesWaitedFor_55 : decode cX4_minutesWaitedFor 55 = .ok (.aload_n 0, 1) := by decide +kernel
theorem dX4_minutesWaitedFor_56 : decode cX4_minutesWaitedFor 56 = .ok (.getfield 23, 3) := by decide +kernel
theorem dX4_minutesWaitedFor_59 : decode cX4_minutesWaitedFor 59 = .ok (.iload_n 3, 1) := by decide +kernel
theorem dX4_minutesWaitedFor_60 : decode cX4_minutesWaitedFor 60 = .ok (.iaload, 1) := by decide +kernel
theorem dX4_minutesWaitedFor_61 : decode cX4_minutesWaitedFor 61 = .ok (.isub, 1) := by decide +kernel
theorem dX4_minutesWaitedFor_62 : decode cX4_minutesWaitedFor 62 = .ok (.iadd, 1) := by decide +kernel
theorem dX4_minutesWaitedFor_63 : decode cX4_minutesWaitedFor 63 = .ok (.istore_n 2, 1) := by decide +kernel
theorem dX4_minutesWaitedFor_64 : decode cX4_minutesWaitedFor 64 = .ok (.goto 30, 3) := by decide +kernel
theorem dX4_minutesWaitedFor_67 : decode cX4_minutesWaitedFor 67 = .ok (.iload_n 2, 1) := by decide +kernel
theorem dX4_minutesWaitedFor_68 : decode cX4_minutesWaitedFor 68 = .ok (.aload_n 0, 1) := by decide +kernel
theorem dX4_minutesWaitedFor_69 : decode cX4_minutesWaitedFor 69 = .ok (.getfield 20, 3) := by decide +kernel
theorem dX4_minutesWaitedFor_72 : decode cX4_minutesWaitedFor 72 = .ok (.iconst 4, 1) := by decide +kernel
theorem dX4_minutesWaitedFor_73 : decode cX4_minutesWaitedFor 73 = .ok (.aaload, 1) := by decide +kernel
theorem dX4_minutesWaitedFor_74 : decode cX4_minutesWaitedFor 74 = .ok (.iload_n 3, 1) := by decide +kernel
theorem dX4_minutesWaitedFor_75 : decode cX4_minutesWaitedFor 75 = .ok (.iaload, 1) := by decide +kernel
theorem dX4_minutesWaitedFor_76 : decode cX4_minutesWaitedFor 76 = .ok (.aload_n 0, 1) := by decide +kernel
theorem dX4_minutesWaitedFor_77 : decode cX4_minutesWaitedFor 77 = .ok (.getfield 29, 3) := by decide +kernel
theorem dX4_minutesWaitedFor_80 : decode cX4_minutesWaitedFor 80 = .ok (.iload_n 3, 1) := by decide +kernel
theorem dX4_minutesWaitedFor_81 : decode cX4_minutesWaitedFor 81 = .ok (.iaload, 1) := by decide +kernel
theorem dX4_minutesWaitedFor_82 : decode cX4_minutesWaitedFor 82 = .ok (.invokestatic 89, 3) := by decide +kernel
theorem dX4_minutesWaitedFor_85 : decode cX4_minutesWaitedFor 85 = .ok (.aload_n 0, 1) := by decide +kernel
theorem dX4_minutesWaitedFor_86 : decode cX4_minutesWaitedFor 86 = .ok (.getfield 26, 3) := by decide +kernel
theorem dX4_minutesWaitedFor_89 : decode cX4_minutesWaitedFor 89 = .ok (.iload_n 3, 1) := by decide +kernel
theorem dX4_minutesWaitedFor_90 : decode cX4_minutesWaitedFor 90 = .ok (.iaload, 1) := by decide +kernel
theorem dX4_minutesWaitedFor_91 : decode cX4_minutesWaitedFor 91 = .ok (.isub, 1) := by decide +kernel
theorem dX4_minutesWaitedFor_92 : decode cX4_minutesWaitedFor 92 = .ok (.iadd, 1) := by decide +kernel
theorem dX4_minutesWaitedFor_93 : decode cX4_minutesWaitedFor 93 = .ok (.istore_n 2, 1) := by decide +kernel
theorem dX4_minutesWaitedFor_94 : decode cX4_minutesWaitedFor 94 = .ok (.iinc 3 1, 3) := by decide +kernel
theorem dX4_minutesWaitedFor_97 : decode cX4_minutesWaitedFor 97 = .ok (.goto (-93), 3) := by decide +kernel
theorem dX4_minutesWaitedFor_100 : decode cX4_minutesWaitedFor 100 = .ok (.iload_n 2, 1) := by decide +kernel
theorem dX4_minutesWaitedFor_101 : decode cX4_minutesWaitedFor 101 = .ok (.ireturn, 1) := by decide +kernel
theorem dX4_isIn_0 : decode cX4_isIn 0 = .ok (.aload_n 0, 1) := by decide +kernel
theorem dX4_isIn_1 : decode cX4_isIn 1 = .ok (.getfield 20, 3) := by decide +kernel
theorem dX4_isIn_4 : decode cX4_isIn 4 = .ok (.iload_n 2, 1) := by decide +kernel
theorem dX4_isIn_5 : decode cX4_isIn 5 = .ok (.aaload, 1) := by decide +kernel
theorem dX4_isIn_6 : decode cX4_isIn 6 = .ok (.iload_n 1, 1) := by decide +kernel
theorem dX4_isIn_7 : decode cX4_isIn 7 = .ok (.iaload, 1) := by decide +kernel
theorem dX4_isIn_8 : decode cX4_isIn 8 = .ok (.istore 4, 2) := by decide +kernel
theorem dX4_isIn_10 : decode cX4_isIn 10 = .ok (.iload 4, 2) := by decide +kernel
theorem dX4_isIn_12 : decode cX4_isIn 12 = .ok (.iconst (-1), 1) := by decide +kernel
theorem dX4_isIn_13 : decode cX4_isIn 13 = .ok (.if_icmp .eq 27, 3) := by decide +kernel
theorem dX4_isIn_16 : decode cX4_isIn 16 = .ok (.iload 4, 2) := by decide +kernel
theorem dX4_isIn_18 : decode cX4_isIn 18 = .ok (.iload_n 3, 1) := by decide +kernel
theorem dX4_isIn_19 : decode cX4_isIn 19 = .ok (.if_icmp .gt 21, 3) := by decide +kernel
theorem dX4_isIn_22 : decode cX4_isIn 22 = .ok (.iload_n 3, 1) := by decide +kernel
theorem dX4_isIn_23 : decode cX4_isIn 23 = .ok (.aload_n 0, 1) := by decide +kernel
theorem dX4_isIn_24 : decode cX4_isIn 24 = .ok (.getfield 20, 3) := by decide +kernel
theorem dX4_isIn_27 : decode cX4_isIn 27 = .ok (.iload_n 2, 1) := by decide +kernel
theorem dX4_isIn_28 : decode cX4_isIn 28 = .ok (.iconst 1, 1) := by decide +kernel
theorem dX4_isIn_29 : decode cX4_isIn 29 = .ok (.iadd, 1) := by decide +kernel
theorem dX4_isIn_30 : decode cX4_isIn 30 = .ok (.aaload, 1) := by decide +kernel
theorem dX4_isIn_31 : decode cX4_isIn 31 = .ok (.iload_n 1, 1) := by decide +kernel
theorem dX4_isIn_32 : decode cX4_isIn 32 = .ok (.iaload, 1) := by decide +kernel
theorem dX4_isIn_33 : decode cX4_isIn 33 = .ok (.if_icmp .ge 7, 3) := by decide +kernel
theorem dX4_isIn_36 : decode cX4_isIn 36 = .ok (.iconst 1, 1) := by decide +kernel
theorem dX4_isIn_37 : decode cX4_isIn 37 = .ok (.goto 4, 3) := by decide +kernel
theorem dX4_isIn_40 : decode cX4_isIn 40 = .ok (.iconst 0, 1) := by decide +kernel
theorem dX4_isIn_41 : decode cX4_isIn 41 = .ok (.ireturn, 1) := by decide +kernel
theorem dX4_shelvesTaken_0 : decode cX4_shelvesTaken 0 = .ok (.iconst 0, 1) := by decide +kernel
theorem dX4_shelvesTaken_1 : decode cX4_shelvesTaken 1 = .ok (.istore_n 3, 1) := by decide +kernel
theorem dX4_shelvesTaken_2 : decode cX4_shelvesTaken 2 = .ok (.iconst 0, 1) := by decide +kernel
theorem dX4_shelvesTaken_3 : decode cX4_shelvesTaken 3 = .ok (.istore 4, 2) := by decide +kernel
theorem dX4_shelvesTaken_5 : decode cX4_shelvesTaken 5 = .ok (.iload 4, 2) := by decide +kernel
theorem dX4_shelvesTaken_7 : decode cX4_shelvesTaken 7 = .ok (.aload_n 0, 1) := by decide +kernel
theorem dX4_shelvesTaken_8 : decode cX4_shelvesTaken 8 = .ok (.getfield 82, 3) := by decide +kernel
theorem dX4_shelvesTaken_11 : decode cX4_shelvesTaken 11 = .ok (.if_icmp .ge 39, 3) := by decide +kernel
theorem dX4_shelvesTaken_14 : decode cX4_shelvesTaken 14 = .ok (.iload_n 3, 1) := by decide +kernel
theorem dX4_shelvesTaken_15 : decode cX4_shelvesTaken 15 = .ok (.aload_n 0, 1) := by decide +kernel
theorem dX4_shelvesTaken_16 : decode cX4_shelvesTaken 16 = .ok (.getfield 15, 3) := by decide +kernel
theorem dX4_shelvesTaken_19 : decode cX4_shelvesTaken 19 = .ok (.iload 4, 2) := by decide +kernel
theorem dX4_shelvesTaken_21 : decode cX4_shelvesTaken 21 = .ok (.iaload, 1) := by decide +kernel
theorem dX4_shelvesTaken_22 : decode cX4_shelvesTaken 22 = .ok (.iload_n 1, 1) := by decide +kernel
theorem dX4_shelvesTaken_23 : decode cX4_shelvesTaken 23 = .ok (.if_icmp .ne 18, 3) := by decide +kernel
theorem dX4_shelvesTaken_26 : decode cX4_shelvesTaken 26 = .ok (.aload_n 0, 1) := by decide +kernel
theorem dX4_shelvesTaken_27 : decode cX4_shelvesTaken 27 = .ok (.iload 4, 2) := by decide +kernel
theorem dX4_shelvesTaken_29 : decode cX4_shelvesTaken 29 = .ok (.iconst 4, 1) := by decide +kernel
theorem dX4_shelvesTaken_30 : decode cX4_shelvesTaken 30 = .ok (.iload_n 2, 1) := by decide +kernel
theorem dX4_shelvesTaken_31 : decode cX4_shelvesTaken 31 = .ok (.invokevirtual 261, 3) := by decide +kernel
theorem dX4_shelvesTaken_34 : decode cX4_shelvesTaken 34 = .ok (.ifCond .eq 7, 3) := by decide +kernel
theorem dX4_shelvesTaken_37 : decode cX4_shelvesTaken 37 = .ok (.iconst 1, 1) := by decide +kernel
theorem dX4_shelvesTaken_38 : decode cX4_shelvesTaken 38 = .ok (.goto 4, 3) := by decide +kernel
theorem dX4_shelvesTaken_41 : decode cX4_shelvesTaken 41 = .ok (.iconst 0, 1) := by decide +kernel
theorem dX4_shelvesTaken_42 : decode cX4_shelvesTaken 42 = .ok (.iadd, 1) := by decide +kernel
theorem dX4_shelvesTaken_43 : decode cX4_shelvesTaken 43 = .ok (.istore_n 3, 1) := by decide +kernel
theorem dX4_shelvesTaken_44 : decode cX4_shelvesTaken 44 = .ok (.iinc 4 1, 3) := by decide +kernel
theorem dX4_shelvesTaken_47 : decode cX4_shelvesTaken 47 = .ok (.goto (-42), 3) := by decide +kernel
theorem dX4_shelvesTaken_50 : decode cX4_shelvesTaken 50 = .ok (.iload_n 3, 1) := by decide +kernel
theorem dX4_shelvesTaken_51 : decode cX4_shelvesTaken 51 = .ok (.ireturn, 1) := by decide +kernel
theorem dX4_inUse_0 : decode cX4_inUse 0 = .ok (.iconst 0, 1) := by decide +kernel
theorem dX4_inUse_1 : decode cX4_inUse 1 = .ok (.istore_n 3, 1) := by decide +kernel
theorem dX4_inUse_2 : decode cX4_inUse 2 = .ok (.iconst 0, 1) := by decide +kernel
theorem dX4_inUse_3 : decode cX4_inUse 3 = .ok (.istore 4, 2) := by decide +kernel
theorem dX4_inUse_5 : decode cX4_inUse 5 = .ok (.iload 4, 2) := by decide +kernel
theorem dX4_inUse_7 : decode cX4_inUse 7 = .ok (.aload_n 0, 1) := by decide +kernel
theorem dX4_inUse_8 : decode cX4_inUse 8 = .ok (.getfield 82, 3) := by decide +kernel
theorem dX4_inUse_11 : decode cX4_inUse 11 = .ok (.if_icmp .ge 28, 3) := by decide +kernel
theorem dX4_inUse_14 : decode cX4_inUse 14 = .ok (.iload_n 3, 1) := by decide +kernel
theorem dX4_inUse_15 : decode cX4_inUse 15 = .ok (.aload_n 0, 1) := by decide +kernel
theorem dX4_inUse_16 : decode cX4_inUse 16 = .ok (.iload 4, 2) := by decide +kernel
theorem dX4_inUse_18 : decode cX4_inUse 18 = .ok (.iload_n 1, 1) := by decide +kernel
theorem dX4_inUse_19 : decode cX4_inUse 19 = .ok (.iload_n 2, 1) := by decide +kernel
theorem dX4_inUse_20 : decode cX4_inUse 20 = .ok (.invokevirtual 261, 3) := by decide +kernel
theorem dX4_inUse_23 : decode cX4_inUse 23 = .ok (.ifCond .eq 7, 3) := by decide +kernel
theorem dX4_inUse_26 : decode cX4_inUse 26 = .ok (.iconst 1, 1) := by decide +kernel
theorem dX4_inUse_27 : decode cX4_inUse 27 = .ok (.goto 4, 3) := by decide +kernel
theorem dX4_inUse_30 : decode cX4_inUse 30 = .ok (.iconst 0, 1) := by decide +kernel
theorem dX4_inUse_31 : decode cX4_inUse 31 = .ok (.iadd, 1) := by decide +kernel
theorem dX4_inUse_32 : decode cX4_inUse 32 = .ok (.istore_n 3, 1) := by decide +kernel
theorem dX4_inUse_33 : decode cX4_inUse 33 = .ok (.iinc 4 1, 3) := by decide +kernel
theorem dX4_inUse_36 : decode cX4_inUse 36 = .ok (.goto (-31), 3) := by decide +kernel
theorem dX4_inUse_39 : decode cX4_inUse 39 = .ok (.iload_n 3, 1) := by decide +kernel
theorem dX4_inUse_40 : decode cX4_inUse 40 = .ok (.ireturn, 1) := by decide +kernel
theorem dX5_init_0 : decode cX5_init 0 = .ok (.aload_n 0, 1) := by decide +kernel
theorem dX5_init_1 : decode cX5_init 1 = .ok (.invokespecial 1, 3) := by decide +kernel
theorem dX5_init_4 : decode cX5_init 4 = .ok (.return_, 1) := by decide +kernel
theorem dX5_set_0 : decode cX5_set 0 = .ok (.aload_n 0, 1) := by decide +kernel
theorem dX5_set_1 : decode cX5_set 1 = .ok (.iload_n 1, 1) := by decide +kernel
theorem dX5_set_2 : decode cX5_set 2 = .ok (.putfield 7, 3) := by decide +kernel
theorem dX5_set_5 : decode cX5_set 5 = .ok (.aload_n 0, 1) := by decide +kernel
theorem dX5_set_6 : decode cX5_set 6 = .ok (.iload_n 2, 1) := by decide +kernel
theorem dX5_set_7 : decode cX5_set 7 = .ok (.putfield 13, 3) := by decide +kernel
theorem dX5_set_10 : decode cX5_set 10 = .ok (.aload_n 0, 1) := by decide +kernel
theorem dX5_set_11 : decode cX5_set 11 = .ok (.iload_n 3, 1) := by decide +kernel
theorem dX5_set_12 : decode cX5_set 12 = .ok (.putfield 16, 3) := by decide +kernel
theorem dX5_set_15 : decode cX5_set 15 = .ok (.aload_n 0, 1) := by decide +kernel
theorem dX5_set_16 : decode cX5_set 16 = .ok (.iload 4, 2) := by decide +kernel
theorem dX5_set_18 : decode cX5_set 18 = .ok (.putfield 19, 3) := by decide +kernel
theorem dX5_set_21 : decode cX5_set 21 = .ok (.aload_n 0, 1) := by decide +kernel
theorem dX5_set_22 : decode cX5_set 22 = .ok (.iconst 0, 1) := by decide +kernel
theorem dX5_set_23 : decode cX5_set 23 = .ok (.putfield 22, 3) := by decide +kernel
theorem dX5_set_26 : decode cX5_set 26 = .ok (.return_, 1) := by decide +kernel
theorem dX6_init_0 : decode cX6_init 0 = .ok (.aload_n 0, 1) := by decide +kernel
theorem dX6_init_1 : decode cX6_init 1 = .ok (.invokespecial 1, 3) := by decide +kernel
theorem dX6_init_4 : decode cX6_init 4 = .ok (.return_, 1) := by decide +kernel
theorem dX7_init_0 : decode cX7_init 0 = .ok (.aload_n 0, 1) := by decide +kernel
theorem dX7_init_1 : decode cX7_init 1 = .ok (.invokespecial 3, 3) := by decide +kernel
theorem dX7_init_4 : decode cX7_init 4 = .ok (.aload_n 0, 1) := by decide +kernel
theorem dX7_init_5 : decode cX7_init 5 = .ok (.new 9, 3) := by decide +kernel
theorem dX7_init_8 : decode cX7_init 8 = .ok (.dup, 1) := by decide +kernel
theorem dX7_init_9 : decode cX7_init 9 = .ok (.invokespecial 11, 3) := by decide +kernel
theorem dX7_init_12 : decode cX7_init 12 = .ok (.putfield 12, 3) := by decide +kernel
theorem dX7_init_15 : decode cX7_init 15 = .ok (.aload_n 0, 1) := by decide +kernel
theorem dX7_init_16 : decode cX7_init 16 = .ok (.bipush 6, 2) := by decide +kernel
theorem dX7_init_18 : decode cX7_init 18 = .ok (.newarray .long, 2) := by decide +kernel
theorem dX7_init_20 : decode cX7_init 20 = .ok (.putfield 20, 3) := by decide +kernel
theorem dX7_init_23 : decode cX7_init 23 = .ok (.aload_n 0, 1) := by decide +kernel
theorem dX7_init_24 : decode cX7_init 24 = .ok (.bipush 7, 2) := by decide +kernel
theorem dX7_init_26 : decode cX7_init 26 = .ok (.newarray .long, 2) := by decide +kernel
theorem dX7_init_28 : decode cX7_init 28 = .ok (.putfield 24, 3) := by decide +kernel
theorem dX7_init_31 : decode cX7_init 31 = .ok (.aload_n 0, 1) := by decide +kernel
theorem dX7_init_32 : decode cX7_init 32 = .ok (.iconst (-1), 1) := by decide +kernel
theorem dX7_init_33 : decode cX7_init 33 = .ok (.putfield 27, 3) := by decide +kernel
theorem dX7_init_36 : decode cX7_init 36 = .ok (.return_, 1) := by decide +kernel
theorem dX7_parse_0 : decode cX7_parse 0 = .ok (.aload_n 0, 1) := by decide +kernel
theorem dX7_parse_1 : decode cX7_parse 1 = .ok (.iconst 0, 1) := by decide +kernel
theorem dX7_parse_2 : decode cX7_parse 2 = .ok (.putfield 31, 3) := by decide +kernel
theorem dX7_parse_5 : decode cX7_parse 5 = .ok (.aload_n 0, 1) := by decide +kernel
theorem dX7_parse_6 : decode cX7_parse 6 = .ok (.iconst (-1), 1) := by decide +kernel
theorem dX7_parse_7 : decode cX7_parse 7 = .ok (.putfield 27, 3) := by decide +kernel
theorem dX7_parse_10 : decode cX7_parse 10 = .ok (.aload_n 0, 1) := by decide +kernel
theorem dX7_parse_11 : decode cX7_parse 11 = .ok (.iconst 0, 1) := by decide +kernel
theorem dX7_parse_12 : decode cX7_parse 12 = .ok (.putfield 34, 3) := by decide +kernel
theorem dX7_parse_15 : decode cX7_parse 15 = .ok (.aload_n 0, 1) := by decide +kernel
theorem dX7_parse_16 : decode cX7_parse 16 = .ok (.iconst 0, 1) := by decide +kernel
theorem dX7_parse_17 : decode cX7_parse 17 = .ok (.putfield 38, 3) := by decide +kernel
theorem dX7_parse_20 : decode cX7_parse 20 = .ok (.aload_n 0, 1) := by decide +kernel
theorem dX7_parse_21 : decode cX7_parse 21 = .ok (.iconst 0, 1) := by decide +kernel
theorem dX7_parse_22 : decode cX7_parse 22 = .ok (.putfield 41, 3) := by decide +kernel
theorem dX7_parse_25 : decode cX7_parse 25 = .ok (.aload_n 0, 1) := by decide +kernel
theorem dX7_parse_26 : decode cX7_parse 26 = .ok (.iconst 0, 1) := by decide +kernel
theorem dX7_parse_27 : decode cX7_parse 27 = .ok (.putfield 44, 3) := by decide +kernel
theorem dX7_parse_30 : decode cX7_parse 30 = .ok (.aload_n 3, 1) := by decide +kernel
theorem dX7_parse_31 : decode cX7_parse 31 = .ok (.invokevirtual 47, 3) := by decide +kernel
theorem dX7_parse_34 : decode cX7_parse 34 = .ok (.aload_n 0, 1) := by decide +kernel
theorem dX7_parse_35 : decode cX7_parse 35 = .ok (.getfield 12, 3) := by decide +kernel
theorem dX7_parse_38 : decode cX7_parse 38 = .ok (.aload_n 1, 1) := by decide +kernel
theorem dX7_parse_39 : decode cX7_parse 39 = .ok (.iload_n 2, 1) := by decide +kernel
theorem dX7_parse_40 : decode cX7_parse 40 = .ok (.invokevirtual 50, 3) := by decide +kernel
theorem dX7_parse_43 : decode cX7_parse 43 = .ok (.iconst 0, 1) := by decide +kernel
theorem dX7_parse_44 : decode cX7_parse 44 = .ok (.istore 4, 2) := by decide +kernel
theorem dX7_parse_46 : decode cX7_parse 46 = .ok (.aload_n 0, 1) := by decide +kernel
theorem dX7_parse_47 : decode cX7_parse 47 = .ok (.getfield 12, 3) := by decide +kernel
theorem dX7_parse_50 : decode cX7_parse 50 = .ok (.getfield 54, 3) := by decide +kernel
theorem dX7_parse_53 : decode cX7_parse 53 = .ok (.ifCond .eq 29, 3) := by decide +kernel
theorem dX7_parse_56 : decode cX7_parse 56 = .ok (.aload_n 0, 1) := by decide +kernel
theorem dX7_parse_57 : decode cX7_parse 57 = .ok (.getfield 31, 3) := by decide +kernel
theorem dX7_parse_60 : decode cX7_parse 60 = .ok (.ifCond .ne 22, 3) := by decide +kernel
theorem dX7_parse_63 : decode cX7_parse 63 = .ok (.iload 4, 2) := by decide +kernel
theorem dX7_parse_65 : decode cX7_parse 65 = .ok (.sipush 1600, 3) := by decide +kernel
theorem dX7_parse_68 : decode cX7_parse 68 = .ok (.if_icmp .ge 14, 3) := by decide +kernel
theorem dX7_parse_71 : decode cX7_parse 71 = .ok (.aload_n 0, 1) := by decide +kernel
theorem dX7_parse_72 : decode cX7_parse 72 = .ok (.aload_n 3, 1) := by decide +kernel
theorem dX7_parse_73 : decode cX7_parse 73 = .ok (.invokevirtual 57, 3) := by decide +kernel
theorem dX7_parse_76 : decode cX7_parse 76 = .ok (.iinc 4 1, 3) := by decide +kernel
theorem dX7_parse_79 : decode cX7_parse 79 = .ok (.goto (-33), 3) := by decide +kernel
theorem dX7_parse_82 : decode cX7_parse 82 = .ok (.aload_n 0, 1) := by decide +kernel
theorem dX7_parse_83 : decode cX7_parse 83 = .ok (.getfield 31, 3) := by decide +kernel
theorem dX7_parse_86 : decode cX7_parse 86 = .ok (.ifCond .eq 5, 3) := by decide +kernel
theorem dX7_parse_89 : decode cX7_parse 89 = .ok (.iconst (-1), 1) := by decide +kernel
theorem dX7_parse_90 : decode cX7_parse 90 = .ok (.ireturn, 1) := by decide +kernel
theorem dX7_parse_91 : decode cX7_parse 91 = .ok (.aload_n 3, 1) := by decide +kernel
theorem dX7_parse_92 : decode cX7_parse 92 = .ok (.getfield 61, 3) := by decide +kernel
theorem dX7_parse_95 : decode cX7_parse 95 = .ok (.aload_n 3, 1) := by decide +kernel
theorem dX7_parse_96 : decode cX7_parse 96 = .ok (.getfield 65, 3) := by decide +kernel
theorem dX7_parse_99 : decode cX7_parse 99 = .ok (.iconst (-1), 1) := by decide +kernel
theorem dX7_parse_100 : decode cX7_parse 100 = .ok (.invokevirtual 68, 3) := by decide +kernel
theorem dX7_parse_103 : decode cX7_parse 103 = .ok (.iload 4, 2) := by decide +kernel
theorem dX7_parse_105 : decode cX7_parse 105 = .ok (.ireturn, 1) := by decide +kernel
theorem dX7_fail_0 : decode cX7_fail 0 = .ok (.aload_n 0, 1) := by decide +kernel
theorem dX7_fail_1 : decode cX7_fail 1 = .ok (.getfield 31, 3) := by decide +kernel
theorem dX7_fail_4 : decode cX7_fail 4 = .ok (.ifCond .ne 19, 3) := by decide +kernel
theorem dX7_fail_7 : decode cX7_fail 7 = .ok (.aload_n 0, 1) := by decide +kernel
theorem dX7_fail_8 : decode cX7_fail 8 = .ok (.iload_n 1, 1) := by decide +kernel
theorem dX7_fail_9 : decode cX7_fail 9 = .ok (.putfield 31, 3) := by decide +kernel
theorem dX7_fail_12 : decode cX7_fail 12 = .ok (.aload_n 0, 1) := by decide +kernel
theorem dX7_fail_13 : decode cX7_fail 13 = .ok (.aload_n 0, 1) := by decide +kernel
theorem dX7_fail_14 : decode cX7_fail 14 = .ok (.getfield 12, 3) := by decide +kernel
theorem dX7_fail_17 : decode cX7_fail 17 = .ok (.getfield 74, 3) := by decide +kernel
theorem dX7_fail_20 : decode cX7_fail 20 = .ok (.putfield 27, 3) := by decide +kernel
theorem dX7_fail_23 : decode cX7_fail 23 = .ok (.return_, 1) := by decide +kernel
theorem dX7_failed_0 : decode cX7_failed 0 = .ok (.aload_n 0, 1) := by decide +kernel
theorem dX7_failed_1 : decode cX7_failed 1 = .ok (.getfield 31, 3) := by decide +kernel
theorem dX7_failed_4 : decode cX7_failed 4 = .ok (.ifCond .eq 7, 3) := by decide +kernel
theorem dX7_failed_7 : decode cX7_failed 7 = .ok (.iconst 1, 1) := by decide +kernel
theorem dX7_failed_8 : decode cX7_failed 8 = .ok (.goto 4, 3) := by decide +kernel
theorem dX7_failed_11 : decode cX7_failed 11 = .ok (.iconst 0, 1) := by decide +kernel
theorem dX7_failed_12 : decode cX7_failed 12 = .ok (.ireturn, 1) := by decide +kernel
theorem dX7_readStatement_0 : decode cX7_readStatement 0 = .ok (.aload_n 0, 1) := by decide +kernel
theorem dX7_readStatement_1 : decode cX7_readStatement 1 = .ok (.getfield 12, 3) := by decide +kernel
theorem dX7_readStatement_4 : decode cX7_readStatement 4 = .ok (.invokevirtual 77, 3) := by decide +kernel
theorem dX7_readStatement_7 : decode cX7_readStatement 7 = .ok (.astore_n 2, 1) := by decide +kernel
theorem dX7_readStatement_8 : decode cX7_readStatement 8 = .ok (.aload_n 2, 1) := by decide +kernel
theorem dX7_readStatement_9 : decode cX7_readStatement 9 = .ok (.ifnonnull 9, 3) := by decide +kernel
theorem dX7_readStatement_12 : decode cX7_readStatement 12 = .ok (.aload_n 0, 1) := by decide +kernel
theorem dX7_readStatement_13 : decode cX7_readStatement 13 = .ok (.iconst 1, 1) := by decide +kernel
theorem dX7_readStatement_14 : decode cX7_readStatement 14 = .ok (.invokevirtual 81, 3) := by decide +kernel
theorem dX7_readStatement_17 : decode cX7_readStatement 17 = .ok (.return_, 1) := by decide +kernel
theorem dX7_readStatement_18 : decode cX7_readStatement 18 = .ok (.getstatic 85, 3) := by decide +kernel
theorem dX7_readStatement_21 : decode cX7_readStatement 21 = .ok (.aload_n 2, 1) := by decide +kernel
theorem dX7_readStatement_22 : decode cX7_readStatement 22 = .ok (.invokevirtual 91, 3) := by decide +kernel
theorem dX7_readStatement_25 : decode cX7_readStatement 25 = .ok (.iaload, 1) := by decide +kernel
theorem dX7_readStatement_26 : decode cX7_readStatement 26 = .ok (.tableswitch 193 1 10 #[54, 78, 101, 123, 145, 153, 161, 169, 177, 185], 54) := by decide +kernel
theorem dX7_readStatement_80 : decode cX7_readStatement 80 = .ok (.aload_n 1, 1) := by decide +kernel
theorem dX7_readStatement_81 : decode cX7_readStatement 81 = .ok (.aload_n 0, 1) := by decide +kernel
theorem dX7_readStatement_82 : decode cX7_readStatement 82 = .ok (.aload_n 0, 1) := by decide +kernel
theorem dX7_readStatement_83 : decode cX7_readStatement 83 = .ok (.getfield 34, 3) := by decide +kernel
theorem dX7_readStatement_86 : decode cX7_readStatement 86 = .ok (.bipush 10, 2) := by decide +kernel
theorem dX7_readStatement_88 : decode cX7_readStatement 88 = .ok (.bipush 40, 2) := by decide +kernel
theorem dX7_readStatement_90 : decode cX7_readStatement 90 = .ok (.invokevirtual 97, 3) := by decide +kernel
theorem dX7_readStatement_93 : decode cX7_readStatement 93 = .ok (.putfield 101, 3) := by decide +kernel
theorem dX7_readStatement_96 : decode cX7_readStatement 96 = .ok (.aload_n 0, 1) := by decide +kernel
theorem dX7_readStatement_97 : decode cX7_readStatement 97 = .ok (.iconst 1, 1) := by decide +kernel
theorem dX7_readStatement_98 : decode cX7_readStatement 98 = .ok (.putfield 34, 3) := by decide +kernel
theorem dX7_readStatement_101 : decode cX7_readStatement 101 = .ok (.goto 123, 3) := by decide +kernel
theorem dX7_readStatement_104 : decode cX7_readStatement 104 = .ok (.aload_n 1, 1) := by decide +kernel
theorem dX7_readStatement_105 : decode cX7_readStatement 105 = .ok (.aload_n 0, 1) := by decide +kernel
theorem dX7_readStatement_106 : decode cX7_readStatement 106 = .ok (.aload_n 0, 1) := by decide +kernel
theorem dX7_readStatement_107 : decode cX7_readStatement 107 = .ok (.getfield 38, 3) := by decide +kernel
theorem dX7_readStatement_110 : decode cX7_readStatement 110 = .ok (.iconst 0, 1) := by decide +kernel
theorem dX7_readStatement_111 : decode cX7_readStatement 111 = .ok (.bipush 120, 2) := by decide +kernel
theorem dX7_readStatement_113 : decode cX7_readStatement 113 = .ok (.invokevirtual 97, 3) := by decide +kernel
theorem dX7_readStatement_116 : decode cX7_readStatement 116 = .ok (.putfield 104, 3) := by decide +kernel
theorem dX7_readStatement_119 : decode cX7_readStatement 119 = .ok (.aload_n 0, 1) := by decide +kernel
theorem dX7_readStatement_120 : decode cX7_readStatement 120 = .ok (.iconst 1, 1) := by decide +kernel
theorem dX7_readStatement_121 : decode cX7_readStatement 121 = .ok (.putfield 38, 3) := by decide +kernel
theorem dX7_readStatement_124 : decode cX7_readStatement 124 = .ok (.goto 100, 3) := by decide +kernel
theorem dX7_readStatement_127 : decode cX7_readStatement 127 = .ok (.aload_n 1, 1) := by decide +kernel
theorem dX7_readStatement_128 : decode cX7_readStatement 128 = .ok (.aload_n 0, 1) := by decide +kernel
theorem dX7_readStatement_129 : decode cX7_readStatement 129 = .ok (.aload_n 0, 1) := by decide +kernel
theorem dX7_readStatement_130 : decode cX7_readStatement 130 = .ok (.getfield 41, 3) := by decide +kernel
theorem dX7_readStatement_133 : decode cX7_readStatement 133 = .ok (.iconst 1, 1) := by decide +kernel
theorem dX7_readStatement_134 : decode cX7_readStatement 134 = .ok (.iconst 4, 1) := by decide +kernel
theorem dX7_readStatement_135 : decode cX7_readStatement 135 = .ok (.invokevirtual 97, 3) := by decide +kernel
theorem dX7_readStatement_138 : decode cX7_readStatement 138 = .ok (.putfield 107, 3) := by decide +kernel
theorem dX7_readStatement_141 : decode cX7_readStatement 141 = .ok (.aload_n 0, 1) := by decide +kernel
theorem dX7_readStatement_142 : decode cX7_readStatement 142 = .ok (.iconst 1, 1) := by decide +kernel
theorem dX7_readStatement_143 : decode cX7_readStatement 143 = .ok (.putfield 41, 3) := by decide +kernel
theorem dX7_readStatement_146 : decode cX7_readStatement 146 = .ok (.goto 78, 3) := by decide +kernel
theorem dX7_readStatement_149 : decode cX7_readStatement 149 = .ok (.aload_n 1, 1) := by decide +kernel
theorem dX7_readStatement_150 : decode cX7_readStatement 150 = .ok (.aload_n 0, 1) := by decide +kernel
theorem dX7_readStatement_151 : decode cX7_readStatement 151 = .ok (.aload_n 0, 1) := by decide +kernel
theorem dX7_readStatement_152 : decode cX7_readStatement 152 = .ok (.getfield 44, 3) := by decide +kernel
theorem dX7_readStatement_155 : decode cX7_readStatement 155 = .ok (.iconst 1, 1) := by decide +kernel
theorem dX7_readStatement_156 : decode cX7_readStatement 156 = .ok (.iconst 4, 1) := by decide +kernel
theorem dX7_readStatement_157 : decode cX7_readStatement 157 = .ok (.invokevirtual 97, 3) := by decide +kernel
theorem dX7_readStatement_160 : decode cX7_readStatement 160 = .ok (.putfield 110, 3) := by decide +kernel
theorem dX7_readStatement_163 : decode cX7_readStatement 163 = .ok (.aload_n 0, 1) := by decide +kernel
theorem dX7_readStatement_164 : decode cX7_readStatement 164 = .ok (.iconst 1, 1) := by decide +kernel
theorem dX7_readStatement_165 : decode cX7_readStatement 165 = .ok (.putfield 44, 3) := by decide +kernel
theorem dX7_readStatement_168 : decode cX7_readStatement 168 = .ok (.goto 56, 3) := by decide +kernel
theorem dX7_readStatement_171 : decode cX7_readStatement 171 = .ok (.aload_n 0, 1) := by decide +kernel
theorem dX7_readStatement_172 : decode cX7_readStatement 172 = .ok (.aload_n 1, 1) := by decide +kernel
theorem dX7_readStatement_173 : decode cX7_readStatement 173 = .ok (.invokevirtual 113, 3) := by decide +kernel
theorem dX7_readStatement_176 : decode cX7_readStatement 176 = .ok (.goto 48, 3) := by decide +kernel
theorem dX7_readStatement_179 : decode cX7_readStatement 179 = .ok (.aload_n 0, 1) := by decide +kernel
theorem dX7_readStatement_180 : decode cX7_readStatement 180 = .ok (.aload_n 1, 1) := by decide +kernel
theorem dX7_readStatement_181 : decode cX7_readStatement 181 = .ok (.invokevirtual 116, 3) := by decide +kernel
theorem dX7_readStatement_184 : decode cX7_readStatement 184 = .ok (.goto 40, 3) := by decide +kernel
theorem dX7_readStatement_187 : decode cX7_readStatement 187 = .ok (.aload_n 0, 1) := by decide +kernel
theorem dX7_readStatement_188 : decode cX7_readStatement 188 = .ok (.aload_n 1, 1) := by decide +kernel
theorem dX7_readStatement_189 : decode cX7_readStatement 189 = .ok (.invokevirtual 119, 3) := by decide +kernel
theorem dX7_readStatement_192 : decode cX7_readStatement 192 = .ok (.goto 32, 3) := by decide +kernel
theorem dX7_readStatement_195 : decode cX7_readStatement 195 = .ok (.aload_n 0, 1) := by decide +kernel
theorem dX7_readStatement_196 : decode cX7_readStatement 196 = .ok (.aload_n 1, 1) := by decide +kernel
theorem dX7_readStatement_197 : decode cX7_readStatement 197 = .ok (.invokevirtual 122, 3) := by decide +kernel
theorem dX7_readStatement_200 : decode cX7_readStatement 200 = .ok (.goto 24, 3) := by decide +kernel
theorem dX7_readStatement_203 : decode cX7_readStatement 203 = .ok (.aload_n 0, 1) := by decide +kernel
theorem dX7_readStatement_204 : decode cX7_readStatement 204 = .ok (.aload_n 1, 1) := by decide +kernel
theorem dX7_readStatement_205 : decode cX7_readStatement 205 = .ok (.invokevirtual 125, 3) := by decide +kernel
theorem dX7_readStatement_208 : decode cX7_readStatement 208 = .ok (.goto 16, 3) := by decide +kernel
theorem dX7_readStatement_211 : decode cX7_readStatement 211 = .ok (.aload_n 0, 1) := by decide +kernel
theorem dX7_readStatement_212 : decode cX7_readStatement 212 = .ok (.aload_n 1, 1) := by decide +kernel
theorem dX7_readStatement_213 : decode cX7_readStatement 213 = .ok (.invokevirtual 128, 3) := by decide +kernel
theorem dX7_readStatement_216 : decode cX7_readStatement 216 = .ok (.goto 8, 3) := by decide +kernel
theorem dX7_readStatement_219 : decode cX7_readStatement 219 = .ok (.aload_n 0, 1) := by decide +kernel
theorem dX7_readStatement_220 : decode cX7_readStatement 220 = .ok (.iconst 1, 1) := by decide +kernel
theorem dX7_readStatement_221 : decode cX7_readStatement 221 = .ok (.invokevirtual 81, 3) := by decide +kernel
theorem dX7_readStatement_224 : decode cX7_readStatement 224 = .ok (.aload_n 0, 1) := by decide +kernel
theorem dX7_readStatement_225 : decode cX7_readStatement 225 = .ok (.invokevirtual 131, 3) := by decide +kernel
theorem dX7_readStatement_228 : decode cX7_readStatement 228 = .ok (.return_, 1) := by decide +kernel
theorem dX7_readSemicolon_0 : decode cX7_readSemicolon 0 = .ok (.aload_n 0, 1) := by decide +kernel
theorem dX7_readSemicolon_1 : decode cX7_readSemicolon 1 = .ok (.getfield 12, 3) := by decide +kernel
theorem dX7_readSemicolon_4 : decode cX7_readSemicolon 4 = .ok (.getfield 54, 3) := by decide +kernel
theorem dX7_readSemicolon_7 : decode cX7_readSemicolon 7 = .ok (.iconst 3, 1) := by decide +kernel
theorem dX7_readSemicolon_8 : decode cX7_readSemicolon 8 = .ok (.if_icmp .eq 8, 3) := by decide +kernel
theorem dX7_readSemicolon_11 : decode cX7_readSemicolon 11 = .ok (.aload_n 0, 1) := by decide +kernel
theorem dX7_readSemicolon_12 : decode cX7_readSemicolon 12 = .ok (.iconst 1, 1) := by decide +kernel
theorem dX7_readSemicolon_13 : decode cX7_readSemicolon 13 = .ok (.invokevirtual 81, 3) := by decide +kernel
theorem dX7_readSemicolon_16 : decode cX7_readSemicolon 16 = .ok (.aload_n 0, 1) := by decide +kernel
theorem dX7_readSemicolon_17 : decode cX7_readSemicolon 17 = .ok (.invokevirtual 134, 3) := by decide +kernel
theorem dX7_readSemicolon_20 : decode cX7_readSemicolon 20 = .ok (.ifCond .ne 10, 3) := by decide +kernel
theorem dX7_readSemicolon_23 : decode cX7_readSemicolon 23 = .ok (.aload_n 0, 1) := by decide +kernel
theorem dX7_readSemicolon_24 : decode cX7_readSemicolon 24 = .ok (.getfield 12, 3) := by decide +kernel
theorem dX7_readSemicolon_27 : decode cX7_readSemicolon 27 = .ok (.invokevirtual 138, 3) := by decide +kernel
theorem dX7_readSemicolon_30 : decode cX7_readSemicolon 30 = .ok (.return_, 1) := by decide +kernel
theorem dX7_readSetting_0 : decode cX7_readSetting 0 = .ok (.iload_n 1, 1) := by decide +kernel
theorem dX7_readSetting_1 : decode cX7_readSetting 1 = .ok (.ifCond .eq 10, 3) := by decide +kernel
theorem dX7_readSetting_4 : decode cX7_readSetting 4 = .ok (.aload_n 0, 1) := by decide +kernel
theorem dX7_readSetting_5 : decode cX7_readSetting 5 = .ok (.iconst 3, 1) := by decide +kernel
theorem dX7_readSetting_6 : decode cX7_readSetting 6 = .ok (.invokevirtual 81, 3) := by decide +kernel
theorem dX7_readSetting_9 : decode cX7_readSetting 9 = .ok (.iload_n 2, 1) := by decide +kernel
theorem dX7_readSetting_10 : decode cX7_readSetting 10 = .ok (.ireturn, 1) := by decide +kernel
theorem dX7_readSetting_11 : decode cX7_readSetting 11 = .ok (.aload_n 0, 1) := by decide +kernel
theorem dX7_readSetting_12 : decode cX7_readSetting 12 = .ok (.getfield 12, 3) := by decide +kernel
theorem dX7_readSetting_15 : decode cX7_readSetting 15 = .ok (.invokevirtual 138, 3) := by decide +kernel
theorem dX7_readSetting_18 : decode cX7_readSetting 18 = .ok (.aload_n 0, 1) := by decide +kernel
theorem dX7_readSetting_19 : decode cX7_readSetting 19 = .ok (.iload_n 2, 1) := by decide +kernel
theorem dX7_readSetting_20 : decode cX7_readSetting 20 = .ok (.iload_n 3, 1) := by decide +kernel
theorem dX7_readSetting_21 : decode cX7_readSetting 21 = .ok (.invokevirtual 141, 3) := by decide +kernel
theorem dX7_readSetting_24 : decode cX7_readSetting 24 = .ok (.ireturn, 1) := by decide +kernel
theorem dX7_beginOneOf_0 : decode cX7_beginOneOf 0 = .ok (.iload_n 2, 1) := by decide +kernel
theorem dX7_beginOneOf_1 : decode cX7_beginOneOf 1 = .ok (.iload_n 1, 1) := by decide +kernel
theorem dX7_beginOneOf_2 : decode cX7_beginOneOf 2 = .ok (.if_icmp .lt 11, 3) := by decide +kernel
theorem dX7_beginOneOf_5 : decode cX7_beginOneOf 5 = .ok (.aload_n 0, 1) := by decide +kernel
theorem dX7_beginOneOf_6 : decode cX7_beginOneOf 6 = .ok (.iconst 5, 1) := by decide +kernel
theorem dX7_beginOneOf_7 : decode cX7_beginOneOf 7 = .ok (.invokevirtual 81, 3) := by decide +kernel
theorem dX7_beginOneOf_10 : decode cX7_beginOneOf 10 = .ok (.goto 10, 3) := by decide +kernel
theorem dX7_beginOneOf_13 : decode cX7_beginOneOf 13 = .ok (.aload_n 0, 1) := by decide +kernel
theorem dX7_beginOneOf_14 : decode cX7_beginOneOf 14 = .ok (.getfield 12, 3) := by decide +kernel
theorem dX7_beginOneOf_17 : decode cX7_beginOneOf 17 = .ok (.invokevirtual 138, 3) := by decide +kernel
theorem dX7_beginOneOf_20 : decode cX7_beginOneOf 20 = .ok (.return_, 1) := by decide +kernel
theorem dX7_readDough_0 : decode cX7_readDough 0 = .ok (.aload_n 1, 1) := by decide +kernel
theorem dX7_readDough_1 : decode cX7_readDough 1 = .ok (.getfield 145, 3) := by decide +kernel
theorem dX7_readDough_4 : decode cX7_readDough 4 = .ok (.istore_n 2, 1) := by decide +kernel
theorem dX7_readDough_5 : decode cX7_readDough 5 = .ok (.aload_n 0, 1) := by decide +kernel
theorem dX7_readDough_6 : decode cX7_readDough 6 = .ok (.bipush 6, 2) := by decide +kernel
theorem dX7_readDough_8 : decode cX7_readDough 8 = .ok (.iload_n 2, 1) := by decide +kernel
theorem dX7_readDough_9 : decode cX7_readDough 9 = .ok (.invokevirtual 148, 3) := by decide +kernel
theorem dX7_readDough_12 : decode cX7_readDough 12 = .ok (.aload_n 0, 1) := by decide +kernel
theorem dX7_readDough_13 : decode cX7_readDough 13 = .ok (.aload_n 0, 1) := by decide +kernel
theorem dX7_readDough_14 : decode cX7_readDough 14 = .ok (.getfield 20, 3) := by decide +kernel
theorem dX7_readDough_17 : decode cX7_readDough 17 = .ok (.iload_n 2, 1) := by decide +kernel
theorem dX7_readDough_18 : decode cX7_readDough 18 = .ok (.invokevirtual 151, 3) := by decide +kernel
theorem dX7_readDough_21 : decode cX7_readDough 21 = .ok (.aload_n 0, 1) := by decide +kernel
theorem dX7_readDough_22 : decode cX7_readDough 22 = .ok (.invokevirtual 134, 3) := by decide +kernel
theorem dX7_readDough_25 : decode cX7_readDough 25 = .ok (.ifCond .eq 4, 3) := by decide +kernel
theorem dX7_readDough_28 : decode cX7_readDough 28 = .ok (.return_, 1) := by decide +kernel
theorem dX7_readDough_29 : decode cX7_readDough 29 = .ok (.aload_n 1, 1) := by decide +kernel
theorem dX7_readDough_30 : decode cX7_readDough 30 = .ok (.getfield 155, 3) := by decide +kernel
theorem dX7_readDough_33 : decode cX7_readDough 33 = .ok (.iload_n 2, 1) := by decide +kernel
theorem dX7_readDough_34 : decode cX7_readDough 34 = .ok (.aaload, 1) := by decide +kernel
theorem dX7_readDough_35 : decode cX7_readDough 35 = .ok (.astore_n 3, 1) := by decide +kernel
theorem dX7_readDough_36 : decode cX7_readDough 36 = .ok (.aload_n 3, 1) := by decide +kernel
theorem dX7_readDough_37 : decode cX7_readDough 37 = .ok (.aload_n 0, 1) := by decide +kernel
theorem dX7_readDough_38 : decode cX7_readDough 38 = .ok (.getstatic 159, 3) := by decide +kernel
theorem dX7_readDough_41 : decode cX7_readDough 41 = .ok (.iconst 1, 1) := by decide +kernel
theorem dX7_readDough_42 : decode cX7_readDough 42 = .ok (.bipush 120, 2) := by decide +kernel
theorem dX7_readDough_44 : decode cX7_readDough 44 = .ok (.invokevirtual 163, 3) := by decide +kernel
theorem dX7_readDough_47 : decode cX7_readDough 47 = .ok (.putfield 167, 3) := by decide +kernel
theorem dX7_readDough_50 : decode cX7_readDough 50 = .ok (.aload_n 3, 1) := by decide +kernel
theorem dX7_readDough_51 : decode cX7_readDough 51 = .ok (.aload_n 0, 1) := by decide +kernel
theorem dX7_readDough_52 : decode cX7_readDough 52 = .ok (.getstatic 172, 3) := by decide +kernel
theorem dX7_readDough_55 : decode cX7_readDough 55 = .ok (.iconst 0, 1) := by decide +kernel
theorem dX7_readDough_56 : decode cX7_readDough 56 = .ok (.sipush 300, 3) := by decide +kernel
theorem dX7_readDough_59 : decode cX7_readDough 59 = .ok (.invokevirtual 163, 3) := by decide +kernel
theorem dX7_readDough_62 : decode cX7_readDough 62 = .ok (.putfield 175, 3) := by decide +kernel
theorem dX7_readDough_65 : decode cX7_readDough 65 = .ok (.aload_n 3, 1) := by decide +kernel
theorem dX7_readDough_66 : decode cX7_readDough 66 = .ok (.aload_n 0, 1) := by decide +kernel
theorem dX7_readDough_67 : decode cX7_readDough 67 = .ok (.getstatic 178, 3) := by decide +kernel
theorem dX7_readDough_70 : decode cX7_readDough 70 = .ok (.iconst 1, 1) := by decide +kernel
theorem dX7_readDough_71 : decode cX7_readDough 71 = .ok (.bipush 120, 2) := by decide +kernel
theorem dX7_readDough_73 : decode cX7_readDough 73 = .ok (.invokevirtual 163, 3) := by decide +kernel
theorem dX7_readDough_76 : decode cX7_readDough 76 = .ok (.putfield 181, 3) := by decide +kernel
theorem dX7_readDough_79 : decode cX7_readDough 79 = .ok (.aload_n 3, 1) := by decide +kernel
theorem dX7_readDough_80 : decode cX7_readDough 80 = .ok (.aload_n 0, 1) := by decide +kernel
theorem dX7_readDough_81 : decode cX7_readDough 81 = .ok (.getstatic 184, 3) := by decide +kernel
theorem dX7_readDough_84 : decode cX7_readDough 84 = .ok (.iconst 0, 1) := by decide +kernel
theorem dX7_readDough_85 : decode cX7_readDough 85 = .ok (.sipush 300, 3) := by decide +kernel
theorem dX7_readDough_88 : decode cX7_readDough 88 = .ok (.invokevirtual 163, 3) := by decide +kernel
theorem dX7_readDough_91 : decode cX7_readDough 91 = .ok (.putfield 187, 3) := by decide +kernel
theorem dX7_readDough_94 : decode cX7_readDough 94 = .ok (.aload_n 3, 1) := by decide +kernel
theorem dX7_readDough_95 : decode cX7_readDough 95 = .ok (.aload_n 0, 1) := by decide +kernel
theorem dX7_readDough_96 : decode cX7_readDough 96 = .ok (.getstatic 190, 3) := by decide +kernel
theorem dX7_readDough_99 : decode cX7_readDough 99 = .ok (.iconst 0, 1) := by decide +kernel
theorem dX7_readDough_100 : decode cX7_readDough 100 = .ok (.sipush 240, 3) := by decide +kernel
theorem dX7_readDough_103 : decode cX7_readDough 103 = .ok (.invokevirtual 163, 3) := by decide +kernel
theorem dX7_readDough_106 : decode cX7_readDough 106 = .ok (.putfield 193, 3) := by decide +kernel
theorem dX7_readDough_109 : decode cX7_readDough 109 = .ok (.aload_n 3, 1) := by decide +kernel
theorem dX7_readDough_110 : decode cX7_readDough 110 = .ok (.aload_n 0, 1) := by decide +kernel
theorem dX7_readDough_111 : decode cX7_readDough 111 = .ok (.getstatic 196, 3) := by decide +kernel
theorem dX7_readDough_114 : decode cX7_readDough 114 = .ok (.iconst 1, 1) := by decide +kernel
theorem dX7_readDough_115 : decode cX7_readDough 115 = .ok (.bipush 120, 2) := by decide +kernel
theorem dX7_readDough_117 : decode cX7_readDough 117 = .ok (.invokevirtual 163, 3) := by decide +kernel
theorem dX7_readDough_120 : decode cX7_readDough 120 = .ok (.putfield 199, 3) := by decide +kernel
theorem dX7_readDough_123 : decode cX7_readDough 123 = .ok (.aload_n 3, 1) := by decide +kernel
theorem dX7_readDough_124 : decode cX7_readDough 124 = .ok (.aload_n 0, 1) := by decide +kernel
theorem dX7_readDough_125 : decode cX7_readDough 125 = .ok (.getstatic 202, 3) := by decide +kernel
theorem dX7_readDough_128 : decode cX7_readDough 128 = .ok (.bipush 100, 2) := by decide +kernel
theorem dX7_readDough_130 : decode cX7_readDough 130 = .ok (.sipush 300, 3) := by decide +kernel
theorem dX7_readDough_133 : decode cX7_readDough 133 = .ok (.invokevirtual 163, 3) := by decide +kernel
theorem dX7_readDough_136 : decode cX7_readDough 136 = .ok (.putfield 205, 3) := by decide +kernel
theorem dX7_readDough_139 : decode cX7_readDough 139 = .ok (.aload_n 3, 1) := by decide +kernel
theorem dX7_readDough_140 : decode cX7_readDough 140 = .ok (.aload_n 0, 1) := by decide +kernel
theorem dX7_readDough_141 : decode cX7_readDough 141 = .ok (.getstatic 208, 3) := by decide +kernel
theorem dX7_readDough_144 : decode cX7_readDough 144 = .ok (.iconst 5, 1) := by decide +kernel
theorem dX7_readDough_145 : decode cX7_readDough 145 = .ok (.sipush 200, 3) := by decide +kernel
theorem dX7_readDough_148 : decode cX7_readDough 148 = .ok (.invokevirtual 163, 3) := by decide +kernel
theorem dX7_readDough_151 : decode cX7_readDough 151 = .ok (.putfield 211, 3) := by decide +kernel
theorem dX7_readDough_154 : decode cX7_readDough 154 = .ok (.aload_n 3, 1) := by decide +kernel
theorem dX7_readDough_155 : decode cX7_readDough 155 = .ok (.aload_n 0, 1) := by decide +kernel
theorem dX7_readDough_156 : decode cX7_readDough 156 = .ok (.getstatic 214, 3) := by decide +kernel
theorem dX7_readDough_159 : decode cX7_readDough 159 = .ok (.iconst 1, 1) := by decide +kernel
theorem dX7_readDough_160 : decode cX7_readDough 160 = .ok (.sipush 1440, 3) := by decide +kernel
theorem dX7_readDough_163 : decode cX7_readDough 163 = .ok (.invokevirtual 163, 3) := by decide +kernel
theorem dX7_readDough_166 : decode cX7_readDough 166 = .ok (.putfield 217, 3) := by decide +kernel
theorem dX7_readDough_169 : decode cX7_readDough 169 = .ok (.aload_n 3, 1) := by decide +kernel
theorem dX7_readDough_170 : decode cX7_readDough 170 = .ok (.aload_n 0, 1) := by decide +kernel
theorem dX7_readDough_171 : decode cX7_readDough 171 = .ok (.getstatic 220, 3) := by decide +kernel
theorem dX7_readDough_174 : decode cX7_readDough 174 = .ok (.iconst 0, 1) := by decide +kernel
theorem dX7_readDough_175 : decode cX7_readDough 175 = .ok (.sipush 999, 3) := by decide +kernel
theorem dX7_readDough_178 : decode cX7_readDough 178 = .ok (.invokevirtual 163, 3) := by decide +kernel
theorem dX7_readDough_181 : decode cX7_readDough 181 = .ok (.putfield 223, 3) := by decide +kernel
theorem dX7_readDough_184 : decode cX7_readDough 184 = .ok (.aload_n 1, 1) := by decide +kernel
theorem dX7_readDough_185 : decode cX7_readDough 185 = .ok (.dup, 1) := by decide +kernel
theorem dX7_readDough_186 : decode cX7_readDough 186 = .ok (.getfield 145, 3) := by decide +kernel
theorem dX7_readDough_189 : decode cX7_readDough 189 = .ok (.iconst 1, 1) := by decide +kernel
theorem dX7_readDough_190 : decode cX7_readDough 190 = .ok (.iadd, 1) := by decide +kernel
theorem dX7_readDough_191 : decode cX7_readDough 191 = .ok (.putfield 145, 3) := by decide +kernel
theorem dX7_readDough_194 : decode cX7_readDough 194 = .ok (.return_, 1) := by decide +kernel
theorem dX7_readOven_0 : decode cX7_readOven 0 = .ok (.aload_n 1, 1) := by decide +kernel
theorem dX7_readOven_1 : decode cX7_readOven 1 = .ok (.getfield 226, 3) := by decide +kernel
theorem dX7_readOven_4 : decode cX7_readOven 4 = .ok (.istore_n 2, 1) := by decide +kernel
theorem dX7_readOven_5 : decode cX7_readOven 5 = .ok (.aload_n 0, 1) := by decide +kernel
theorem dX7_readOven_6 : decode cX7_readOven 6 = .ok (.iconst 4, 1) := by decide +kernel
theorem dX7_readOven_7 : decode cX7_readOven 7 = .ok (.iload_n 2, 1) := by decide +kernel
theorem dX7_readOven_8 : decode cX7_readOven 8 = .ok (.invokevirtual 148, 3) := by decide +kernel
theorem dX7_readOven_11 : decode cX7_readOven 11 = .ok (.aload_n 0, 1) := by decide +kernel
theorem dX7_readOven_12 : decode cX7_readOven 12 = .ok (.invokevirtual 134, 3) := by decide +kernel
theorem dX7_readOven_15 : decode cX7_readOven 15 = .ok (.ifCond .eq 4, 3) := by decide +kernel
theorem dX7_readOven_18 : decode cX7_readOven 18 = .ok (.return_, 1) := by decide +kernel
theorem dX7_readOven_19 : decode cX7_readOven 19 = .ok (.aload_n 1, 1) := by decide +kernel
theorem dX7_readOven_20 : decode cX7_readOven 20 = .ok (.getfield 229, 3) := by decide +kernel
theorem dX7_readOven_23 : decode cX7_readOven 23 = .ok (.iload_n 2, 1) := by decide +kernel
theorem dX7_readOven_24 : decode cX7_readOven 24 = .ok (.aaload, 1) := by decide +kernel
theorem dX7_readOven_25 : decode cX7_readOven 25 = .ok (.astore_n 3, 1) := by decide +kernel
theorem dX7_readOven_26 : decode cX7_readOven 26 = .ok (.aload_n 3, 1) := by decide +kernel
theorem dX7_readOven_27 : decode cX7_readOven 27 = .ok (.aload_n 0, 1) := by decide +kernel
theorem dX7_readOven_28 : decode cX7_readOven 28 = .ok (.getstatic 233, 3) := by decide +kernel
theorem dX7_readOven_31 : decode cX7_readOven 31 = .ok (.iconst 1, 1) := by decide +kernel
theorem dX7_readOven_32 : decode cX7_readOven 32 = .ok (.bipush 6, 2) := by decide +kernel
theorem dX7_readOven_34 : decode cX7_readOven 34 = .ok (.invokevirtual 163, 3) := by decide +kernel
theorem dX7_readOven_37 : decode cX7_readOven 37 = .ok (.putfield 236, 3) := by decide +kernel
theorem dX7_readOven_40 : decode cX7_readOven 40 = .ok (.aload_n 3, 1) := by decide +kernel
theorem dX7_readOven_41 : decode cX7_readOven 41 = .ok (.aload_n 0, 1) := by decide +kernel
theorem dX7_readOven_42 : decode cX7_readOven 42 = .ok (.getstatic 202, 3) := by decide +kernel
theorem dX7_readOven_45 : decode cX7_readOven 45 = .ok (.bipush 20, 2) := by decide +kernel
theorem dX7_readOven_47 : decode cX7_readOven 47 = .ok (.sipush 300, 3) := by decide +kernel
theorem dX7_readOven_50 : decode cX7_readOven 50 = .ok (.invokevirtual 163, 3) := by decide +kernel
theorem dX7_readOven_53 : decode cX7_readOven 53 = .ok (.putfield 241, 3) := by decide +kernel
theorem dX7_readOven_56 : decode cX7_readOven 56 = .ok (.aload_n 3, 1) := by decide +kernel
theorem dX7_readOven_57 : decode cX7_readOven 57 = .ok (.aload_n 0, 1) := by decide +kernel
theorem dX7_readOven_58 : decode cX7_readOven 58 = .ok (.getstatic 242, 3) := by decide +kernel
theorem dX7_readOven_61 : decode cX7_readOven 61 = .ok (.iconst 1, 1) := by decide +kernel
theorem dX7_readOven_62 : decode cX7_readOven 62 = .ok (.bipush 50, 2) := by decide +kernel
theorem dX7_readOven_64 : decode cX7_readOven 64 = .ok (.invokevirtual 163, 3) := by decide +kernel
theorem dX7_readOven_67 : decode cX7_readOven 67 = .ok (.putfield 245, 3) := by decide +kernel
theorem dX7_readOven_70 : decode cX7_readOven 70 = .ok (.aload_n 3, 1) := by decide +kernel
theorem dX7_readOven_71 : decode cX7_readOven 71 = .ok (.iconst 0, 1) := by decide +kernel
theorem dX7_readOven_72 : decode cX7_readOven 72 = .ok (.putfield 248, 3) := by decide +kernel
theorem dX7_readOven_75 : decode cX7_readOven 75 = .ok (.aload_n 1, 1) := by decide +kernel
theorem dX7_readOven_76 : decode cX7_readOven 76 = .ok (.dup, 1) := by decide +kernel
theorem dX7_readOven_77 : decode cX7_readOven 77 = .ok (.getfield 226, 3) := by decide +kernel
theorem dX7_readOven_80 : decode cX7_readOven 80 = .ok (.iconst 1, 1) := by decide +kernel
theorem dX7_readOven_81 : decode cX7_readOven 81 = .ok (.iadd, 1) := by decide +kernel
theorem dX7_readOven_82 : decode cX7_readOven 82 = .ok (.putfield 226, 3) := by decide +kernel
theorem dX7_readOven_85 : decode cX7_readOven 85 = .ok (.return_, 1) := by decide +kernel
theorem dX7_readShop_0 : decode cX7_readShop 0 = .ok (.aload_n 0, 1) := by decide +kernel
theorem dX7_readShop_1 : decode cX7_readShop 1 = .ok (.bipush 7, 2) := by decide +kernel
theorem dX7_readShop_3 : decode cX7_readShop 3 = .ok (.aload_n 1, 1) := by decide +kernel
theorem dX7_readShop_4 : decode cX7_readShop 4 = .ok (.getfield 65, 3) := by decide +kernel
theorem dX7_readShop_7 : decode cX7_readShop 7 = .ok (.invokevirtual 148, 3) := by decide +kernel
theorem dX7_readShop_10 : decode cX7_readShop 10 = .ok (.aload_n 0, 1) := by decide +kernel
theorem dX7_readShop_11 : decode cX7_readShop 11 = .ok (.aload_n 0, 1) := by decide +kernel
theorem dX7_readShop_12 : decode cX7_readShop 12 = .ok (.getfield 24, 3) := by decide +kernel
theorem dX7_readShop_15 : decode cX7_readShop 15 = .ok (.aload_n 1, 1) := by decide +kernel
theorem dX7_readShop_16 : decode cX7_readShop 16 = .ok (.getfield 65, 3) := by decide +kernel
theorem dX7_readShop_19 : decode cX7_readShop 19 = .ok (.invokevirtual 151, 3) := by decide +kernel
theorem dX7_readShop_22 : decode cX7_readShop 22 = .ok (.aload_n 0, 1) := by decide +kernel
theorem dX7_readShop_23 : decode cX7_readShop 23 = .ok (.invokevirtual 134, 3) := by decide +kernel
theorem dX7_readShop_26 : decode cX7_readShop 26 = .ok (.ifCond .ne 13, 3) := by decide +kernel
theorem dX7_readShop_29 : decode cX7_readShop 29 = .ok (.aload_n 1, 1) := by decide +kernel
theorem dX7_readShop_30 : decode cX7_readShop 30 = .ok (.dup, 1) := by decide +kernel
theorem dX7_readShop_31 : decode cX7_readShop 31 = .ok (.getfield 65, 3) := by decide +kernel
theorem dX7_readShop_34 : decode cX7_readShop 34 = .ok (.iconst 1, 1) := by decide +kernel
theorem dX7_readShop_35 : decode cX7_readShop 35 = .ok (.iadd, 1) := by decide +kernel
theorem dX7_readShop_36 : decode cX7_readShop 36 = .ok (.putfield 65, 3) := by decide +kernel
theorem dX7_readShop_39 : decode cX7_readShop 39 = .ok (.return_, 1) := by decide +kernel
theorem dX7_readStreet_0 : decode cX7_readStreet 0 = .ok (.aload_n 1, 1) := by decide +kernel
theorem dX7_readStreet_1 : decode cX7_readStreet 1 = .ok (.getfield 61, 3) := by decide +kernel
theorem dX7_readStreet_4 : decode cX7_readStreet 4 = .ok (.astore_n 2, 1) := by decide +kernel
theorem dX7_readStreet_5 : decode cX7_readStreet 5 = .ok (.aload_n 2, 1) := by decide +kernel
theorem dX7_readStreet_6 : decode cX7_readStreet 6 = .ok (.getfield 251, 3) := by decide +kernel
theorem dX7_readStreet_9 : decode cX7_readStreet 9 = .ok (.istore_n 3, 1) := by decide +kernel
theorem dX7_readStreet_10 : decode cX7_readStreet 10 = .ok (.aload_n 0, 1) := by decide +kernel
theorem dX7_readStreet_11 : decode cX7_readStreet 11 = .ok (.bipush 20, 2) := by decide +kernel
theorem dX7_readStreet_13 : decode cX7_readStreet 13 = .ok (.iload_n 3, 1) := by decide +kernel
theorem dX7_readStreet_14 : decode cX7_readStreet 14 = .ok (.invokevirtual 148, 3) := by decide +kernel
theorem dX7_readStreet_17 : decode cX7_readStreet 17 = .ok (.aload_n 0, 1) := by decide +kernel
theorem dX7_readStreet_18 : decode cX7_readStreet 18 = .ok (.aload_n 1, 1) := by decide +kernel
theorem dX7_readStreet_19 : decode cX7_readStreet 19 = .ok (.iconst (-1), 1) := by decide +kernel
theorem dX7_readStreet_20 : decode cX7_readStreet 20 = .ok (.invokevirtual 254, 3) := by decide +kernel
theorem dX7_readStreet_23 : decode cX7_readStreet 23 = .ok (.istore 4, 2) := by decide +kernel
theorem dX7_readStreet_25 : decode cX7_readStreet 25 = .ok (.aload_n 0, 1) := by decide +kernel
theorem dX7_readStreet_26 : decode cX7_readStreet 26 = .ok (.aload_n 1, 1) := by decide +kernel
theorem dX7_readStreet_27 : decode cX7_readStreet 27 = .ok (.iload 4, 2) := by decide +kernel
theorem dX7_readStreet_29 : decode cX7_readStreet 29 = .ok (.invokevirtual 254, 3) := by decide +kernel
theorem dX7_readStreet_32 : decode cX7_readStreet 32 = .ok (.istore 5, 2) := by decide +kernel
theorem dX7_readStreet_34 : decode cX7_readStreet 34 = .ok (.aload_n 0, 1) := by decide +kernel
theorem dX7_readStreet_35 : decode cX7_readStreet 35 = .ok (.iconst 1, 1) := by decide +kernel
theorem dX7_readStreet_36 : decode cX7_readStreet 36 = .ok (.bipush 120, 2) := by decide +kernel
theorem dX7_readStreet_38 : decode cX7_readStreet 38 = .ok (.invokevirtual 141, 3) := by decide +kernel
theorem dX7_readStreet_41 : decode cX7_readStreet 41 = .ok (.istore 6, 2) := by decide +kernel
theorem dX7_readStreet_43 : decode cX7_readStreet 43 = .ok (.aload_n 0, 1) := by decide +kernel
theorem dX7_readStreet_44 : decode cX7_readStreet 44 = .ok (.invokevirtual 134, 3) := by decide +kernel
theorem dX7_readStreet_47 : decode cX7_readStreet 47 = .ok (.ifCond .ne 44, 3) := by decide +kernel
theorem dX7_readStreet_50 : decode cX7_readStreet 50 = .ok (.aload_n 2, 1) := by decide +kernel
theorem dX7_readStreet_51 : decode cX7_readStreet 51 = .ok (.getfield 258, 3) := by decide +kernel
theorem dX7_readStreet_54 : decode cX7_readStreet 54 = .ok (.iload_n 3, 1) := by decide +kernel
theorem dX7_readStreet_55 : decode cX7_readStreet 55 = .ok (.iload 4, 2) := by decide +kernel
theorem dX7_readStreet_57 : decode cX7_readStreet 57 = .ok (.iastore, 1) := by decide +kernel
theorem dX7_readStreet_58 : decode cX7_readStreet 58 = .ok (.aload_n 2, 1) := by decide +kernel
theorem dX7_readStreet_59 : decode cX7_readStreet 59 = .ok (.getfield 261, 3) := by decide +kernel
theorem dX7_readStreet_62 : decode cX7_readStreet 62 = .ok (.iload_n 3, 1) := by decide +kernel
theorem dX7_readStreet_63 : decode cX7_readStreet 63 = .ok (.iload 5, 2) := by decide +kernel
theorem dX7_readStreet_65 : decode cX7_readStreet 65 = .ok (.iastore, 1) := by decide +kernel
theorem dX7_readStreet_66 : decode cX7_readStreet 66 = .ok (.aload_n 2, 1) := by decide +kernel
theorem dX7_readStreet_67 : decode cX7_readStreet 67 = .ok (.getfield 264, 3) := by decide +kernel
theorem dX7_readStreet_70 : decode cX7_readStreet 70 = .ok (.iload_n 3, 1) := by decide +kernel
theorem dX7_readStreet_71 : decode cX7_readStreet 71 = .ok (.iload 6, 2) := by decide +kernel
theorem dX7_readStreet_73 : decode cX7_readStreet 73 = .ok (.iastore, 1) := by decide +kernel
theorem dX7_readStreet_74 : decode cX7_readStreet 74 = .ok (.aload_n 2, 1) := by decide +kernel
theorem dX7_readStreet_75 : decode cX7_readStreet 75 = .ok (.getfield 267, 3) := by decide +kernel
theorem dX7_readStreet_78 : decode cX7_readStreet 78 = .ok (.iload_n 3, 1) := by decide +kernel
theorem dX7_readStreet_79 : decode cX7_readStreet 79 = .ok (.iconst 0, 1) := by decide +kernel
theorem dX7_readStreet_80 : decode cX7_readStreet 80 = .ok (.bastore, 1) := by decide +kernel
theorem dX7_readStreet_81 : decode cX7_readStreet 81 = .ok (.aload_n 2, 1) := by decide +kernel
theorem dX7_readStreet_82 : decode cX7_readStreet 82 = .ok (.dup, 1) := by decide +kernel
theorem dX7_readStreet_83 : decode cX7_readStreet 83 = .ok (.getfield 251, 3) := by decide +kernel
theorem dX7_readStreet_86 : decode cX7_readStreet 86 = .ok (.iconst 1, 1) := by decide +kernel
theorem dX7_readStreet_87 : decode cX7_readStreet 87 = .ok (.iadd, 1) := by decide +kernel
theorem dX7_readStreet_88 : decode cX7_readStreet 88 = .ok (.putfield 251, 3) := by decide +kernel
theorem dX7_readStreet_91 : decode cX7_readStreet 91 = .ok (.return_, 1) := by decide +kernel
theorem dX7_readVan_0 : decode cX7_readVan 0 = .ok (.aload_n 0, 1) := by decide +kernel
theorem dX7_readVan_1 : decode cX7_readVan 1 = .ok (.iconst 3, 1) := by decide +kernel
theorem dX7_readVan_2 : decode cX7_readVan 2 = .ok (.aload_n 1, 1) := by decide +kernel
theorem dX7_readVan_3 : decode cX7_readVan 3 = .ok (.getfield 271, 3) := by decide +kernel
theorem dX7_readVan_6 : decode cX7_readVan 6 = .ok (.invokevirtual 148, 3) := by decide +kernel
theorem dX7_readVan_9 : decode cX7_readVan 9 = .ok (.aload_n 0, 1) := by decide +kernel
theorem dX7_readVan_10 : decode cX7_readVan 10 = .ok (.iconst 1, 1) := by decide +kernel
theorem dX7_readVan_11 : decode cX7_readVan 11 = .ok (.sipush 2000, 3) := by decide +kernel
theorem dX7_readVan_14 : decode cX7_readVan 14 = .ok (.invokevirtual 141, 3) := by decide +kernel
theorem dX7_readVan_17 : decode cX7_readVan 17 = .ok (.istore_n 2, 1) := by decide +kernel
theorem dX7_readVan_18 : decode cX7_readVan 18 = .ok (.aload_n 0, 1) := by decide +kernel
theorem dX7_readVan_19 : decode cX7_readVan 19 = .ok (.invokevirtual 134, 3) := by decide +kernel
theorem dX7_readVan_22 : decode cX7_readVan 22 = .ok (.ifCond .ne 23, 3) := by decide +kernel
theorem dX7_readVan_25 : decode cX7_readVan 25 = .ok (.aload_n 1, 1) := by decide +kernel
theorem dX7_readVan_26 : decode cX7_readVan 26 = .ok (.getfield 274, 3) := by decide +kernel
theorem dX7_readVan_29 : decode cX7_readVan 29 = .ok (.aload_n 1, 1) := by decide +kernel
theorem dX7_readVan_30 : decode cX7_readVan 30 = .ok (.getfield 271, 3) := by decide +kernel
theorem dX7_readVan_33 : decode cX7_readVan 33 = .ok (.iload_n 2, 1) := by decide +kernel
theorem dX7_readVan_34 : decode cX7_readVan 34 = .ok (.iastore, 1) := by decide +kernel
theorem dX7_readVan_35 : decode cX7_readVan 35 = .ok (.aload_n 1, 1) := by decide +kernel
theorem dX7_readVan_36 : decode cX7_readVan 36 = .ok (.dup, 1) := by decide +kernel
theorem dX7_readVan_37 : decode cX7_readVan 37 = .ok (.getfield 271, 3) := by decide +kernel
theorem dX7_readVan_40 : decode cX7_readVan 40 = .ok (.iconst 1, 1) := by decide +kernel
theorem dX7_readVan_41 : decode cX7_readVan 41 = .ok (.iadd, 1) := by decide +kernel
theorem dX7_readVan_42 : decode cX7_readVan 42 = .ok (.putfield 271, 3) := by decide +kernel
theorem dX7_readVan_45 : decode cX7_readVan 45 = .ok (.return_, 1) := by decide +kernel
theorem dX7_readOrder_0 : decode cX7_readOrder 0 = .ok (.aload_n 0, 1) := by decide +kernel
theorem dX7_readOrder_1 : decode cX7_readOrder 1 = .ok (.bipush 24, 2) := by decide +kernel
theorem dX7_readOrder_3 : decode cX7_readOrder 3 = .ok (.aload_n 1, 1) := by decide +kernel
theorem dX7_readOrder_4 : decode cX7_readOrder 4 = .ok (.getfield 277, 3) := by decide +kernel
theorem dX7_readOrder_7 : decode cX7_readOrder 7 = .ok (.invokevirtual 148, 3) := by decide +kernel
theorem dX7_readOrder_10 : decode cX7_readOrder 10 = .ok (.aload_n 0, 1) := by decide +kernel
theorem dX7_readOrder_11 : decode cX7_readOrder 11 = .ok (.aload_n 0, 1) := by decide +kernel
theorem dX7_readOrder_12 : decode cX7_readOrder 12 = .ok (.getfield 24, 3) := by decide +kernel
theorem dX7_readOrder_15 : decode cX7_readOrder 15 = .ok (.aload_n 1, 1) := by decide +kernel
theorem dX7_readOrder_16 : decode cX7_readOrder 16 = .ok (.getfield 65, 3) := by decide +kernel
theorem dX7_readOrder_19 : decode cX7_readOrder 19 = .ok (.invokevirtual 280, 3) := by decide +kernel
theorem dX7_readOrder_22 : decode cX7_readOrder 22 = .ok (.istore_n 2, 1) := by decide +kernel
theorem dX7_readOrder_23 : decode cX7_readOrder 23 = .ok (.aload_n 0, 1) := by decide +kernel
theorem dX7_readOrder_24 : decode cX7_readOrder 24 = .ok (.aload_n 0, 1) := by decide +kernel
theorem dX7_readOrder_25 : decode cX7_readOrder 25 = .ok (.getfield 20, 3) := by decide +kernel
theorem dX7_readOrder_28 : decode cX7_readOrder 28 = .ok (.aload_n 1, 1) := by decide +kernel
theorem dX7_readOrder_29 : decode cX7_readOrder 29 = .ok (.getfield 145, 3) := by decide +kernel
theorem dX7_readOrder_32 : decode cX7_readOrder 32 = .ok (.invokevirtual 280, 3) := by decide +kernel
theorem dX7_readOrder_35 : decode cX7_readOrder 35 = .ok (.istore_n 3, 1) := by decide +kernel
theorem dX7_readOrder_36 : decode cX7_readOrder 36 = .ok (.aload_n 0, 1) := by decide +kernel
theorem dX7_readOrder_37 : decode cX7_readOrder 37 = .ok (.iconst 1, 1) := by decide +kernel
theorem dX7_readOrder_38 : decode cX7_readOrder 38 = .ok (.sipush 200, 3) := by decide +kernel
theorem dX7_readOrder_41 : decode cX7_readOrder 41 = .ok (.invokevirtual 141, 3) := by decide +kernel
theorem dX7_readOrder_44 : decode cX7_readOrder 44 = .ok (.istore 4, 2) := by decide +kernel
theorem dX7_readOrder_46 : decode cX7_readOrder 46 = .ok (.aload_n 0, 1) := by decide +kernel
theorem dX7_readOrder_47 : decode cX7_readOrder 47 = .ok (.getstatic 284, 3) := by decide +kernel
theorem dX7_readOrder_50 : decode cX7_readOrder 50 = .ok (.iconst 0, 1) := by decide +kernel
theorem dX7_readOrder_51 : decode cX7_readOrder 51 = .ok (.sipush 1439, 3) := by decide +kernel
theorem dX7_readOrder_54 : decode cX7_readOrder 54 = .ok (.invokevirtual 163, 3) := by decide +kernel
theorem dX7_readOrder_57 : decode cX7_readOrder 57 = .ok (.istore 5, 2) := by decide +kernel
theorem dX7_readOrder_59 : decode cX7_readOrder 59 = .ok (.aload_n 0, 1) := by decide +kernel
theorem dX7_readOrder_60 : decode cX7_readOrder 60 = .ok (.invokevirtual 134, 3) := by decide +kernel
theorem dX7_readOrder_63 : decode cX7_readOrder 63 = .ok (.ifCond .ne 31, 3) := by decide +kernel
theorem dX7_readOrder_66 : decode cX7_readOrder 66 = .ok (.aload_n 1, 1) := by decide +kernel
theorem dX7_readOrder_67 : decode cX7_readOrder 67 = .ok (.getfield 287, 3) := by decide +kernel
theorem dX7_readOrder_70 : decode cX7_readOrder 70 = .ok (.aload_n 1, 1) := by decide +kernel
theorem dX7_readOrder_71 : decode cX7_readOrder 71 = .ok (.getfield 277, 3) := by decide +kernel
theorem dX7_readOrder_74 : decode cX7_readOrder 74 = .ok (.aaload, 1) := by decide +kernel
theorem dX7_readOrder_75 : decode cX7_readOrder 75 = .ok (.iload_n 2, 1) := by decide +kernel
theorem dX7_readOrder_76 : decode cX7_readOrder 76 = .ok (.iload_n 3, 1) := by decide +kernel
theorem dX7_readOrder_77 : decode cX7_readOrder 77 = .ok (.iload 4, 2) := by decide +kernel
theorem dX7_readOrder_79 : decode cX7_readOrder 79 = .ok (.iload 5, 2) := by decide +kernel
theorem dX7_readOrder_81 : decode cX7_readOrder 81 = .ok (.invokevirtual 291, 3) := by decide +kernel
theorem dX7_readOrder_84 : decode cX7_readOrder 84 = .ok (.aload_n 1, 1) := by decide +kernel
theorem dX7_readOrder_85 : decode cX7_readOrder 85 = .ok (.dup, 1) := by decide +kernel
theorem dX7_readOrder_86 : decode cX7_readOrder 86 = .ok (.getfield 277, 3) := by decide +kernel
theorem dX7_readOrder_89 : decode cX7_readOrder 89 = .ok (.iconst 1, 1) := by decide +kernel
theorem dX7_readOrder_90 : decode cX7_readOrder 90 = .ok (.iadd, 1) := by decide +kernel
theorem dX7_readOrder_91 : decode cX7_readOrder 91 = .ok (.putfield 277, 3) := by decide +kernel
theorem dX7_readOrder_94 : decode cX7_readOrder 94 = .ok (.return_, 1) := by decide +kernel
theorem dX7_readField_0 : decode cX7_readField 0 = .ok (.aload_n 0, 1) := by decide +kernel
theorem dX7_readField_1 : decode cX7_readField 1 = .ok (.getfield 12, 3) := by decide +kernel
theorem dX7_readField_4 : decode cX7_readField 4 = .ok (.invokevirtual 77, 3) := by decide +kernel
theorem dX7_readField_7 : decode cX7_readField 7 = .ok (.aload_n 1, 1) := by decide +kernel
theorem dX7_readField_8 : decode cX7_readField 8 = .ok (.if_acmp .eq 8, 3) := by decide +kernel
theorem dX7_readField_11 : decode cX7_readField 11 = .ok (.aload_n 0, 1) := by decide +kernel
theorem dX7_readField_12 : decode cX7_readField 12 = .ok (.iconst 1, 1) := by decide +kernel
theorem dX7_readField_13 : decode cX7_readField 13 = .ok (.invokevirtual 81, 3) := by decide +kernel
theorem dX7_readField_16 : decode cX7_readField 16 = .ok (.aload_n 0, 1) := by decide +kernel
theorem dX7_readField_17 : decode cX7_readField 17 = .ok (.invokevirtual 134, 3) := by decide +kernel
theorem dX7_readField_20 : decode cX7_readField 20 = .ok (.ifCond .eq 5, 3) := by decide +kernel
theorem dX7_readField_23 : decode cX7_readField 23 = .ok (.iload_n 2, 1) := by decide +kernel
theorem dX7_readField_24 : decode cX7_readField 24 = .ok (.ireturn, 1) := by decide +kernel
theorem dX7_readField_25 : decode cX7_readField 25 = .ok (.aload_n 0, 1) := by decide +kernel
theorem dX7_readField_26 : decode cX7_readField 26 = .ok (.getfield 12, 3) := by decide +kernel
theorem dX7_readField_29 : decode cX7_readField 29 = .ok (.invokevirtual 138, 3) := by decide +kernel
theorem dX7_readField_32 : decode cX7_readField 32 = .ok (.aload_n 0, 1) := by decide +kernel
theorem dX7_readField_33 : decode cX7_readField 33 = .ok (.iload_n 2, 1) := by decide +kernel
theorem dX7_readField_34 : decode cX7_readField 34 = .ok (.iload_n 3, 1) := by decide +kernel
theorem dX7_readField_35 : decode cX7_readField 35 = .ok (.invokevirtual 141, 3) := by decide +kernel
theorem dX7_readField_38 : decode cX7_readField 38 = .ok (.ireturn, 1) := by decide +kernel
theorem dX7_readNumber_0 : decode cX7_readNumber 0 = .ok (.aload_n 0, 1) := by decide +kernel
theorem dX7_readNumber_1 : decode cX7_readNumber 1 = .ok (.getfield 12, 3) := by decide +kernel
theorem dX7_readNumber_4 : decode cX7_readNumber 4 = .ok (.invokevirtual 297, 3) := by decide +kernel
theorem dX7_readNumber_7 : decode cX7_readNumber 7 = .ok (.ifCond .ne 8, 3) := by decide +kernel
theorem dX7_readNumber_10 : decode cX7_readNumber 10 = .ok (.aload_n 0, 1) := by decide +kernel
theorem dX7_readNumber_11 : decode cX7_readNumber 11 = .ok (.iconst 1, 1) := by decide +kernel
theorem dX7_readNumber_12 : decode cX7_readNumber 12 = .ok (.invokevirtual 81, 3) := by decide +kernel
theorem dX7_readNumber_15 : decode cX7_readNumber 15 = .ok (.aload_n 0, 1) := by decide +kernel
theorem dX7_readNumber_16 : decode cX7_readNumber 16 = .ok (.getfield 12, 3) := by decide +kernel
theorem dX7_readNumber_19 : decode cX7_readNumber 19 = .ok (.invokevirtual 300, 3) := by decide +kernel
theorem dX7_readNumber_22 : decode cX7_readNumber 22 = .ok (.istore_n 3, 1) := by decide +kernel
theorem dX7_readNumber_23 : decode cX7_readNumber 23 = .ok (.iload_n 3, 1) := by decide +kernel
theorem dX7_readNumber_24 : decode cX7_readNumber 24 = .ok (.iload_n 1, 1) := by decide +kernel
theorem dX7_readNumber_25 : decode cX7_readNumber 25 = .ok (.if_icmp .lt 8, 3) := by decide +kernel
theorem dX7_readNumber_28 : decode cX7_readNumber 28 = .ok (.iload_n 3, 1) := by decide +kernel
theorem dX7_readNumber_29 : decode cX7_readNumber 29 = .ok (.iload_n 2, 1) := by decide +kernel
theorem dX7_readNumber_30 : decode cX7_readNumber 30 = .ok (.if_icmp .le 8, 3) := by decide +kernel
theorem dX7_readNumber_33 : decode cX7_readNumber 33 = .ok (.aload_n 0, 1) := by decide +kernel
theorem dX7_readNumber_34 : decode cX7_readNumber 34 = .ok (.iconst 2, 1) := by decide +kernel
theorem dX7_readNumber_35 : decode cX7_readNumber 35 = .ok (.invokevirtual 81, 3) := by decide +kernel
theorem dX7_readNumber_38 : decode cX7_readNumber 38 = .ok (.aload_n 0, 1) := by decide +kernel
theorem dX7_readNumber_39 : decode cX7_readNumber 39 = .ok (.invokevirtual 134, 3) := by decide +kernel
theorem dX7_readNumber_42 : decode cX7_readNumber 42 = .ok (.ifCond .eq 5, 3) := by decide +kernel
theorem dX7_readNumber_45 : decode cX7_readNumber 45 = .ok (.iload_n 1, 1) := by decide +kernel
theorem dX7_readNumber_46 : decode cX7_readNumber 46 = .ok (.ireturn, 1) := by decide +kernel
theorem dX7_readNumber_47 : decode cX7_readNumber 47 = .ok (.aload_n 0, 1) := by decide +kernel
theorem dX7_readNumber_48 : decode cX7_readNumber 48 = .ok (.getfield 12, 3) := by decide +kernel
theorem dX7_readNumber_51 : decode cX7_readNumber 51 = .ok (.invokevirtual 138, 3) := by decide +kernel
theorem dX7_readNumber_54 : decode cX7_readNumber 54 = .ok (.iload_n 3, 1) := by decide +kernel
theorem dX7_readNumber_55 : decode cX7_readNumber 55 = .ok (.ireturn, 1) := by decide +kernel
theorem dX7_readNewName_0 : decode cX7_readNewName 0 = .ok (.aload_n 0, 1) := by decide +kernel
theorem dX7_readNewName_1 : decode cX7_readNewName 1 = .ok (.getfield 12, 3) := by decide +kernel
theorem dX7_readNewName_4 : decode cX7_readNewName 4 = .ok (.invokevirtual 303, 3) := by decide +kernel
theorem dX7_readNewName_7 : decode cX7_readNewName 7 = .ok (.ifCond .ne 11, 3) := by decide +kernel
theorem dX7_readNewName_10 : decode cX7_readNewName 10 = .ok (.aload_n 0, 1) := by decide +kernel
theorem dX7_readNewName_11 : decode cX7_readNewName 11 = .ok (.iconst 1, 1) := by decide +kernel
theorem dX7_readNewName_12 : decode cX7_readNewName 12 = .ok (.invokevirtual 81, 3) := by decide +kernel
theorem dX7_readNewName_15 : decode cX7_readNewName 15 = .ok (.goto 18, 3) := by decide +kernel
theorem dX7_readNewName_18 : decode cX7_readNewName 18 = .ok (.aload_n 0, 1) := by decide +kernel
theorem dX7_readNewName_19 : decode cX7_readNewName 19 = .ok (.aload_n 1, 1) := by decide +kernel
theorem dX7_readNewName_20 : decode cX7_readNewName 20 = .ok (.iload_n 2, 1) := by decide +kernel
theorem dX7_readNewName_21 : decode cX7_readNewName 21 = .ok (.invokevirtual 306, 3) := by decide +kernel
theorem dX7_readNewName_24 : decode cX7_readNewName 24 = .ok (.iconst (-1), 1) := by decide +kernel
theorem dX7_readNewName_25 : decode cX7_readNewName 25 = .ok (.if_icmp .eq 8, 3) := by decide +kernel
theorem dX7_readNewName_28 : decode cX7_readNewName 28 = .ok (.aload_n 0, 1) := by decide +kernel
theorem dX7_readNewName_29 : decode cX7_readNewName 29 = .ok (.iconst 3, 1) := by decide +kernel
theorem dX7_readNewName_30 : decode cX7_readNewName 30 = .ok (.invokevirtual 81, 3) := by decide +kernel
theorem dX7_readNewName_33 : decode cX7_readNewName 33 = .ok (.aload_n 0, 1) := by decide +kernel
theorem dX7_readNewName_34 : decode cX7_readNewName 34 = .ok (.invokevirtual 134, 3) := by decide +kernel
theorem dX7_readNewName_37 : decode cX7_readNewName 37 = .ok (.ifCond .ne 20, 3) := by decide +kernel
theorem dX7_readNewName_40 : decode cX7_readNewName 40 = .ok (.aload_n 1, 1) := by decide +kernel
theorem dX7_readNewName_41 : decode cX7_readNewName 41 = .ok (.iload_n 2, 1) := by decide +kernel
theorem dX7_readNewName_42 : decode cX7_readNewName 42 = .ok (.aload_n 0, 1) := by decide +kernel
theorem dX7_readNewName_43 : decode cX7_readNewName 43 = .ok (.getfield 12, 3) := by decide +kernel
theorem dX7_readNewName_46 : decode cX7_readNewName 46 = .ok (.invokevirtual 309, 3) := by decide +kernel
theorem dX7_readNewName_49 : decode cX7_readNewName 49 = .ok (.lastore, 1) := by decide +kernel
theorem dX7_readNewName_50 : decode cX7_readNewName 50 = .ok (.aload_n 0, 1) := by decide +kernel
theorem dX7_readNewName_51 : decode cX7_readNewName 51 = .ok (.getfield 12, 3) := by decide +kernel
theorem dX7_readNewName_54 : decode cX7_readNewName 54 = .ok (.invokevirtual 138, 3) := by decide +kernel
theorem dX7_readNewName_57 : decode cX7_readNewName 57 = .ok (.return_, 1) := by decide +kernel
theorem dX7_readKnownName_0 : decode cX7_readKnownName 0 = .ok (.iconst (-1), 1) := by decide +kernel
theorem dX7_readKnownName_1 : decode cX7_readKnownName 1 = .ok (.istore_n 3, 1) := by decide +kernel
theorem dX7_readKnownName_2 : decode cX7_readKnownName 2 = .ok (.aload_n 0, 1) := by decide +kernel
theorem dX7_readKnownName_3 : decode cX7_readKnownName 3 = .ok (.getfield 12, 3) := by decide +kernel
theorem dX7_readKnownName_6 : decode cX7_readKnownName 6 = .ok (.invokevirtual 303, 3) := by decide +kernel
theorem dX7_readKnownName_9 : decode cX7_readKnownName 9 = .ok (.ifCond .ne 11, 3) := by decide +kernel
theorem dX7_readKnownName_12 : decode cX7_readKnownName 12 = .ok (.aload_n 0, 1) := by decide +kernel
theorem dX7_readKnownName_13 : decode cX7_readKnownName 13 = .ok (.iconst 1, 1) := by decide +kernel
theorem dX7_readKnownName_14 : decode cX7_readKnownName 14 = .ok (.invokevirtual 81, 3) := by decide +kernel
theorem dX7_readKnownName_17 : decode cX7_readKnownName 17 = .ok (.goto 20, 3) := by decide +kernel
theorem dX7_readKnownName_20 : decode cX7_readKnownName 20 = .ok (.aload_n 0, 1) := by decide +kernel
theorem dX7_readKnownName_21 : decode cX7_readKnownName 21 = .ok (.aload_n 1, 1) := by decide +kernel
theorem dX7_readKnownName_22 : decode cX7_readKnownName 22 = .ok (.iload_n 2, 1) := by decide +kernel
theorem dX7_readKnownName_23 : decode cX7_readKnownName 23 = .ok (.invokevirtual 306, 3) := by decide +kernel
theorem dX7_readKnownName_26 : decode cX7_readKnownName 26 = .ok (.istore_n 3, 1) := by decide +kernel
theorem dX7_readKnownName_27 : decode cX7_readKnownName 27 = .ok (.iload_n 3, 1) := by decide +kernel
theorem dX7_readKnownName_28 : decode cX7_readKnownName 28 = .ok (.iconst (-1), 1) := by decide +kernel
theorem dX7_readKnownName_29 : decode cX7_readKnownName 29 = .ok (.if_icmp .ne 8, 3) := by decide +kernel
theorem dX7_readKnownName_32 : decode cX7_readKnownName 32 = .ok (.aload_n 0, 1) := by decide +kernel
theorem dX7_readKnownName_33 : decode cX7_readKnownName 33 = .ok (.iconst 4, 1) := by decide +kernel
theorem dX7_readKnownName_34 : decode cX7_readKnownName 34 = .ok (.invokevirtual 81, 3) := by decide +kernel
theorem dX7_readKnownName_37 : decode cX7_readKnownName 37 = .ok (.aload_n 0, 1) := by decide +kernel
theorem dX7_readKnownName_38 : decode cX7_readKnownName 38 = .ok (.invokevirtual 134, 3) := by decide +kernel
theorem dX7_readKnownName_41 : decode cX7_readKnownName 41 = .ok (.ifCond .ne 10, 3) := by decide +kernel
theorem dX7_readKnownName_44 : decode cX7_readKnownName 44 = .ok (.aload_n 0, 1) := by decide +kernel
theorem dX7_readKnownName_45 : decode cX7_readKnownName 45 = .ok (.getfield 12, 3) := by decide +kernel
theorem dX7_readKnownName_48 : decode cX7_readKnownName 48 = .ok (.invokevirtual 138, 3) := by decide +kernel
theorem dX7_readKnownName_51 : decode cX7_readKnownName 51 = .ok (.iload_n 3, 1) := by decide +kernel
theorem dX7_readKnownName_52 : decode cX7_readKnownName 52 = .ok (.ireturn, 1) := by decide +kernel
theorem dX7_indexOfName_0 : decode cX7_indexOfName 0 = .ok (.aload_n 0, 1) := by decide +kernel
theorem dX7_indexOfName_1 : decode cX7_indexOfName 1 = .ok (.getfield 12, 3) := by decide +kernel
theorem dX7_indexOfName_4 : decode cX7_indexOfName 4 = .ok (.invokevirtual 309, 3) := by decide +kernel
theorem dX7_indexOfName_7 : decode cX7_indexOfName 7 = .ok (.lstore_n 3, 1) := by decide +kernel
theorem dX7_indexOfName_8 : decode cX7_indexOfName 8 = .ok (.iconst 0, 1) := by decide +kernel
theorem dX7_indexOfName_9 : decode cX7_indexOfName 9 = .ok (.istore 5, 2) := by decide +kernel
theorem dX7_indexOfName_11 : decode cX7_indexOfName 11 = .ok (.iload 5, 2) := by decide +kernel
theorem dX7_indexOfName_13 : decode cX7_indexOfName 13 = .ok (.iload_n 2, 1) := by decide +kernel
theorem dX7_indexOfName_14 : decode cX7_indexOfName 14 = .ok (.if_icmp .ge 21, 3) := by decide +kernel
theorem dX7_indexOfName_17 : decode cX7_indexOfName 17 = .ok (.aload_n 1, 1) := by decide +kernel
theorem dX7_indexOfName_18 : decode cX7_indexOfName 18 = .ok (.iload 5, 2) := by decide +kernel
theorem dX7_indexOfName_20 : decode cX7_indexOfName 20 = .ok (.laload, 1) := by decide +kernel
theorem dX7_indexOfName_21 : decode cX7_indexOfName 21 = .ok (.lload_n 3, 1) := by decide +kernel
theorem dX7_indexOfName_22 : decode cX7_indexOfName 22 = .ok (.lcmp, 1) := by decide +kernel
theorem dX7_indexOfName_23 : decode cX7_indexOfName 23 = .ok (.ifCond .ne 6, 3) := by decide +kernel
theorem dX7_indexOfName_26 : decode cX7_indexOfName 26 = .ok (.iload 5, 2) := by decide +kernel
theorem dX7_indexOfName_28 : decode cX7_indexOfName 28 = .ok (.ireturn, 1) := by decide +kernel
theorem dX7_indexOfName_29 : decode cX7_indexOfName 29 = .ok (.iinc 5 1, 3) := by decide +kernel
theorem dX7_indexOfName_32 : decode cX7_indexOfName 32 = .ok (.goto (-21), 3) := by decide +kernel
theorem dX7_indexOfName_35 : decode cX7_indexOfName 35 = .ok (.iconst (-1), 1) := by decide +kernel
theorem dX7_indexOfName_36 : decode cX7_indexOfName 36 = .ok (.ireturn, 1) := by decide +kernel
theorem dX7_readPlace_0 : decode cX7_readPlace 0 = .ok (.iconst (-1), 1) := by decide +kernel
theorem dX7_readPlace_1 : decode cX7_readPlace 1 = .ok (.istore_n 3, 1) := by decide +kernel
theorem dX7_readPlace_2 : decode cX7_readPlace 2 = .ok (.aload_n 0, 1) := by decide +kernel
theorem dX7_readPlace_3 : decode cX7_readPlace 3 = .ok (.getfield 12, 3) := by decide +kernel
theorem dX7_readPlace_6 : decode cX7_readPlace 6 = .ok (.invokevirtual 77, 3) := by decide +kernel
theorem dX7_readPlace_9 : decode cX7_readPlace 9 = .ok (.getstatic 313, 3) := by decide +kernel
theorem dX7_readPlace_12 : decode cX7_readPlace 12 = .ok (.if_acmp .ne 9, 3) := by decide +kernel
theorem dX7_readPlace_15 : decode cX7_readPlace 15 = .ok (.bipush 7, 2) := by decide +kernel
theorem dX7_readPlace_17 : decode cX7_readPlace 17 = .ok (.istore_n 3, 1) := by decide +kernel
theorem dX7_readPlace_18 : decode cX7_readPlace 18 = .ok (.goto 44, 3) := by decide +kernel
theorem dX7_readPlace_21 : decode cX7_readPlace 21 = .ok (.aload_n 0, 1) := by decide +kernel
theorem dX7_readPlace_22 : decode cX7_readPlace 22 = .ok (.getfield 12, 3) := by decide +kernel
theorem dX7_readPlace_25 : decode cX7_readPlace 25 = .ok (.invokevirtual 303, 3) := by decide +kernel
theorem dX7_readPlace_28 : decode cX7_readPlace 28 = .ok (.ifCond .ne 11, 3) := by decide +kernel
theorem dX7_readPlace_31 : decode cX7_readPlace 31 = .ok (.aload_n 0, 1) := by decide +kernel
theorem dX7_readPlace_32 : decode cX7_readPlace 32 = .ok (.iconst 1, 1) := by decide +kernel
theorem dX7_readPlace_33 : decode cX7_readPlace 33 = .ok (.invokevirtual 81, 3) := by decide +kernel
theorem dX7_readPlace_36 : decode cX7_readPlace 36 = .ok (.goto 26, 3) := by decide +kernel
theorem dX7_readPlace_39 : decode cX7_readPlace 39 = .ok (.aload_n 0, 1) := by decide +kernel
theorem dX7_readPlace_40 : decode cX7_readPlace 40 = .ok (.aload_n 0, 1) := by decide +kernel
theorem dX7_readPlace_41 : decode cX7_readPlace 41 = .ok (.getfield 24, 3) := by decide +kernel
theorem dX7_readPlace_44 : decode cX7_readPlace 44 = .ok (.aload_n 1, 1) := by decide +kernel
theorem dX7_readPlace_45 : decode cX7_readPlace 45 = .ok (.getfield 65, 3) := by decide +kernel
theorem dX7_readPlace_48 : decode cX7_readPlace 48 = .ok (.invokevirtual 306, 3) := by decide +kernel
theorem dX7_readPlace_51 : decode cX7_readPlace 51 = .ok (.istore_n 3, 1) := by decide +kernel
theorem dX7_readPlace_52 : decode cX7_readPlace 52 = .ok (.iload_n 3, 1) := by decide +kernel
theorem dX7_readPlace_53 : decode cX7_readPlace 53 = .ok (.iconst (-1), 1) := by decide +kernel
theorem dX7_readPlace_54 : decode cX7_readPlace 54 = .ok (.if_icmp .ne 8, 3) := by decide +kernel
theorem dX7_readPlace_57 : decode cX7_readPlace 57 = .ok (.aload_n 0, 1) := by decide +kernel
theorem dX7_readPlace_58 : decode cX7_readPlace 58 = .ok (.iconst 4, 1) := by decide +kernel
theorem dX7_readPlace_59 : decode cX7_readPlace 59 = .ok (.invokevirtual 81, 3) := by decide +kernel
theorem dX7_readPlace_62 : decode cX7_readPlace 62 = .ok (.iload_n 3, 1) := by decide +kernel
theorem dX7_readPlace_63 : decode cX7_readPlace 63 = .ok (.iload_n 2, 1) := by decide +kernel
theorem dX7_readPlace_64 : decode cX7_readPlace 64 = .ok (.if_icmp .ne 8, 3) := by decide +kernel
theorem dX7_readPlace_67 : decode cX7_readPlace 67 = .ok (.aload_n 0, 1) := by decide +kernel
theorem dX7_readPlace_68 : decode cX7_readPlace 68 = .ok (.iconst 3, 1) := by decide +kernel
theorem dX7_readPlace_69 : decode cX7_readPlace 69 = .ok (.invokevirtual 81, 3) := by decide +kernel
theorem dX7_readPlace_72 : decode cX7_readPlace 72 = .ok (.aload_n 0, 1) := by decide +kernel
theorem dX7_readPlace_73 : decode cX7_readPlace 73 = .ok (.invokevirtual 134, 3) := by decide +kernel
theorem dX7_readPlace_76 : decode cX7_readPlace 76 = .ok (.ifCond .ne 10, 3) := by decide +kernel
theorem dX7_readPlace_79 : decode cX7_readPlace 79 = .ok (.aload_n 0, 1) := by decide +kernel
theorem dX7_readPlace_80 : decode cX7_readPlace 80 = .ok (.getfield 12, 3) := by decide +kernel
theorem dX7_readPlace_83 : decode cX7_readPlace 83 = .ok (.invokevirtual 138, 3) := by decide +kernel
theorem dX7_readPlace_86 : decode cX7_readPlace 86 = .ok (.iload_n 3, 1) := by decide +kernel
theorem dX7_readPlace_87 : decode cX7_readPlace 87 = .ok (.ireturn, 1) := by decide +kernel
theorem dX8_init_0 : decode cX8_init 0 = .ok (.aload_n 0, 1) := by decide +kernel
theorem dX8_init_1 : decode cX8_init 1 = .ok (.invokespecial 3, 3) := by decide +kernel
theorem dX8_init_4 : decode cX8_init 4 = .ok (.aload_n 0, 1) := by decide +kernel
theorem dX8_init_5 : decode cX8_init 5 = .ok (.bipush 7, 2) := by decide +kernel
theorem dX8_init_7 : decode cX8_init 7 = .ok (.newarray .int, 2) := by decide +kernel
theorem dX8_init_9 : decode cX8_init 9 = .ok (.putfield 11, 3) := by decide +kernel
theorem dX8_init_12 : decode cX8_init 12 = .ok (.aload_n 0, 1) := by decide +kernel
theorem dX8_init_13 : decode cX8_init 13 = .ok (.bipush 7, 2) := by decide +kernel
theorem dX8_init_15 : decode cX8_init 15 = .ok (.newarray .int, 2) := by decide +kernel
theorem dX8_init_17 : decode cX8_init 17 = .ok (.putfield 17, 3) := by decide +kernel
theorem dX8_init_20 : decode cX8_init 20 = .ok (.aload_n 0, 1) := by decide +kernel
theorem dX8_init_21 : decode cX8_init 21 = .ok (.bipush 7, 2) := by decide +kernel
theorem dX8_init_23 : decode cX8_init 23 = .ok (.newarray .int, 2) := by decide +kernel
theorem dX8_init_25 : decode cX8_init 25 = .ok (.putfield 20, 3) := by decide +kernel
theorem dX8_init_28 : decode cX8_init 28 = .ok (.aload_n 0, 1) := by decide +kernel
theorem dX8_init_29 : decode cX8_init 29 = .ok (.sipush 128, 3) := by decide +kernel
theorem dX8_init_32 : decode cX8_init 32 = .ok (.newarray .int, 2) := by decide +kernel
theorem dX8_init_34 : decode cX8_init 34 = .ok (.putfield 25, 3) := by decide +kernel
theorem dX8_init_37 : decode cX8_init 37 = .ok (.aload_n 0, 1) := by decide +kernel
theorem dX8_init_38 : decode cX8_init 38 = .ok (.sipush 128, 3) := by decide +kernel
theorem dX8_init_41 : decode cX8_init 41 = .ok (.newarray .int, 2) := by decide +kernel
theorem dX8_init_43 : decode cX8_init 43 = .ok (.putfield 28, 3) := by decide +kernel
theorem dX8_init_46 : decode cX8_init 46 = .ok (.aload_n 0, 1) := by decide +kernel
theorem dX8_init_47 : decode cX8_init 47 = .ok (.sipush 128, 3) := by decide +kernel
theorem dX8_init_50 : decode cX8_init 50 = .ok (.newarray .int, 2) := by decide +kernel
theorem dX8_init_52 : decode cX8_init 52 = .ok (.putfield 31, 3) := by decide +kernel
theorem dX8_init_55 : decode cX8_init 55 = .ok (.aload_n 0, 1) := by decide +kernel
theorem dX8_init_56 : decode cX8_init 56 = .ok (.sipush 128, 3) := by decide +kernel
theorem dX8_init_59 : decode cX8_init 59 = .ok (.newarray .int, 2) := by decide +kernel
theorem dX8_init_61 : decode cX8_init 61 = .ok (.putfield 34, 3) := by decide +kernel
theorem dX8_init_64 : decode cX8_init 64 = .ok (.aload_n 0, 1) := by decide +kernel
theorem dX8_init_65 : decode cX8_init 65 = .ok (.iconst 3, 1) := by decide +kernel
theorem dX8_init_66 : decode cX8_init 66 = .ok (.newarray .int, 2) := by decide +kernel
theorem dX8_init_68 : decode cX8_init 68 = .ok (.putfield 37, 3) := by decide +kernel
theorem dX8_init_71 : decode cX8_init 71 = .ok (.aload_n 0, 1) := by decide +kernel
theorem dX8_init_72 : decode cX8_init 72 = .ok (.bipush 7, 2) := by decide +kernel
theorem dX8_init_74 : decode cX8_init 74 = .ok (.newarray .int, 2) := by decide +kernel
theorem dX8_init_76 : decode cX8_init 76 = .ok (.putfield 40, 3) := by decide +kernel
theorem dX8_init_79 : decode cX8_init 79 = .ok (.aload_n 0, 1) := by decide +kernel
theorem dX8_init_80 : decode cX8_init 80 = .ok (.iconst 3, 1) := by decide +kernel
theorem dX8_init_81 : decode cX8_init 81 = .ok (.newarray .int, 2) := by decide +kernel
theorem dX8_init_83 : decode cX8_init 83 = .ok (.putfield 43, 3) := by decide +kernel
theorem dX8_init_86 : decode cX8_init 86 = .ok (.aload_n 0, 1) := by decide +kernel
theorem dX8_init_87 : decode cX8_init 87 = .ok (.bipush 7, 2) := by decide +kernel
theorem dX8_init_89 : decode cX8_init 89 = .ok (.newarray .int, 2) := by decide +kernel
theorem dX8_init_91 : decode cX8_init 91 = .ok (.putfield 46, 3) := by decide +kernel
theorem dX8_init_94 : decode cX8_init 94 = .ok (.return_, 1) := by decide +kernel
theorem dX8_gather_0 : decode cX8_gather 0 = .ok (.aload_n 0, 1) := by decide +kernel
theorem dX8_gather_1 : decode cX8_gather 1 = .ok (.getfield 11, 3) := by decide +kernel
theorem dX8_gather_4 : decode cX8_gather 4 = .ok (.sipush 1439, 3) := by decide +kernel
theorem dX8_gather_7 : decode cX8_gather 7 = .ok (.invokestatic 49, 3) := by decide +kernel
theorem dX8_gather_10 : decode cX8_gather 10 = .ok (.aload_n 0, 1) := by decide +kernel
theorem dX8_gather_11 : decode cX8_gather 11 = .ok (.getfield 17, 3) := by decide +kernel
theorem dX8_gather_14 : decode cX8_gather 14 = .ok (.iconst 0, 1) := by decide +kernel
theorem dX8_gather_15 : decode cX8_gather 15 = .ok (.invokestatic 49, 3) := by decide +kernel
theorem dX8_gather_18 : decode cX8_gather 18 = .ok (.aload_n 0, 1) := by decide +kernel
theorem dX8_gather_19 : decode cX8_gather 19 = .ok (.getfield 20, 3) := by decide +kernel
theorem dX8_gather_22 : decode cX8_gather 22 = .ok (.iconst 0, 1) := by decide +kernel
theorem dX8_gather_23 : decode cX8_gather 23 = .ok (.invokestatic 49, 3) := by decide +kernel
theorem dX8_gather_26 : decode cX8_gather 26 = .ok (.iconst 0, 1) := by decide +kernel
theorem dX8_gather_27 : decode cX8_gather 27 = .ok (.istore_n 3, 1) := by decide +kernel
theorem dX8_gather_28 : decode cX8_gather 28 = .ok (.aload_n 0, 1) := by decide +kernel
theorem dX8_gather_29 : decode cX8_gather 29 = .ok (.iconst 0, 1) := by decide +kernel
theorem dX8_gather_30 : decode cX8_gather 30 = .ok (.putfield 55, 3) := by decide +kernel
theorem dX8_gather_33 : decode cX8_gather 33 = .ok (.iconst 0, 1) := by decide +kernel
theorem dX8_gather_34 : decode cX8_gather 34 = .ok (.istore 4, 2) := by decide +kernel
theorem dX8_gather_36 : decode cX8_gather 36 = .ok (.iload 4, 2) := by decide +kernel
theorem dX8_gather_38 : decode cX8_gather 38 = .ok (.aload_n 1, 1) := by decide +kernel
theorem dX8_gather_39 : decode cX8_gather 39 = .ok (.getfield 59, 3) := by decide +kernel
theorem dX8_gather_42 : decode cX8_gather 42 = .ok (.if_icmp .ge 140, 3) := by decide +kernel
theorem dX8_gather_45 : decode cX8_gather 45 = .ok (.aload_n 1, 1) := by decide +kernel
theorem dX8_gather_46 : decode cX8_gather 46 = .ok (.iload 4, 2) := by decide +kernel
theorem dX8_gather_48 : decode cX8_gather 48 = .ok (.invokevirtual 62, 3) := by decide +kernel
theorem dX8_gather_51 : decode cX8_gather 51 = .ok (.ifCond .eq 125, 3) := by decide +kernel
theorem dX8_gather_54 : decode cX8_gather 54 = .ok (.aload_n 1, 1) := by decide +kernel
theorem dX8_gather_55 : decode cX8_gather 55 = .ok (.getfield 66, 3) := by decide +kernel
theorem dX8_gather_58 : decode cX8_gather 58 = .ok (.iload 4, 2) := by decide +kernel
theorem dX8_gather_60 : decode cX8_gather 60 = .ok (.aaload, 1) := by decide +kernel
theorem dX8_gather_61 : decode cX8_gather 61 = .ok (.astore 5, 2) := by decide +kernel
theorem dX8_gather_63 : decode cX8_gather 63 = .ok (.iload_n 3, 1) := by decide +kernel
theorem dX8_gather_64 : decode cX8_gather 64 = .ok (.iconst 1, 1) := by decide +kernel
theorem dX8_gather_65 : decode cX8_gather 65 = .ok (.aload 5, 2) := by decide +kernel
theorem dX8_gather_67 : decode cX8_gather 67 = .ok (.getfield 70, 3) := by decide +kernel
theorem dX8_gather_70 : decode cX8_gather 70 = .ok (.ishl, 1) := by decide +kernel
theorem dX8_gather_71 : decode cX8_gather 71 = .ok (.ior, 1) := by decide +kernel
theorem dX8_gather_72 : decode cX8_gather 72 = .ok (.istore_n 3, 1) := by decide +kernel
theorem dX8_gather_73 : decode cX8_gather 73 = .ok (.aload_n 2, 1) := by decide +kernel
theorem dX8_gather_74 : decode cX8_gather 74 = .ok (.getfield 75, 3) := by decide +kernel
theorem dX8_gather_77 : decode cX8_gather 77 = .ok (.iload 4, 2) := by decide +kernel
theorem dX8_gather_79 : decode cX8_gather 79 = .ok (.iaload, 1) := by decide +kernel
theorem dX8_gather_80 : decode cX8_gather 80 = .ok (.iconst (-1), 1) := by decide +kernel
theorem dX8_gather_81 : decode cX8_gather 81 = .ok (.if_icmp .ne 19, 3) := by decide +kernel
theorem dX8_gather_84 : decode cX8_gather 84 = .ok (.aload_n 0, 1) := by decide +kernel
theorem dX8_gather_85 : decode cX8_gather 85 = .ok (.dup, 1) := by decide +kernel
theorem dX8_gather_86 : decode cX8_gather 86 = .ok (.getfield 55, 3) := by decide +kernel
theorem dX8_gather_89 : decode cX8_gather 89 = .ok (.iconst 1, 1) := by decide +kernel
theorem dX8_gather_90 : decode cX8_gather 90 = .ok (.aload 5, 2) := by decide +kernel
theorem dX8_gather_92 : decode cX8_gather 92 = .ok (.getfield 70, 3) := by decide +kernel
theorem dX8_gather_95 : decode cX8_gather 95 = .ok (.ishl, 1) := by decide +kernel
theorem dX8_gather_96 : decode cX8_gather 96 = .ok (.ior, 1) := by decide +kernel
theorem dX8_gather_97 : decode cX8_gather 97 = .ok (.putfield 55, 3) := by decide +kernel
theorem dX8_gather_100 : decode cX8_gather 100 = .ok (.aload_n 0, 1) := by decide +kernel
theorem dX8_gather_101 : decode cX8_gather 101 = .ok (.getfield 11, 3) := by decide +kernel
theorem dX8_gather_104 : decode cX8_gather 104 = .ok (.aload 5, 2) := by decide +kernel
theorem dX8_gather_106 : decode cX8_gather 106 = .ok (.getfield 70, 3) := by decide +kernel
theorem dX8_gather_109 : decode cX8_gather 109 = .ok (.aload_n 0, 1) := by decide +kernel
theorem dX8_gather_110 : decode cX8_gather 110 = .ok (.getfield 11, 3) := by decide +kernel
theorem dX8_gather_113 : decode cX8_gather 113 = .ok (.aload 5, 2) := by decide +kernel
theorem dX8_gather_115 : decode cX8_gather 115 = .ok (.getfield 70, 3) := by decide +kernel
theorem dX8_gather_118 : decode cX8_gather 118 = .ok (.iaload, 1) := by decide +kernel
theorem dX8_gather_119 : decode cX8_gather 119 = .ok (.aload 5, 2) := by decide +kernel
theorem dX8_gather_121 : decode cX8_gather 121 = .ok (.getfield 80, 3) := by decide +kernel
theorem dX8_gather_124 : decode cX8_gather 124 = .ok (.invokestatic 83, 3) := by decide +kernel
theorem dX8_gather_127 : decode cX8_gather 127 = .ok (.iastore, 1) := by decide +kernel
theorem dX8_gather_128 : decode cX8_gather 128 = .ok (.aload_n 0, 1) := by decide +kernel
theorem dX8_gather_129 : decode cX8_gather 129 = .ok (.getfield 17, 3) := by decide +kernel
theorem dX8_gather_132 : decode cX8_gather 132 = .ok (.aload 5, 2) := by decide +kernel
theorem dX8_gather_134 : decode cX8_gather 134 = .ok (.getfield 70, 3) := by decide +kernel
theorem dX8_gather_137 : decode cX8_gather 137 = .ok (.dup2, 1) := by decide +kernel
theorem dX8_gather_138 : decode cX8_gather 138 = .ok (.iaload, 1) := by decide +kernel
theorem dX8_gather_139 : decode cX8_gather 139 = .ok (.aload 5, 2) := by decide +kernel
theorem dX8_gather_141 : decode cX8_gather 141 = .ok (.getfield 89, 3) := by decide +kernel
theorem dX8_gather_144 : decode cX8_gather 144 = .ok (.iadd, 1) := by decide +kernel
theorem dX8_gather_145 : decode cX8_gather 145 = .ok (.iastore, 1) := by decide +kernel
theorem dX8_gather_146 : decode cX8_gather 146 = .ok (.aload_n 0, 1) := by decide +kernel
theorem dX8_gather_147 : decode cX8_gather 147 = .ok (.getfield 20, 3) := by decide +kernel
theorem dX8_gather_150 : decode cX8_gather 150 = .ok (.aload 5, 2) := by decide +kernel
theorem dX8_gather_152 : decode cX8_gather 152 = .ok (.getfield 70, 3) := by decide +kernel
theorem dX8_gather_155 : decode cX8_gather 155 = .ok (.aload_n 0, 1) := by decide +kernel
theorem dX8_gather_156 : decode cX8_gather 156 = .ok (.getfield 20, 3) := by decide +kernel
theorem dX8_gather_159 : decode cX8_gather 159 = .ok (.aload 5, 2) := by decide +kernel
theorem dX8_gather_161 : decode cX8_gather 161 = .ok (.getfield 70, 3) := by decide +kernel
theorem dX8_gather_164 : decode cX8_gather 164 = .ok (.iaload, 1) := by decide +kernel
theorem dX8_gather_165 : decode cX8_gather 165 = .ok (.aload_n 2, 1) := by decide +kernel
theorem dX8_gather_166 : decode cX8_gather 166 = .ok (.getfield 75, 3) := by decide +kernel
theorem dX8_gather_169 : decode cX8_gather 169 = .ok (.iload 4, 2) := by decide +kernel
theorem dX8_gather_171 : decode cX8_gather 171 = .ok (.iaload, 1) := by decide +kernel
theorem dX8_gather_172 : decode cX8_gather 172 = .ok (.invokestatic 92, 3) := by decide +kernel
theorem dX8_gather_175 : decode cX8_gather 175 = .ok (.iastore, 1) := by decide +kernel
theorem dX8_gather_176 : decode cX8_gather 176 = .ok (.iinc 4 1, 3) := by decide +kernel
theorem dX8_gather_179 : decode cX8_gather 179 = .ok (.goto (-143), 3) := by decide +kernel
theorem dX8_gather_182 : decode cX8_gather 182 = .ok (.aload_n 0, 1) := by decide +kernel
theorem dX8_gather_183 : decode cX8_gather 183 = .ok (.iload_n 3, 1) := by decide +kernel
theorem dX8_gather_184 : decode cX8_gather 184 = .ok (.aload_n 0, 1) := by decide +kernel
theorem dX8_gather_185 : decode cX8_gather 185 = .ok (.getfield 55, 3) := by decide +kernel
theorem dX8_gather_188 : decode cX8_gather 188 = .ok (.iconst (-1), 1) := by decide +kernel
theorem dX8_gather_189 : decode cX8_gather 189 = .ok (.ixor, 1) := by decide +kernel
theorem dX8_gather_190 : decode cX8_gather 190 = .ok (.iand, 1) := by decide +kernel
theorem dX8_gather_191 : decode cX8_gather 191 = .ok (.putfield 95, 3) := by decide +kernel
theorem dX8_gather_194 : decode cX8_gather 194 = .ok (.return_, 1) := by decide +kernel
theorem dX8_choose_0 : decode cX8_choose 0 = .ok (.aload_n 0, 1) := by decide +kernel
theorem dX8_choose_1 : decode cX8_choose 1 = .ok (.iconst 0, 1) := by decide +kernel
theorem dX8_choose_2 : decode cX8_choose 2 = .ok (.putfield 98, 3) := by decide +kernel
theorem dX8_choose_5 : decode cX8_choose 5 = .ok (.iconst 0, 1) := by decide +kernel
theorem dX8_choose_6 : decode cX8_choose 6 = .ok (.istore_n 2, 1) := by decide +kernel
theorem dX8_choose_7 : decode cX8_choose 7 = .ok (.aload_n 0, 1) := by decide +kernel
theorem dX8_choose_8 : decode cX8_choose 8 = .ok (.aload_n 1, 1) := by decide +kernel
theorem dX8_choose_9 : decode cX8_choose 9 = .ok (.invokevirtual 102, 3) := by decide +kernel
theorem dX8_choose_12 : decode cX8_choose 12 = .ok (.aload_n 0, 1) := by decide +kernel
theorem dX8_choose_13 : decode cX8_choose 13 = .ok (.aload_n 1, 1) := by decide +kernel
theorem dX8_choose_14 : decode cX8_choose 14 = .ok (.invokevirtual 106, 3) := by decide +kernel
theorem dX8_choose_17 : decode cX8_choose 17 = .ok (.istore_n 3, 1) := by decide +kernel
theorem dX8_choose_18 : decode cX8_choose 18 = .ok (.iconst 0, 1) := by decide +kernel
theorem dX8_choose_19 : decode cX8_choose 19 = .ok (.istore 4, 2) := by decide +kernel
theorem dX8_choose_21 : decode cX8_choose 21 = .ok (.iload 4, 2) := by decide +kernel
theorem dX8_choose_23 : decode cX8_choose 23 = .ok (.iload_n 3, 1) := by decide +kernel
theorem dX8_choose_24 : decode cX8_choose 24 = .ok (.if_icmp .ge 143, 3) := by decide +kernel
theorem dX8_choose_27 : decode cX8_choose 27 = .ok (.aload_n 0, 1) := by decide +kernel
theorem dX8_choose_28 : decode cX8_choose 28 = .ok (.aload_n 1, 1) := by decide +kernel
theorem dX8_choose_29 : decode cX8_choose 29 = .ok (.invokevirtual 110, 3) := by decide +kernel
theorem dX8_choose_32 : decode cX8_choose 32 = .ok (.ifCond .eq 124, 3) := by decide +kernel
theorem dX8_choose_35 : decode cX8_choose 35 = .ok (.iconst 0, 1) := by decide +kernel
theorem dX8_choose_36 : decode cX8_choose 36 = .ok (.istore 5, 2) := by decide +kernel
theorem dX8_choose_38 : decode cX8_choose 38 = .ok (.iconst 0, 1) := by decide +kernel
theorem dX8_choose_39 : decode cX8_choose 39 = .ok (.istore 6, 2) := by decide +kernel
theorem dX8_choose_41 : decode cX8_choose 41 = .ok (.iconst 0, 1) := by decide +kernel
theorem dX8_choose_42 : decode cX8_choose 42 = .ok (.istore 7, 2) := by decide +kernel
theorem dX8_choose_44 : decode cX8_choose 44 = .ok (.iload 7, 2) := by decide +kernel
theorem dX8_choose_46 : decode cX8_choose 46 = .ok (.aload_n 1, 1) := by decide +kernel
theorem dX8_choose_47 : decode cX8_choose 47 = .ok (.getfield 114, 3) := by decide +kernel
theorem dX8_choose_50 : decode cX8_choose 50 = .ok (.if_icmp .ge 43, 3) := by decide +kernel
theorem dX8_choose_53 : decode cX8_choose 53 = .ok (.iload 5, 2) := by decide +kernel
theorem dX8_choose_55 : decode cX8_choose 55 = .ok (.aload_n 0, 1) := by decide +kernel
theorem dX8_choose_56 : decode cX8_choose 56 = .ok (.getfield 28, 3) := by decide +kernel
theorem dX8_choose_59 : decode cX8_choose 59 = .ok (.aload_n 0, 1) := by decide +kernel
theorem dX8_choose_60 : decode cX8_choose 60 = .ok (.getfield 37, 3) := by decide +kernel
theorem dX8_choose_63 : decode cX8_choose 63 = .ok (.iload 7, 2) := by decide +kernel
theorem dX8_choose_65 : decode cX8_choose 65 = .ok (.iaload, 1) := by decide +kernel
theorem dX8_choose_66 : decode cX8_choose 66 = .ok (.iaload, 1) := by decide +kernel
theorem dX8_choose_67 : decode cX8_choose 67 = .ok (.iadd, 1) := by decide +kernel
theorem dX8_choose_68 : decode cX8_choose 68 = .ok (.istore 5, 2) := by decide +kernel
theorem dX8_choose_70 : decode cX8_choose 70 = .ok (.iload 6, 2) := by decide +kernel
theorem dX8_choose_72 : decode cX8_choose 72 = .ok (.aload_n 0, 1) := by decide +kernel
theorem dX8_choose_73 : decode cX8_choose 73 = .ok (.getfield 31, 3) := by decide +kernel
theorem dX8_choose_76 : decode cX8_choose 76 = .ok (.aload_n 0, 1) := by decide +kernel
theorem dX8_choose_77 : decode cX8_choose 77 = .ok (.getfield 37, 3) := by decide +kernel
theorem dX8_choose_80 : decode cX8_choose 80 = .ok (.iload 7, 2) := by decide +kernel
theorem dX8_choose_82 : decode cX8_choose 82 = .ok (.iaload, 1) := by decide +kernel
theorem dX8_choose_83 : decode cX8_choose 83 = .ok (.iaload, 1) := by decide +kernel
theorem dX8_choose_84 : decode cX8_choose 84 = .ok (.iadd, 1) := by decide +kernel
theorem dX8_choose_85 : decode cX8_choose 85 = .ok (.istore 6, 2) := by decide +kernel
theorem dX8_choose_87 : decode cX8_choose 87 = .ok (.iinc 7 1, 3) := by decide +kernel
theorem dX8_choose_90 : decode cX8_choose 90 = .ok (.goto (-46), 3) := by decide +kernel
theorem dX8_choose_93 : decode cX8_choose 93 = .ok (.aload_n 0, 1) := by decide +kernel
theorem dX8_choose_94 : decode cX8_choose 94 = .ok (.getfield 98, 3) := by decide +kernel
theorem dX8_choose_97 : decode cX8_choose 97 = .ok (.ifCond .eq 27, 3) := by decide +kernel
theorem dX8_choose_100 : decode cX8_choose 100 = .ok (.iload 5, 2) := by decide +kernel
theorem dX8_choose_102 : decode cX8_choose 102 = .ok (.aload_n 0, 1) := by decide +kernel
theorem dX8_choose_103 : decode cX8_choose 103 = .ok (.getfield 117, 3) := by decide +kernel
theorem dX8_choose_106 : decode cX8_choose 106 = .ok (.if_icmp .lt 18, 3) := by decide +kernel
theorem dX8_choose_109 : decode cX8_choose 109 = .ok (.iload 5, 2) := by decide +kernel
theorem dX8_choose_111 : decode cX8_choose 111 = .ok (.aload_n 0, 1) := by decide +kernel
theorem dX8_choose_112 : decode cX8_choose 112 = .ok (.getfield 117, 3) := by decide +kernel
theorem dX8_choose_115 : decode cX8_choose 115 = .ok (.if_icmp .ne 41, 3) := by decide +kernel
theorem dX8_choose_118 : decode cX8_choose 118 = .ok (.iload 6, 2) := by decide +kernel
theorem dX8_choose_120 : decode cX8_choose 120 = .ok (.iload_n 2, 1) := by decide +kernel
theorem dX8_choose_121 : decode cX8_choose 121 = .ok (.if_icmp .ge 35, 3) := by decide +kernel
theorem dX8_choose_124 : decode cX8_choose 124 = .ok (.aload_n 0, 1) := by decide +kernel
theorem dX8_choose_125 : decode cX8_choose 125 = .ok (.iconst 1, 1) := by decide +kernel
theorem dX8_choose_126 : decode cX8_choose 126 = .ok (.putfield 98, 3) := by decide +kernel
theorem dX8_choose_129 : decode cX8_choose 129 = .ok (.aload_n 0, 1) := by decide +kernel
theorem dX8_choose_130 : decode cX8_choose 130 = .ok (.iload 5, 2) := by decide +kernel
theorem dX8_choose_132 : decode cX8_choose 132 = .ok (.putfield 117, 3) := by decide +kernel
theorem dX8_choose_135 : decode cX8_choose 135 = .ok (.iload 6, 2) := by decide +kernel
theorem dX8_choose_137 : decode cX8_choose 137 = .ok (.istore_n 2, 1) := by decide +kernel
theorem dX8_choose_138 : decode cX8_choose 138 = .ok (.aload_n 0, 1) := by decide +kernel
theorem dX8_choose_139 : decode cX8_choose 139 = .ok (.getfield 37, 3) := by decide +kernel
theorem dX8_choose_142 : decode cX8_choose 142 = .ok (.iconst 0, 1) := by decide +kernel
theorem dX8_choose_143 : decode cX8_choose 143 = .ok (.aload_n 0, 1) := by decide +kernel
theorem dX8_choose_144 : decode cX8_choose 144 = .ok (.getfield 43, 3) := by decide +kernel
theorem dX8_choose_147 : decode cX8_choose 147 = .ok (.iconst 0, 1) := by decide +kernel
theorem dX8_choose_148 : decode cX8_choose 148 = .ok (.aload_n 0, 1) := by decide +kernel
theorem dX8_choose_149 : decode cX8_choose 149 = .ok (.getfield 43, 3) := by decide +kernel
theorem dX8_choose_152 : decode cX8_choose 152 = .ok (.arraylength, 1) := by decide +kernel
theorem dX8_choose_153 : decode cX8_choose 153 = .ok (.invokestatic 120, 3) := by decide +kernel
theorem dX8_choose_156 : decode cX8_choose 156 = .ok (.aload_n 0, 1) := by decide +kernel
theorem dX8_choose_157 : decode cX8_choose 157 = .ok (.aload_n 1, 1) := by decide +kernel
theorem dX8_choose_158 : decode cX8_choose 158 = .ok (.invokevirtual 126, 3) := by decide +kernel
theorem dX8_choose_161 : decode cX8_choose 161 = .ok (.iinc 4 1, 3) := by decide +kernel
theorem dX8_choose_164 : decode cX8_choose 164 = .ok (.goto (-143), 3) := by decide +kernel
theorem dX8_choose_167 : decode cX8_choose 167 = .ok (.iconst 0, 1) := by decide +kernel
theorem dX8_choose_168 : decode cX8_choose 168 = .ok (.istore 4, 2) := by decide +kernel
theorem dX8_choose_170 : decode cX8_choose 170 = .ok (.iload 4, 2) := by decide +kernel
theorem dX8_choose_172 : decode cX8_choose 172 = .ok (.aload_n 1, 1) := by decide +kernel
theorem dX8_choose_173 : decode cX8_choose 173 = .ok (.getfield 114, 3) := by decide +kernel
theorem dX8_choose_176 : decode cX8_choose 176 = .ok (.if_icmp .ge 31, 3) := by decide +kernel
theorem dX8_choose_179 : decode cX8_choose 179 = .ok (.aload_n 0, 1) := by decide +kernel
theorem dX8_choose_180 : decode cX8_choose 180 = .ok (.getfield 98, 3) := by decide +kernel
theorem dX8_choose_183 : decode cX8_choose 183 = .ok (.ifCond .eq 24, 3) := by decide +kernel
theorem dX8_choose_186 : decode cX8_choose 186 = .ok (.aload_n 0, 1) := by decide +kernel
theorem dX8_choose_187 : decode cX8_choose 187 = .ok (.aload_n 1, 1) := by decide +kernel
theorem dX8_choose_188 : decode cX8_choose 188 = .ok (.getfield 129, 3) := by decide +kernel
theorem dX8_choose_191 : decode cX8_choose 191 = .ok (.aload_n 0, 1) := by decide +kernel
theorem dX8_choose_192 : decode cX8_choose 192 = .ok (.getfield 43, 3) := by decide +kernel
theorem dX8_choose_195 : decode cX8_choose 195 = .ok (.iload 4, 2) := by decide +kernel
theorem dX8_choose_197 : decode cX8_choose 197 = .ok (.iaload, 1) := by decide +kernel
theorem dX8_choose_198 : decode cX8_choose 198 = .ok (.invokevirtual 133, 3) := by decide +kernel
theorem dX8_choose_201 : decode cX8_choose 201 = .ok (.iinc 4 1, 3) := by decide +kernel
theorem dX8_choose_204 : decode cX8_choose 204 = .ok (.goto (-34), 3) := by decide +kernel
theorem dX8_choose_207 : decode cX8_choose 207 = .ok (.return_, 1) := by decide +kernel
theorem dX8_latest_0 : decode cX8_latest 0 = .ok (.aload_n 0, 1) := by decide +kernel
theorem dX8_latest_1 : decode cX8_latest 1 = .ok (.getfield 55, 3) := by decide +kernel
theorem dX8_latest_4 : decode cX8_latest 4 = .ok (.ifCond .eq 5, 3) := by decide +kernel
theorem dX8_latest_7 : decode cX8_latest 7 = .ok (.iconst (-1), 1) := by decide +kernel
theorem dX8_latest_8 : decode cX8_latest 8 = .ok (.ireturn, 1) := by decide +kernel
theorem dX8_latest_9 : decode cX8_latest 9 = .ok (.iconst (-1), 1) := by decide +kernel
theorem dX8_latest_10 : decode cX8_latest 10 = .ok (.istore_n 2, 1) := by decide +kernel
theorem dX8_latest_11 : decode cX8_latest 11 = .ok (.aload_n 0, 1) := by decide +kernel
theorem dX8_latest_12 : decode cX8_latest 12 = .ok (.aload_n 1, 1) := by decide +kernel
theorem dX8_latest_13 : decode cX8_latest 13 = .ok (.invokevirtual 102, 3) := by decide +kernel
theorem dX8_latest_16 : decode cX8_latest 16 = .ok (.aload_n 0, 1) := by decide +kernel
theorem dX8_latest_17 : decode cX8_latest 17 = .ok (.aload_n 1, 1) := by decide +kernel
theorem dX8_latest_18 : decode cX8_latest 18 = .ok (.invokevirtual 106, 3) := by decide +kernel
theorem dX8_latest_21 : decode cX8_latest 21 = .ok (.istore_n 3, 1) := by decide +kernel
theorem dX8_latest_22 : decode cX8_latest 22 = .ok (.iconst 0, 1) := by decide +kernel
theorem dX8_latest_23 : decode cX8_latest 23 = .ok (.istore 4, 2) := by decide +kernel
theorem dX8_latest_25 : decode cX8_latest 25 = .ok (.iload 4, 2) := by decide +kernel
theorem dX8_latest_27 : decode cX8_latest 27 = .ok (.iload_n 3, 1) := by decide +kernel
theorem dX8_latest_28 : decode cX8_latest 28 = .ok (.if_icmp .ge 71, 3) := by decide +kernel
theorem dX8_latest_31 : decode cX8_latest 31 = .ok (.aload_n 0, 1) := by decide +kernel
theorem dX8_latest_32 : decode cX8_latest 32 = .ok (.aload_n 1, 1) := by decide +kernel
theorem dX8_latest_33 : decode cX8_latest 33 = .ok (.invokevirtual 110, 3) := by decide +kernel
theorem dX8_latest_36 : decode cX8_latest 36 = .ok (.ifCond .eq 52, 3) := by decide +kernel
theorem dX8_latest_39 : decode cX8_latest 39 = .ok (.sipush 1439, 3) := by decide +kernel
theorem dX8_latest_42 : decode cX8_latest 42 = .ok (.istore 5, 2) := by decide +kernel
theorem dX8_latest_44 : decode cX8_latest 44 = .ok (.iconst 0, 1) := by decide +kernel
theorem dX8_latest_45 : decode cX8_latest 45 = .ok (.istore 6, 2) := by decide +kernel
theorem dX8_latest_47 : decode cX8_latest 47 = .ok (.iload 6, 2) := by decide +kernel
theorem dX8_latest_49 : decode cX8_latest 49 = .ok (.aload_n 1, 1) := by decide +kernel
theorem dX8_latest_50 : decode cX8_latest 50 = .ok (.getfield 114, 3) := by decide +kernel
theorem dX8_latest_53 : decode cX8_latest 53 = .ok (.if_icmp .ge 28, 3) := by decide +kernel
theorem dX8_latest_56 : decode cX8_latest 56 = .ok (.iload 5, 2) := by decide +kernel
theorem dX8_latest_58 : decode cX8_latest 58 = .ok (.aload_n 0, 1) := by decide +kernel
theorem dX8_latest_59 : decode cX8_latest 59 = .ok (.getfield 34, 3) := by decide +kernel
theorem dX8_latest_62 : decode cX8_latest 62 = .ok (.aload_n 0, 1) := by decide +kernel
theorem dX8_latest_63 : decode cX8_latest 63 = .ok (.getfield 37, 3) := by decide +kernel
theorem dX8_latest_66 : decode cX8_latest 66 = .ok (.iload 6, 2) := by decide +kernel
theorem dX8_latest_68 : decode cX8_latest 68 = .ok (.iaload, 1) := by decide +kernel
theorem dX8_latest_69 : decode cX8_latest 69 = .ok (.iaload, 1) := by decide +kernel
theorem dX8_latest_70 : decode cX8_latest 70 = .ok (.invokestatic 83, 3) := by decide +kernel
theorem dX8_latest_73 : decode cX8_latest 73 = .ok (.istore 5, 2) := by decide +kernel
theorem dX8_latest_75 : decode cX8_latest 75 = .ok (.iinc 6 1, 3) := by decide +kernel
theorem dX8_latest_78 : decode cX8_latest 78 = .ok (.goto (-31), 3) := by decide +kernel
theorem dX8_latest_81 : decode cX8_latest 81 = .ok (.iload_n 2, 1) := by decide +kernel
theorem dX8_latest_82 : decode cX8_latest 82 = .ok (.iload 5, 2) := by decide +kernel
theorem dX8_latest_84 : decode cX8_latest 84 = .ok (.invokestatic 92, 3) := by decide +kernel
theorem dX8_latest_87 : decode cX8_latest 87 = .ok (.istore_n 2, 1) := by decide +kernel
theorem dX8_latest_88 : decode cX8_latest 88 = .ok (.aload_n 0, 1) := by decide +kernel
theorem dX8_latest_89 : decode cX8_latest 89 = .ok (.aload_n 1, 1) := by decide +kernel
theorem dX8_latest_90 : decode cX8_latest 90 = .ok (.invokevirtual 126, 3) := by decide +kernel
theorem dX8_latest_93 : decode cX8_latest 93 = .ok (.iinc 4 1, 3) := by decide +kernel
theorem dX8_latest_96 : decode cX8_latest 96 = .ok (.goto (-71), 3) := by decide +kernel
theorem dX8_latest_99 : decode cX8_latest 99 = .ok (.iload_n 2, 1) := by decide +kernel
theorem dX8_latest_100 : decode cX8_latest 100 = .ok (.ireturn, 1) := by decide +kernel
theorem dX8_firstWay_0 : decode cX8_firstWay 0 = .ok (.aload_n 0, 1) := by decide +kernel
theorem dX8_firstWay_1 : decode cX8_firstWay 1 = .ok (.getfield 37, 3) := by decide +kernel
theorem dX8_firstWay_4 : decode cX8_firstWay 4 = .ok (.iconst 0, 1) := by decide +kernel
theorem dX8_firstWay_5 : decode cX8_firstWay 5 = .ok (.invokestatic 49, 3) := by decide +kernel
theorem dX8_firstWay_8 : decode cX8_firstWay 8 = .ok (.aload_n 0, 1) := by decide +kernel
theorem dX8_firstWay_9 : decode cX8_firstWay 9 = .ok (.getfield 40, 3) := by decide +kernel
theorem dX8_firstWay_12 : decode cX8_firstWay 12 = .ok (.iconst 0, 1) := by decide +kernel
theorem dX8_firstWay_13 : decode cX8_firstWay 13 = .ok (.invokestatic 49, 3) := by decide +kernel
theorem dX8_firstWay_16 : decode cX8_firstWay 16 = .ok (.aload_n 0, 1) := by decide +kernel
theorem dX8_firstWay_17 : decode cX8_firstWay 17 = .ok (.getfield 37, 3) := by decide +kernel
theorem dX8_firstWay_20 : decode cX8_firstWay 20 = .ok (.iconst 0, 1) := by decide +kernel
theorem dX8_firstWay_21 : decode cX8_firstWay 21 = .ok (.aload_n 0, 1) := by decide +kernel
theorem dX8_firstWay_22 : decode cX8_firstWay 22 = .ok (.getfield 95, 3) := by decide +kernel
theorem dX8_firstWay_25 : decode cX8_firstWay 25 = .ok (.iastore, 1) := by decide +kernel
theorem dX8_firstWay_26 : decode cX8_firstWay 26 = .ok (.aload_n 1, 1) := by decide +kernel
theorem dX8_firstWay_27 : decode cX8_firstWay 27 = .ok (.getfield 129, 3) := by decide +kernel
theorem dX8_firstWay_30 : decode cX8_firstWay 30 = .ok (.bipush 7, 2) := by decide +kernel
theorem dX8_firstWay_32 : decode cX8_firstWay 32 = .ok (.aload_n 0, 1) := by decide +kernel
theorem dX8_firstWay_33 : decode cX8_firstWay 33 = .ok (.getfield 95, 3) := by decide +kernel
theorem dX8_firstWay_36 : decode cX8_firstWay 36 = .ok (.invokevirtual 137, 3) := by decide +kernel
theorem dX8_firstWay_39 : decode cX8_firstWay 39 = .ok (.ldc 140, 2) := by decide +kernel
theorem dX8_firstWay_41 : decode cX8_firstWay 41 = .ok (.if_icmp .lt 5, 3) := by decide +kernel
theorem dX8_firstWay_44 : decode cX8_firstWay 44 = .ok (.iconst 0, 1) := by decide +kernel
theorem dX8_firstWay_45 : decode cX8_firstWay 45 = .ok (.ireturn, 1) := by decide +kernel
theorem dX8_firstWay_46 : decode cX8_firstWay 46 = .ok (.iconst 1, 1) := by decide +kernel
theorem dX8_firstWay_47 : decode cX8_firstWay 47 = .ok (.istore_n 2, 1) := by decide +kernel
theorem dX8_firstWay_48 : decode cX8_firstWay 48 = .ok (.iconst 0, 1) := by decide +kernel
theorem dX8_firstWay_49 : decode cX8_firstWay 49 = .ok (.istore_n 3, 1) := by decide +kernel
theorem dX8_firstWay_50 : decode cX8_firstWay 50 = .ok (.iload_n 3, 1) := by decide +kernel
theorem dX8_firstWay_51 : decode cX8_firstWay 51 = .ok (.aload_n 0, 1) := by decide +kernel
theorem dX8_firstWay_52 : decode cX8_firstWay 52 = .ok (.getfield 95, 3) := by decide +kernel
theorem dX8_firstWay_55 : decode cX8_firstWay 55 = .ok (.invokestatic 141, 3) := by decide +kernel
theorem dX8_firstWay_58 : decode cX8_firstWay 58 = .ok (.if_icmp .ge 16, 3) := by decide +kernel
theorem dX8_firstWay_61 : decode cX8_firstWay 61 = .ok (.iload_n 2, 1) := by decide +kernel
theorem dX8_firstWay_62 : decode cX8_firstWay 62 = .ok (.aload_n 1, 1) := by decide +kernel
theorem dX8_firstWay_63 : decode cX8_firstWay 63 = .ok (.getfield 114, 3) := by decide +kernel
theorem dX8_firstWay_66 : decode cX8_firstWay 66 = .ok (.imul, 1) := by decide +kernel
theorem dX8_firstWay_67 : decode cX8_firstWay 67 = .ok (.istore_n 2, 1) := by decide +kernel
theorem dX8_firstWay_68 : decode cX8_firstWay 68 = .ok (.iinc 3 1, 3) := by decide +kernel
theorem dX8_firstWay_71 : decode cX8_firstWay 71 = .ok (.goto (-21), 3) := by decide +kernel
theorem dX8_firstWay_74 : decode cX8_firstWay 74 = .ok (.iload_n 2, 1) := by decide +kernel
theorem dX8_firstWay_75 : decode cX8_firstWay 75 = .ok (.ireturn, 1) := by decide +kernel
theorem dX8_nextWay_0 : decode cX8_nextWay 0 = .ok (.bipush 6, 2) := by decide +kernel
theorem dX8_nextWay_2 : decode cX8_nextWay 2 = .ok (.istore_n 2, 1) := by decide +kernel
theorem dX8_nextWay_3 : decode cX8_nextWay 3 = .ok (.iload_n 2, 1) := by decide +kernel
theorem dX8_nextWay_4 : decode cX8_nextWay 4 = .ok (.ifCond .lt 93, 3) := by decide +kernel
theorem dX8_nextWay_7 : decode cX8_nextWay 7 = .ok (.iconst 1, 1) := by decide +kernel
theorem dX8_nextWay_8 : decode cX8_nextWay 8 = .ok (.iload_n 2, 1) := by decide +kernel
theorem dX8_nextWay_9 : decode cX8_nextWay 9 = .ok (.ishl, 1) := by decide +kernel
theorem dX8_nextWay_10 : decode cX8_nextWay 10 = .ok (.istore_n 3, 1) := by decide +kernel
theorem dX8_nextWay_11 : decode cX8_nextWay 11 = .ok (.aload_n 0, 1) := by decide +kernel
theorem dX8_nextWay_12 : decode cX8_nextWay 12 = .ok (.getfield 95, 3) := by decide +kernel
theorem dX8_nextWay_15 : decode cX8_nextWay 15 = .ok (.iload_n 3, 1) := by decide +kernel
theorem dX8_nextWay_16 : decode cX8_nextWay 16 = .ok (.iand, 1) := by decide +kernel
theorem dX8_nextWay_17 : decode cX8_nextWay 17 = .ok (.ifCond .eq 74, 3) := by decide +kernel
theorem dX8_nextWay_20 : decode cX8_nextWay 20 = .ok (.aload_n 0, 1) := by decide +kernel
theorem dX8_nextWay_21 : decode cX8_nextWay 21 = .ok (.getfield 40, 3) := by decide +kernel
theorem dX8_nextWay_24 : decode cX8_nextWay 24 = .ok (.iload_n 2, 1) := by decide +kernel
theorem dX8_nextWay_25 : decode cX8_nextWay 25 = .ok (.iaload, 1) := by decide +kernel
theorem dX8_nextWay_26 : decode cX8_nextWay 26 = .ok (.iconst 1, 1) := by decide +kernel
theorem dX8_nextWay_27 : decode cX8_nextWay 27 = .ok (.iadd, 1) := by decide +kernel
theorem dX8_nextWay_28 : decode cX8_nextWay 28 = .ok (.aload_n 1, 1) := by decide +kernel
theorem dX8_nextWay_29 : decode cX8_nextWay 29 = .ok (.getfield 114, 3) := by decide +kernel
theorem dX8_nextWay_32 : decode cX8_nextWay 32 = .ok (.if_icmp .ge 14, 3) := by decide +kernel
theorem dX8_nextWay_35 : decode cX8_nextWay 35 = .ok (.aload_n 0, 1) := by decide +kernel
theorem dX8_nextWay_36 : decode cX8_nextWay 36 = .ok (.getfield 40, 3) := by decide +kernel
theorem dX8_nextWay_39 : decode cX8_nextWay 39 = .ok (.iload_n 2, 1) := by decide +kernel
theorem dX8_nextWay_40 : decode cX8_nextWay 40 = .ok (.iaload, 1) := by decide +kernel
theorem dX8_nextWay_41 : decode cX8_nextWay 41 = .ok (.iconst 1, 1) := by decide +kernel
theorem dX8_nextWay_42 : decode cX8_nextWay 42 = .ok (.iadd, 1) := by decide +kernel
theorem dX8_nextWay_43 : decode cX8_nextWay 43 = .ok (.goto 4, 3) := by decide +kernel
theorem dX8_nextWay_46 : decode cX8_nextWay 46 = .ok (.iconst 0, 1) := by decide +kernel
theorem dX8_nextWay_47 : decode cX8_nextWay 47 = .ok (.istore 4, 2) := by decide +kernel
theorem dX8_nextWay_49 : decode cX8_nextWay 49 = .ok (.aload_n 0, 1) := by decide +kernel
theorem dX8_nextWay_50 : decode cX8_nextWay 50 = .ok (.getfield 37, 3) := by decide +kernel
theorem dX8_nextWay_53 : decode cX8_nextWay 53 = .ok (.aload_n 0, 1) := by decide +kernel
theorem dX8_nextWay_54 : decode cX8_nextWay 54 = .ok (.getfield 40, 3) := by decide +kernel
theorem dX8_nextWay_57 : decode cX8_nextWay 57 = .ok (.iload_n 2, 1) := by decide +kernel
theorem dX8_nextWay_58 : decode cX8_nextWay 58 = .ok (.iaload, 1) := by decide +kernel
theorem dX8_nextWay_59 : decode cX8_nextWay 59 = .ok (.dup2, 1) := by decide +kernel
theorem dX8_nextWay_60 : decode cX8_nextWay 60 = .ok (.iaload, 1) := by decide +kernel
theorem dX8_nextWay_61 : decode cX8_nextWay 61 = .ok (.iload_n 3, 1) := by decide +kernel
theorem dX8_nextWay_62 : decode cX8_nextWay 62 = .ok (.iconst (-1), 1) := by decide +kernel
theorem dX8_nextWay_63 : decode cX8_nextWay 63 = .ok (.ixor, 1) := by decide +kernel
theorem dX8_nextWay_64 : decode cX8_nextWay 64 = .ok (.iand, 1) := by decide +kernel
theorem dX8_nextWay_65 : decode cX8_nextWay 65 = .ok (.iastore, 1) := by decide +kernel
theorem dX8_nextWay_66 : decode cX8_nextWay 66 = .ok (.aload_n 0, 1) := by decide +kernel
theorem dX8_nextWay_67 : decode cX8_nextWay 67 = .ok (.getfield 37, 3) := by decide +kernel
theorem dX8_nextWay_70 : decode cX8_nextWay 70 = .ok (.iload 4, 2) := by decide +kernel
theorem dX8_nextWay_72 : decode cX8_nextWay 72 = .ok (.dup2, 1) := by decide +kernel
theorem dX8_nextWay_73 : decode cX8_nextWay 73 = .ok (.iaload, 1) := by decide +kernel
theorem dX8_nextWay_74 : decode cX8_nextWay 74 = .ok (.iload_n 3, 1) := by decide +kernel
theorem dX8_nextWay_75 : decode cX8_nextWay 75 = .ok (.ior, 1) := by decide +kernel
theorem dX8_nextWay_76 : decode cX8_nextWay 76 = .ok (.iastore, 1) := by decide +kernel
theorem dX8_nextWay_77 : decode cX8_nextWay 77 = .ok (.aload_n 0, 1) := by decide +kernel
theorem dX8_nextWay_78 : decode cX8_nextWay 78 = .ok (.getfield 40, 3) := by decide +kernel
theorem dX8_nextWay_81 : decode cX8_nextWay 81 = .ok (.iload_n 2, 1) := by decide +kernel
theorem dX8_nextWay_82 : decode cX8_nextWay 82 = .ok (.iload 4, 2) := by decide +kernel
theorem dX8_nextWay_84 : decode cX8_nextWay 84 = .ok (.iastore, 1) := by decide +kernel
theorem dX8_nextWay_85 : decode cX8_nextWay 85 = .ok (.iload 4, 2) := by decide +kernel
theorem dX8_nextWay_87 : decode cX8_nextWay 87 = .ok (.ifCond .eq 4, 3) := by decide +kernel
theorem dX8_nextWay_90 : decode cX8_nextWay 90 = .ok (.return_, 1) := by decide +kernel
theorem dX8_nextWay_91 : decode cX8_nextWay 91 = .ok (.iinc 2 (-1), 3) := by decide +kernel
theorem dX8_nextWay_94 : decode cX8_nextWay 94 = .ok (.goto (-91), 3) := by decide +kernel
theorem dX8_nextWay_97 : decode cX8_nextWay 97 = .ok (.return_, 1) := by decide +kernel
theorem dX8_canCarry_0 : decode cX8_canCarry 0 = .ok (.iconst 0, 1) := by decide +kernel
theorem dX8_canCarry_1 : decode cX8_canCarry 1 = .ok (.istore_n 2, 1) := by decide +kernel
theorem dX8_canCarry_2 : decode cX8_canCarry 2 = .ok (.iload_n 2, 1) := by decide +kernel
theorem dX8_canCarry_3 : decode cX8_canCarry 3 = .ok (.aload_n 1, 1) := by decide +kernel
theorem dX8_canCarry_4 : decode cX8_canCarry 4 = .ok (.getfield 114, 3) := by decide +kernel
theorem dX8_canCarry_7 : decode cX8_canCarry 7 = .ok (.if_icmp .ge 31, 3) := by decide +kernel
theorem dX8_canCarry_10 : decode cX8_canCarry 10 = .ok (.aload_n 0, 1) := by decide +kernel
theorem dX8_canCarry_11 : decode cX8_canCarry 11 = .ok (.getfield 25, 3) := by decide +kernel
theorem dX8_canCarry_14 : decode cX8_canCarry 14 = .ok (.aload_n 0, 1) := by decide +kernel
theorem dX8_canCarry_15 : decode cX8_canCarry 15 = .ok (.getfield 37, 3) := by decide +kernel
theorem dX8_canCarry_18 : decode cX8_canCarry 18 = .ok (.iload_n 2, 1) := by decide +kernel
theorem dX8_canCarry_19 : decode cX8_canCarry 19 = .ok (.iaload, 1) := by decide +kernel
theorem dX8_canCarry_20 : decode cX8_canCarry 20 = .ok (.iaload, 1) := by decide +kernel
theorem dX8_canCarry_21 : decode cX8_canCarry 21 = .ok (.aload_n 1, 1) := by decide +kernel
theorem dX8_canCarry_22 : decode cX8_canCarry 22 = .ok (.getfield 147, 3) := by decide +kernel
theorem dX8_canCarry_25 : decode cX8_canCarry 25 = .ok (.iload_n 2, 1) := by decide +kernel
theorem dX8_canCarry_26 : decode cX8_canCarry 26 = .ok (.iaload, 1) := by decide +kernel
theorem dX8_canCarry_27 : decode cX8_canCarry 27 = .ok (.if_icmp .le 5, 3) := by decide +kernel
theorem dX8_canCarry_30 : decode cX8_canCarry 30 = .ok (.iconst 0, 1) := by decide +kernel
theorem dX8_canCarry_31 : decode cX8_canCarry 31 = .ok (.ireturn, 1) := by decide +kernel
theorem dX8_canCarry_32 : decode cX8_canCarry 32 = .ok (.iinc 2 1, 3) := by decide +kernel
theorem dX8_canCarry_35 : decode cX8_canCarry 35 = .ok (.goto (-33), 3) := by decide +kernel
theorem dX8_canCarry_38 : decode cX8_canCarry 38 = .ok (.iconst 1, 1) := by decide +kernel
theorem dX8_canCarry_39 : decode cX8_canCarry 39 = .ok (.ireturn, 1) := by decide +kernel
theorem dX8_measureSets_0 : decode cX8_measureSets 0 = .ok (.iconst 0, 1) := by decide +kernel
theorem dX8_measureSets_1 : decode cX8_measureSets 1 = .ok (.istore_n 2, 1) := by decide +kernel
theorem dX8_measureSets_2 : decode cX8_measureSets 2 = .ok (.iload_n 2, 1) := by decide +kernel
theorem dX8_measureSets_3 : decode cX8_measureSets 3 = .ok (.aload_n 0, 1) := by decide +kernel
theorem dX8_measureSets_4 : decode cX8_measureSets 4 = .ok (.getfield 95, 3) := by decide +kernel
theorem dX8_measureSets_7 : decode cX8_measureSets 7 = .ok (.if_icmp .gt 29, 3) := by decide +kernel
theorem dX8_measureSets_10 : decode cX8_measureSets 10 = .ok (.iload_n 2, 1) := by decide +kernel
theorem dX8_measureSets_11 : decode cX8_measureSets 11 = .ok (.aload_n 0, 1) := by decide +kernel
theorem dX8_measureSets_12 : decode cX8_measureSets 12 = .ok (.getfield 95, 3) := by decide +kernel
theorem dX8_measureSets_15 : decode cX8_measureSets 15 = .ok (.iconst (-1), 1) := by decide +kernel
theorem dX8_measureSets_16 : decode cX8_measureSets 16 = .ok (.ixor, 1) := by decide +kernel
theorem dX8_measureSets_17 : decode cX8_measureSets 17 = .ok (.iand, 1) := by decide +kernel
theorem dX8_measureSets_18 : decode cX8_measureSets 18 = .ok (.ifCond .ne 12, 3) := by decide +kernel
theorem dX8_measureSets_21 : decode cX8_measureSets 21 = .ok (.aload_n 0, 1) := by decide +kernel
theorem dX8_measureSets_22 : decode cX8_measureSets 22 = .ok (.aload_n 1, 1) := by decide +kernel
theorem dX8_measureSets_23 : decode cX8_measureSets 23 = .ok (.getfield 129, 3) := by decide +kernel
theorem dX8_measureSets_26 : decode cX8_measureSets 26 = .ok (.iload_n 2, 1) := by decide +kernel
theorem dX8_measureSets_27 : decode cX8_measureSets 27 = .ok (.invokevirtual 133, 3) := by decide +kernel
theorem dX8_measureSets_30 : decode cX8_measureSets 30 = .ok (.iinc 2 1, 3) := by decide +kernel
theorem dX8_measureSets_33 : decode cX8_measureSets 33 = .ok (.goto (-31), 3) := by decide +kernel
theorem dX8_measureSets_36 : decode cX8_measureSets 36 = .ok (.return_, 1) := by decide +kernel
theorem dX8_drive_0 : decode cX8_drive 0 = .ok (.aload_n 0, 1) := by decide +kernel
theorem dX8_drive_1 : decode cX8_drive 1 = .ok (.iload_n 2, 1) := by decide +kernel
theorem dX8_drive_2 : decode cX8_drive 2 = .ok (.invokevirtual 150, 3) := by decide +kernel
theorem dX8_drive_5 : decode cX8_drive 5 = .ok (.istore_n 3, 1) := by decide +kernel
theorem dX8_drive_6 : decode cX8_drive 6 = .ok (.iload_n 3, 1) := by decide +kernel
theorem dX8_drive_7 : decode cX8_drive 7 = .ok (.istore 4, 2) := by decide +kernel
theorem dX8_drive_9 : decode cX8_drive 9 = .ok (.bipush 7, 2) := by decide +kernel
theorem dX8_drive_11 : decode cX8_drive 11 = .ok (.istore 5, 2) := by decide +kernel
theorem dX8_drive_13 : decode cX8_drive 13 = .ok (.iload_n 2, 1) := by decide +kernel
theorem dX8_drive_14 : decode cX8_drive 14 = .ok (.istore 6, 2) := by decide +kernel
theorem dX8_drive_16 : decode cX8_drive 16 = .ok (.aload_n 0, 1) := by decide +kernel
theorem dX8_drive_17 : decode cX8_drive 17 = .ok (.getfield 25, 3) := by decide +kernel
theorem dX8_drive_20 : decode cX8_drive 20 = .ok (.iload_n 2, 1) := by decide +kernel
theorem dX8_drive_21 : decode cX8_drive 21 = .ok (.iconst 0, 1) := by decide +kernel
theorem dX8_drive_22 : decode cX8_drive 22 = .ok (.iastore, 1) := by decide +kernel
theorem dX8_drive_23 : decode cX8_drive 23 = .ok (.aload_n 0, 1) := by decide +kernel
theorem dX8_drive_24 : decode cX8_drive 24 = .ok (.getfield 28, 3) := by decide +kernel
theorem dX8_drive_27 : decode cX8_drive 27 = .ok (.iload_n 2, 1) := by decide +kernel
theorem dX8_drive_28 : decode cX8_drive 28 = .ok (.iconst 0, 1) := by decide +kernel
theorem dX8_drive_29 : decode cX8_drive 29 = .ok (.iastore, 1) := by decide +kernel
theorem dX8_drive_30 : decode cX8_drive 30 = .ok (.aload_n 0, 1) := by decide +kernel
theorem dX8_drive_31 : decode cX8_drive 31 = .ok (.getfield 34, 3) := by decide +kernel
theorem dX8_drive_34 : decode cX8_drive 34 = .ok (.iload_n 2, 1) := by decide +kernel
theorem dX8_drive_35 : decode cX8_drive 35 = .ok (.sipush 1439, 3) := by decide +kernel
theorem dX8_drive_38 : decode cX8_drive 38 = .ok (.iastore, 1) := by decide +kernel
theorem dX8_drive_39 : decode cX8_drive 39 = .ok (.iconst 0, 1) := by decide +kernel
theorem dX8_drive_40 : decode cX8_drive 40 = .ok (.istore 7, 2) := by decide +kernel
theorem dX8_drive_42 : decode cX8_drive 42 = .ok (.iload 7, 2) := by decide +kernel
theorem dX8_drive_44 : decode cX8_drive 44 = .ok (.bipush 7, 2) := by decide +kernel
theorem dX8_drive_46 : decode cX8_drive 46 = .ok (.if_icmp .ge 136, 3) := by decide +kernel
theorem dX8_drive_49 : decode cX8_drive 49 = .ok (.iload 6, 2) := by decide +kernel
theorem dX8_drive_51 : decode cX8_drive 51 = .ok (.ifCond .eq 131, 3) := by decide +kernel
theorem dX8_drive_54 : decode cX8_drive 54 = .ok (.aload_n 1, 1) := by decide +kernel
theorem dX8_drive_55 : decode cX8_drive 55 = .ok (.iload 5, 2) := by decide +kernel
theorem dX8_drive_57 : decode cX8_drive 57 = .ok (.iload 6, 2) := by decide +kernel
theorem dX8_drive_59 : decode cX8_drive 59 = .ok (.invokevirtual 153, 3) := by decide +kernel
theorem dX8_drive_62 : decode cX8_drive 62 = .ok (.istore 8, 2) := by decide +kernel
theorem dX8_drive_64 : decode cX8_drive 64 = .ok (.iload 8, 2) := by decide +kernel
theorem dX8_drive_66 : decode cX8_drive 66 = .ok (.bipush 7, 2) := by decide +kernel
theorem dX8_drive_68 : decode cX8_drive 68 = .ok (.if_icmp .lt 4, 3) := by decide +kernel
theorem dX8_drive_71 : decode cX8_drive 71 = .ok (.return_, 1) := by decide +kernel
theorem dX8_drive_72 : decode cX8_drive 72 = .ok (.iload 4, 2) := by decide +kernel
theorem dX8_drive_74 : decode cX8_drive 74 = .ok (.aload_n 1, 1) := by decide +kernel
theorem dX8_drive_75 : decode cX8_drive 75 = .ok (.iload 5, 2) := by decide +kernel
theorem dX8_drive_77 : decode cX8_drive 77 = .ok (.iload 8, 2) := by decide +kernel
theorem dX8_drive_79 : decode cX8_drive 79 = .ok (.invokevirtual 156, 3) := by decide +kernel
theorem dX8_drive_82 : decode cX8_drive 82 = .ok (.iadd, 1) := by decide +kernel
theorem dX8_drive_83 : decode cX8_drive 83 = .ok (.istore 4, 2) := by decide +kernel
theorem dX8_drive_85 : decode cX8_drive 85 = .ok (.aload_n 0, 1) := by decide +kernel
theorem dX8_drive_86 : decode cX8_drive 86 = .ok (.getfield 46, 3) := by decide +kernel
theorem dX8_drive_89 : decode cX8_drive 89 = .ok (.iload 8, 2) := by decide +kernel
theorem dX8_drive_91 : decode cX8_drive 91 = .ok (.iload 4, 2) := by decide +kernel
theorem dX8_drive_93 : decode cX8_drive 93 = .ok (.iastore, 1) := by decide +kernel
theorem dX8_drive_94 : decode cX8_drive 94 = .ok (.aload_n 0, 1) := by decide +kernel
theorem dX8_drive_95 : decode cX8_drive 95 = .ok (.getfield 25, 3) := by decide +kernel
theorem dX8_drive_98 : decode cX8_drive 98 = .ok (.iload_n 2, 1) := by decide +kernel
theorem dX8_drive_99 : decode cX8_drive 99 = .ok (.dup2, 1) := by decide +kernel
theorem dX8_drive_100 : decode cX8_drive 100 = .ok (.iaload, 1) := by decide +kernel
theorem dX8_drive_101 : decode cX8_drive 101 = .ok (.aload_n 0, 1) := by decide +kernel
theorem dX8_drive_102 : decode cX8_drive 102 = .ok (.getfield 17, 3) := by decide +kernel
theorem dX8_drive_105 : decode cX8_drive 105 = .ok (.iload 8, 2) := by decide +kernel
theorem dX8_drive_107 : decode cX8_drive 107 = .ok (.iaload, 1) := by decide +kernel
theorem dX8_drive_108 : decode cX8_drive 108 = .ok (.iadd, 1) := by decide +kernel
theorem dX8_drive_109 : decode cX8_drive 109 = .ok (.iastore, 1) := by decide +kernel
theorem dX8_drive_110 : decode cX8_drive 110 = .ok (.aload_n 0, 1) := by decide +kernel
theorem dX8_drive_111 : decode cX8_drive 111 = .ok (.getfield 28, 3) := by decide +kernel
theorem dX8_drive_114 : decode cX8_drive 114 = .ok (.iload_n 2, 1) := by decide +kernel
theorem dX8_drive_115 : decode cX8_drive 115 = .ok (.dup2, 1) := by decide +kernel
theorem dX8_drive_116 : decode cX8_drive 116 = .ok (.iaload, 1) := by decide +kernel
theorem dX8_drive_117 : decode cX8_drive 117 = .ok (.iload 4, 2) := by decide +kernel
theorem dX8_drive_119 : decode cX8_drive 119 = .ok (.aload_n 0, 1) := by decide +kernel
theorem dX8_drive_120 : decode cX8_drive 120 = .ok (.getfield 11, 3) := by decide +kernel
theorem dX8_drive_123 : decode cX8_drive 123 = .ok (.iload 8, 2) := by decide +kernel
theorem dX8_drive_125 : decode cX8_drive 125 = .ok (.iaload, 1) := by decide +kernel
theorem dX8_drive_126 : decode cX8_drive 126 = .ok (.if_icmp .le 7, 3) := by decide +kernel
theorem dX8_drive_129 : decode cX8_drive 129 = .ok (.iconst 1, 1) := by decide +kernel
theorem dX8_drive_130 : decode cX8_drive 130 = .ok (.goto 4, 3) := by decide +kernel
theorem dX8_drive_133 : decode cX8_drive 133 = .ok (.iconst 0, 1) := by decide +kernel
theorem dX8_drive_134 : decode cX8_drive 134 = .ok (.iadd, 1) := by decide +kernel
theorem dX8_drive_135 : decode cX8_drive 135 = .ok (.iastore, 1) := by decide +kernel
theorem dX8_drive_136 : decode cX8_drive 136 = .ok (.aload_n 0, 1) := by decide +kernel
theorem dX8_drive_137 : decode cX8_drive 137 = .ok (.getfield 34, 3) := by decide +kernel
theorem dX8_drive_140 : decode cX8_drive 140 = .ok (.iload_n 2, 1) := by decide +kernel
theorem dX8_drive_141 : decode cX8_drive 141 = .ok (.aload_n 0, 1) := by decide +kernel
theorem dX8_drive_142 : decode cX8_drive 142 = .ok (.getfield 34, 3) := by decide +kernel
theorem dX8_drive_145 : decode cX8_drive 145 = .ok (.iload_n 2, 1) := by decide +kernel
theorem dX8_drive_146 : decode cX8_drive 146 = .ok (.iaload, 1) := by decide +kernel
theorem dX8_drive_147 : decode cX8_drive 147 = .ok (.aload_n 0, 1) := by decide +kernel
theorem dX8_drive_148 : decode cX8_drive 148 = .ok (.getfield 11, 3) := by decide +kernel
theorem dX8_drive_151 : decode cX8_drive 151 = .ok (.iload 8, 2) := by decide +kernel
theorem dX8_drive_153 : decode cX8_drive 153 = .ok (.iaload, 1) := by decide +kernel
theorem dX8_drive_154 : decode cX8_drive 154 = .ok (.iload 4, 2) := by decide +kernel
theorem dX8_drive_156 : decode cX8_drive 156 = .ok (.isub, 1) := by decide +kernel
theorem dX8_drive_157 : decode cX8_drive 157 = .ok (.invokestatic 83, 3) := by decide +kernel
theorem dX8_drive_160 : decode cX8_drive 160 = .ok (.iastore, 1) := by decide +kernel
theorem dX8_drive_161 : decode cX8_drive 161 = .ok (.iload 6, 2) := by decide +kernel
theorem dX8_drive_163 : decode cX8_drive 163 = .ok (.iconst 1, 1) := by decide +kernel
theorem dX8_drive_164 : decode cX8_drive 164 = .ok (.iload 8, 2) := by decide +kernel
theorem dX8_drive_166 : decode cX8_drive 166 = .ok (.ishl, 1) := by decide +kernel
theorem dX8_drive_167 : decode cX8_drive 167 = .ok (.iconst (-1), 1) := by decide +kernel
theorem dX8_drive_168 : decode cX8_drive 168 = .ok (.ixor, 1) := by decide +kernel
theorem dX8_drive_169 : decode cX8_drive 169 = .ok (.iand, 1) := by decide +kernel
theorem dX8_drive_170 : decode cX8_drive 170 = .ok (.istore 6, 2) := by decide +kernel
theorem dX8_drive_172 : decode cX8_drive 172 = .ok (.iload 8, 2) := by decide +kernel
theorem dX8_drive_174 : decode cX8_drive 174 = .ok (.istore 5, 2) := by decide +kernel
theorem dX8_drive_176 : decode cX8_drive 176 = .ok (.iinc 7 1, 3) := by decide +kernel
theorem dX8_drive_179 : decode cX8_drive 179 = .ok (.goto (-137), 3) := by decide +kernel
theorem dX8_drive_182 : decode cX8_drive 182 = .ok (.aload_n 0, 1) := by decide +kernel
theorem dX8_drive_183 : decode cX8_drive 183 = .ok (.getfield 31, 3) := by decide +kernel
theorem dX8_drive_186 : decode cX8_drive 186 = .ok (.iload_n 2, 1) := by decide +kernel
theorem dX8_drive_187 : decode cX8_drive 187 = .ok (.iload 4, 2) := by decide +kernel
theorem dX8_drive_189 : decode cX8_drive 189 = .ok (.iload_n 3, 1) := by decide +kernel
theorem dX8_drive_190 : decode cX8_drive 190 = .ok (.isub, 1) := by decide +kernel
theorem dX8_drive_191 : decode cX8_drive 191 = .ok (.iastore, 1) := by decide +kernel
theorem dX8_drive_192 : decode cX8_drive 192 = .ok (.return_, 1) := by decide +kernel
theorem dX8_departureFor_0 : decode cX8_departureFor 0 = .ok (.iconst 0, 1) := by decide +kernel
theorem dX8_departureFor_1 : decode cX8_departureFor 1 = .ok (.istore_n 2, 1) := by decide +kernel
theorem dX8_departureFor_2 : decode cX8_departureFor 2 = .ok (.iconst 0, 1) := by decide +kernel
theorem dX8_departureFor_3 : decode cX8_departureFor 3 = .ok (.istore_n 3, 1) := by decide +kernel
theorem dX8_departureFor_4 : decode cX8_departureFor 4 = .ok (.iload_n 3, 1) := by decide +kernel
theorem dX8_departureFor_5 : decode cX8_departureFor 5 = .ok (.bipush 7, 2) := by decide +kernel
theorem dX8_departureFor_7 : decode cX8_departureFor 7 = .ok (.if_icmp .ge 28, 3) := by decide +kernel
theorem dX8_departureFor_10 : decode cX8_departureFor 10 = .ok (.iload_n 1, 1) := by decide +kernel
theorem dX8_departureFor_11 : decode cX8_departureFor 11 = .ok (.iload_n 3, 1) := by decide +kernel
theorem dX8_departureFor_12 : decode cX8_departureFor 12 = .ok (.ishr, 1) := by decide +kernel
theorem dX8_departureFor_13 : decode cX8_departureFor 13 = .ok (.iconst 1, 1) := by decide +kernel
theorem dX8_departureFor_14 : decode cX8_departureFor 14 = .ok (.iand, 1) := by decide +kernel
theorem dX8_departureFor_15 : decode cX8_departureFor 15 = .ok (.ifCond .eq 14, 3) := by decide +kernel
theorem dX8_departureFor_18 : decode cX8_departureFor 18 = .ok (.iload_n 2, 1) := by decide +kernel
theorem dX8_departureFor_19 : decode cX8_departureFor 19 = .ok (.aload_n 0, 1) := by decide +kernel
theorem dX8_departureFor_20 : decode cX8_departureFor 20 = .ok (.getfield 20, 3) := by decide +kernel
theorem dX8_departureFor_23 : decode cX8_departureFor 23 = .ok (.iload_n 3, 1) := by decide +kernel
theorem dX8_departureFor_24 : decode cX8_departureFor 24 = .ok (.iaload, 1) := by decide +kernel
theorem dX8_departureFor_25 : decode cX8_departureFor 25 = .ok (.invokestatic 92, 3) := by decide +kernel
theorem dX8_departureFor_28 : decode cX8_departureFor 28 = .ok (.istore_n 2, 1) := by decide +kernel
theorem dX8_departureFor_29 : decode cX8_departureFor 29 = .ok (.iinc 3 1, 3) := by decide +kernel
theorem dX8_departureFor_32 : decode cX8_departureFor 32 = .ok (.goto (-28), 3) := by decide +kernel
theorem dX8_departureFor_35 : decode cX8_departureFor 35 = .ok (.iload_n 2, 1) := by decide +kernel
theorem dX8_departureFor_36 : decode cX8_departureFor 36 = .ok (.ireturn, 1) := by decide +kernel
theorem dX8_missedTotal_0 : decode cX8_missedTotal 0 = .ok (.aload_n 0, 1) := by decide +kernel
theorem dX8_missedTotal_1 : decode cX8_missedTotal 1 = .ok (.getfield 55, 3) := by decide +kernel
theorem dX8_missedTotal_4 : decode cX8_missedTotal 4 = .ok (.invokestatic 141, 3) := by decide +kernel
theorem dX8_missedTotal_7 : decode cX8_missedTotal 7 = .ok (.ireturn, 1) := by decide +kernel
theorem dX9_init_0 : decode cX9_init 0 = .ok (.aload_n 0, 1) := by decide +kernel
theorem dX9_init_1 : decode cX9_init 1 = .ok (.invokespecial 5, 3) := by decide +kernel
theorem dX9_init_4 : decode cX9_init 4 = .ok (.aload_n 0, 1) := by decide +kernel
theorem dX9_init_5 : decode cX9_init 5 = .ok (.bipush 20, 2) := by decide +kernel
theorem dX9_init_7 : decode cX9_init 7 = .ok (.newarray .int, 2) := by decide +kernel
theorem dX9_init_9 : decode cX9_init 9 = .ok (.putfield 11, 3) := by decide +kernel
theorem dX9_init_12 : decode cX9_init 12 = .ok (.aload_n 0, 1) := by decide +kernel
theorem dX9_init_13 : decode cX9_init 13 = .ok (.bipush 20, 2) := by decide +kernel
theorem dX9_init_15 : decode cX9_init 15 = .ok (.newarray .int, 2) := by decide +kernel
theorem dX9_init_17 : decode cX9_init 17 = .ok (.putfield 15, 3) := by decide +kernel
theorem dX9_init_20 : decode cX9_init 20 = .ok (.aload_n 0, 1) := by decide +kernel
theorem dX9_init_21 : decode cX9_init 21 = .ok (.bipush 20, 2) := by decide +kernel
theorem dX9_init_23 : decode cX9_init 23 = .ok (.newarray .int, 2) := by decide +kernel
theorem dX9_init_25 : decode cX9_init 25 = .ok (.putfield 18, 3) := by decide +kernel
theorem dX9_init_28 : decode cX9_init 28 = .ok (.aload_n 0, 1) := by decide +kernel
theorem dX9_init_29 : decode cX9_init 29 = .ok (.bipush 20, 2) := by decide +kernel
theorem dX9_init_31 : decode cX9_init 31 = .ok (.newarray .boolean, 2) := by decide +kernel
theorem dX9_init_33 : decode cX9_init 33 = .ok (.putfield 21, 3) := by decide +kernel
theorem dX9_init_36 : decode cX9_init 36 = .ok (.aload_n 0, 1) := by decide +kernel
theorem dX9_init_37 : decode cX9_init 37 = .ok (.bipush 8, 2) := by decide +kernel
theorem dX9_init_39 : decode cX9_init 39 = .ok (.bipush 8, 2) := by decide +kernel
theorem dX9_init_41 : decode cX9_init 41 = .ok (.multianewarray 25 2, 4) := by decide +kernel
theorem dX9_init_45 : decode cX9_init 45 = .ok (.putfield 27, 3) := by decide +kernel
theorem dX9_init_48 : decode cX9_init 48 = .ok (.aload_n 0, 1) := by decide +kernel
theorem dX9_init_49 : decode cX9_init 49 = .ok (.sipush 1024, 3) := by decide +kernel
theorem dX9_init_52 : decode cX9_init 52 = .ok (.newarray .int, 2) := by decide +kernel
theorem dX9_init_54 : decode cX9_init 54 = .ok (.putfield 30, 3) := by decide +kernel
theorem dX9_init_57 : decode cX9_init 57 = .ok (.return_, 1) := by decide +kernel
theorem dX9_between_0 : decode cX9_between 0 = .ok (.aload_n 0, 1) := by decide +kernel
theorem dX9_between_1 : decode cX9_between 1 = .ok (.getfield 27, 3) := by decide +kernel
theorem dX9_between_4 : decode cX9_between 4 = .ok (.iload_n 1, 1) := by decide +kernel
theorem dX9_between_5 : decode cX9_between 5 = .ok (.aaload, 1) := by decide +kernel
theorem dX9_between_6 : decode cX9_between 6 = .ok (.iload_n 2, 1) := by decide +kernel
theorem dX9_between_7 : decode cX9_between 7 = .ok (.iaload, 1) := by decide +kernel
theorem dX9_between_8 : decode cX9_between 8 = .ok (.ireturn, 1) := by decide +kernel
theorem dX9_restOfRoute_0 : decode cX9_restOfRoute 0 = .ok (.aload_n 0, 1) := by decide +kernel
theorem dX9_restOfRoute_1 : decode cX9_restOfRoute 1 = .ok (.getfield 30, 3) := by decide +kernel
theorem dX9_restOfRoute_4 : decode cX9_restOfRoute 4 = .ok (.iload_n 2, 1) := by decide +kernel
theorem dX9_restOfRoute_5 : decode cX9_restOfRoute 5 = .ok (.bipush 8, 2) := by decide +kernel
theorem dX9_restOfRoute_7 : decode cX9_restOfRoute 7 = .ok (.imul, 1) := by decide +kernel
theorem dX9_restOfRoute_8 : decode cX9_restOfRoute 8 = .ok (.iload_n 1, 1) := by decide +kernel
theorem dX9_restOfRoute_9 : decode cX9_restOfRoute 9 = .ok (.iadd, 1) := by decide +kernel
theorem dX9_restOfRoute_10 : decode cX9_restOfRoute 10 = .ok (.iaload, 1) := by decide +kernel
theorem dX9_restOfRoute_11 : decode cX9_restOfRoute 11 = .ok (.ireturn, 1) := by decide +kernel
theorem dX9_explore_0 : decode cX9_explore 0 = .ok (.iconst 0, 1) := by decide +kernel
theorem dX9_explore_1 : decode cX9_explore 1 = .ok (.istore_n 3, 1) := by decide +kernel
theorem dX9_explore_2 : decode cX9_explore 2 = .ok (.iload_n 3, 1) := by decide +kernel
theorem dX9_explore_3 : decode cX9_explore 3 = .ok (.bipush 8, 2) := by decide +kernel
theorem dX9_explore_5 : decode cX9_explore 5 = .ok (.if_icmp .ge 29, 3) := by decide +kernel
theorem dX9_explore_8 : decode cX9_explore 8 = .ok (.aload_n 0, 1) := by decide +kernel
theorem dX9_explore_9 : decode cX9_explore 9 = .ok (.getfield 27, 3) := by decide +kernel
theorem dX9_explore_12 : decode cX9_explore 12 = .ok (.iload_n 3, 1) := by decide +kernel
theorem dX9_explore_13 : decode cX9_explore 13 = .ok (.aaload, 1) := by decide +kernel
theorem dX9_explore_14 : decode cX9_explore 14 = .ok (.ldc 33, 2) := by decide +kernel
theorem dX9_explore_16 : decode cX9_explore 16 = .ok (.invokestatic 34, 3) := by decide +kernel
theorem dX9_explore_19 : decode cX9_explore 19 = .ok (.aload_n 0, 1) := by decide +kernel
theorem dX9_explore_20 : decode cX9_explore 20 = .ok (.getfield 27, 3) := by decide +kernel
theorem dX9_explore_23 : decode cX9_explore 23 = .ok (.iload_n 3, 1) := by decide +kernel
theorem dX9_explore_24 : decode cX9_explore 24 = .ok (.aaload, 1) := by decide +kernel
theorem dX9_explore_25 : decode cX9_explore 25 = .ok (.iload_n 3, 1) := by decide +kernel
theorem dX9_explore_26 : decode cX9_explore 26 = .ok (.iconst 0, 1) := by decide +kernel
theorem dX9_explore_27 : decode cX9_explore 27 = .ok (.iastore, 1) := by decide +kernel
theorem dX9_explore_28 : decode cX9_explore 28 = .ok (.iinc 3 1, 3) := by decide +kernel
theorem dX9_explore_31 : decode cX9_explore 31 = .ok (.goto (-29), 3) := by decide +kernel
theorem dX9_explore_34 : decode cX9_explore 34 = .ok (.iconst 0, 1) := by decide +kernel
theorem dX9_explore_35 : decode cX9_explore 35 = .ok (.istore_n 3, 1) := by decide +kernel
theorem dX9_explore_36 : decode cX9_explore 36 = .ok (.iload_n 3, 1) := by decide +kernel
theorem dX9_explore_37 : decode cX9_explore 37 = .ok (.aload_n 0, 1) := by decide +kernel
theorem dX9_explore_38 : decode cX9_explore 38 = .ok (.getfield 40, 3) := by decide +kernel
theorem dX9_explore_41 : decode cX9_explore 41 = .ok (.if_icmp .ge 92, 3) := by decide +kernel
theorem dX9_explore_44 : decode cX9_explore 44 = .ok (.aload_n 0, 1) := by decide +kernel
theorem dX9_explore_45 : decode cX9_explore 45 = .ok (.getfield 21, 3) := by decide +kernel
theorem dX9_explore_48 : decode cX9_explore 48 = .ok (.iload_n 3, 1) := by decide +kernel
theorem dX9_explore_49 : decode cX9_explore 49 = .ok (.baload, 1) := by decide +kernel
theorem dX9_explore_50 : decode cX9_explore 50 = .ok (.ifCond .ne 77, 3) := by decide +kernel
theorem dX9_explore_53 : decode cX9_explore 53 = .ok (.iload_n 3, 1) := by decide +kernel
theorem dX9_explore_54 : decode cX9_explore 54 = .ok (.iload_n 2, 1) := by decide +kernel
theorem dX9_explore_55 : decode cX9_explore 55 = .ok (.if_icmp .eq 72, 3) := by decide +kernel
theorem dX9_explore_58 : decode cX9_explore 58 = .ok (.aload_n 0, 1) := by decide +kernel
theorem dX9_explore_59 : decode cX9_explore 59 = .ok (.getfield 18, 3) := by decide +kernel
theorem dX9_explore_62 : decode cX9_explore 62 = .ok (.iload_n 3, 1) := by decide +kernel
theorem dX9_explore_63 : decode cX9_explore 63 = .ok (.iaload, 1) := by decide +kernel
theorem dX9_explore_64 : decode cX9_explore 64 = .ok (.aload_n 0, 1) := by decide +kernel
theorem dX9_explore_65 : decode cX9_explore 65 = .ok (.getfield 27, 3) := by decide +kernel
theorem dX9_explore_68 : decode cX9_explore 68 = .ok (.aload_n 0, 1) := by decide +kernel
theorem dX9_explore_69 : decode cX9_explore 69 = .ok (.getfield 11, 3) := by decide +kernel
theorem dX9_explore_72 : decode cX9_explore 72 = .ok (.iload_n 3, 1) := by decide +kernel
theorem dX9_explore_73 : decode cX9_explore 73 = .ok (.iaload, 1) := by decide +kernel
theorem dX9_explore_74 : decode cX9_explore 74 = .ok (.aaload, 1) := by decide +kernel
theorem dX9_explore_75 : decode cX9_explore 75 = .ok (.aload_n 0, 1) := by decide +kernel
theorem dX9_explore_76 : decode cX9_explore 76 = .ok (.getfield 15, 3) := by decide +kernel
theorem dX9_explore_79 : decode cX9_explore 79 = .ok (.iload_n 3, 1) := by decide +kernel
theorem dX9_explore_80 : decode cX9_explore 80 = .ok (.iaload, 1) := by decide +kernel
theorem dX9_explore_81 : decode cX9_explore 81 = .ok (.iaload, 1) := by decide +kernel
theorem dX9_explore_82 : decode cX9_explore 82 = .ok (.invokestatic 44, 3) := by decide +kernel
theorem dX9_explore_85 : decode cX9_explore 85 = .ok (.istore 4, 2) := by decide +kernel
theorem dX9_explore_87 : decode cX9_explore 87 = .ok (.aload_n 0, 1) := by decide +kernel
theorem dX9_explore_88 : decode cX9_explore 88 = .ok (.getfield 27, 3) := by decide +kernel
theorem dX9_explore_91 : decode cX9_explore 91 = .ok (.aload_n 0, 1) := by decide +kernel
theorem dX9_explore_92 : decode cX9_explore 92 = .ok (.getfield 11, 3) := by decide +kernel
theorem dX9_explore_95 : decode cX9_explore 95 = .ok (.iload_n 3, 1) := by decide +kernel
theorem dX9_explore_96 : decode cX9_explore 96 = .ok (.iaload, 1) := by decide +kernel
theorem dX9_explore_97 : decode cX9_explore 97 = .ok (.aaload, 1) := by decide +kernel
theorem dX9_explore_98 : decode cX9_explore 98 = .ok (.aload_n 0, 1) := by decide +kernel
theorem dX9_explore_99 : decode cX9_explore 99 = .ok (.getfield 15, 3) := by decide +kernel
theorem dX9_explore_102 : decode cX9_explore 102 = .ok (.iload_n 3, 1) := by decide +kernel
theorem dX9_explore_103 : decode cX9_explore 103 = .ok (.iaload, 1) := by decide +kernel
theorem dX9_explore_104 : decode cX9_explore 104 = .ok (.iload 4, 2) := by decide +kernel
theorem dX9_explore_106 : decode cX9_explore 106 = .ok (.iastore, 1) := by decide +kernel
theorem dX9_explore_107 : decode cX9_explore 107 = .ok (.aload_n 0, 1) := by decide +kernel
theorem dX9_explore_108 : decode cX9_explore 108 = .ok (.getfield 27, 3) := by decide +kernel
theorem dX9_explore_111 : decode cX9_explore 111 = .ok (.aload_n 0, 1) := by decide +kernel
theorem dX9_explore_112 : decode cX9_explore 112 = .ok (.getfield 15, 3) := by decide +kernel
theorem dX9_explore_115 : decode cX9_explore 115 = .ok (.iload_n 3, 1) := by decide +kernel
theorem dX9_explore_116 : decode cX9_explore 116 = .ok (.iaload, 1) := by decide +kernel
theorem dX9_explore_117 : decode cX9_explore 117 = .ok (.aaload, 1) := by decide +kernel
theorem dX9_explore_118 : decode cX9_explore 118 = .ok (.aload_n 0, 1) := by decide +kernel
theorem dX9_explore_119 : decode cX9_explore 119 = .ok (.getfield 11, 3) := by decide +kernel
theorem dX9_explore_122 : decode cX9_explore 122 = .ok (.iload_n 3, 1) := by decide +kernel
theorem dX9_explore_123 : decode cX9_explore 123 = .ok (.iaload, 1) := by decide +kernel
theorem dX9_explore_124 : decode cX9_explore 124 = .ok (.iload 4, 2) := by decide +kernel
theorem dX9_explore_126 : decode cX9_explore 126 = .ok (.iastore, 1) := by decide +kernel
theorem dX9_explore_127 : decode cX9_explore 127 = .ok (.iinc 3 1, 3) := by decide +kernel
theorem dX9_explore_130 : decode cX9_explore 130 = .ok (.goto (-94), 3) := by decide +kernel
theorem dX9_explore_133 : decode cX9_explore 133 = .ok (.aload_n 0, 1) := by decide +kernel
theorem dX9_explore_134 : decode cX9_explore 134 = .ok (.invokevirtual 50, 3) := by decide +kernel
theorem dX9_explore_137 : decode cX9_explore 137 = .ok (.aload_n 0, 1) := by decide +kernel
theorem dX9_explore_138 : decode cX9_explore 138 = .ok (.iload_n 1, 1) := by decide +kernel
theorem dX9_explore_139 : decode cX9_explore 139 = .ok (.invokevirtual 53, 3) := by decide +kernel
theorem dX9_explore_142 : decode cX9_explore 142 = .ok (.return_, 1) := by decide +kernel
theorem dX9_joinStreets_0 : decode cX9_joinStreets 0 = .ok (.iconst 0, 1) := by decide +kernel
theorem dX9_joinStreets_1 : decode cX9_joinStreets 1 = .ok (.istore_n 1, 1) := by decide +kernel
theorem dX9_joinStreets_2 : decode cX9_joinStreets 2 = .ok (.iload_n 1, 1) := by decide +kernel
theorem dX9_joinStreets_3 : decode cX9_joinStreets 3 = .ok (.bipush 8, 2) := by decide +kernel
theorem dX9_joinStreets_5 : decode cX9_joinStreets 5 = .ok (.if_icmp .ge 77, 3) := by decide +kernel
theorem dX9_joinStreets_8 : decode cX9_joinStreets 8 = .ok (.iconst 0, 1) := by decide +kernel
theorem dX9_joinStreets_9 : decode cX9_joinStreets 9 = .ok (.istore_n 2, 1) := by decide +kernel
theorem dX9_joinStreets_10 : decode cX9_joinStreets 10 = .ok (.iload_n 2, 1) := by decide +kernel
theorem dX9_joinStreets_11 : decode cX9_joinStreets 11 = .ok (.bipush 8, 2) := by decide +kernel
theorem dX9_joinStreets_13 : decode cX9_joinStreets 13 = .ok (.if_icmp .ge 63, 3) := by decide +kernel
theorem dX9_joinStreets_16 : decode cX9_joinStreets 16 = .ok (.iconst 0, 1) := by decide +kernel
theorem dX9_joinStreets_17 : decode cX9_joinStreets 17 = .ok (.istore_n 3, 1) := by decide +kernel
theorem dX9_joinStreets_18 : decode cX9_joinStreets 18 = .ok (.iload_n 3, 1) := by decide +kernel
theorem dX9_joinStreets_19 : decode cX9_joinStreets 19 = .ok (.bipush 8, 2) := by decide +kernel
theorem dX9_joinStreets_21 : decode cX9_joinStreets 21 = .ok (.if_icmp .ge 49, 3) := by decide +kernel
theorem dX9_joinStreets_24 : decode cX9_joinStreets 24 = .ok (.aload_n 0, 1) := by decide +kernel
theorem dX9_joinStreets_25 : decode cX9_joinStreets 25 = .ok (.getfield 27, 3) := by decide +kernel
theorem dX9_joinStreets_28 : decode cX9_joinStreets 28 = .ok (.iload_n 2, 1) := by decide +kernel
theorem dX9_joinStreets_29 : decode cX9_joinStreets 29 = .ok (.aaload, 1) := by decide +kernel
theorem dX9_joinStreets_30 : decode cX9_joinStreets 30 = .ok (.iload_n 1, 1) := by decide +kernel
theorem dX9_joinStreets_31 : decode cX9_joinStreets 31 = .ok (.iaload, 1) := by decide +kernel
theorem dX9_joinStreets_32 : decode cX9_joinStreets 32 = .ok (.aload_n 0, 1) := by decide +kernel
theorem dX9_joinStreets_33 : decode cX9_joinStreets 33 = .ok (.getfield 27, 3) := by decide +kernel
theorem dX9_joinStreets_36 : decode cX9_joinStreets 36 = .ok (.iload_n 1, 1) := by decide +kernel
theorem dX9_joinStreets_37 : decode cX9_joinStreets 37 = .ok (.aaload, 1) := by decide +kernel
theorem dX9_joinStreets_38 : decode cX9_joinStreets 38 = .ok (.iload_n 3, 1) := by decide +kernel
theorem dX9_joinStreets_39 : decode cX9_joinStreets 39 = .ok (.iaload, 1) := by decide +kernel
theorem dX9_joinStreets_40 : decode cX9_joinStreets 40 = .ok (.iadd, 1) := by decide +kernel
theorem dX9_joinStreets_41 : decode cX9_joinStreets 41 = .ok (.istore 4, 2) := by decide +kernel
theorem dX9_joinStreets_43 : decode cX9_joinStreets 43 = .ok (.aload_n 0, 1) := by decide +kernel
theorem dX9_joinStreets_44 : decode cX9_joinStreets 44 = .ok (.getfield 27, 3) := by decide +kernel
theorem dX9_joinStreets_47 : decode cX9_joinStreets 47 = .ok (.iload_n 2, 1) := by decide +kernel
theorem dX9_joinStreets_48 : decode cX9_joinStreets 48 = .ok (.aaload, 1) := by decide +kernel
theorem dX9_joinStreets_49 : decode cX9_joinStreets 49 = .ok (.iload_n 3, 1) := by decide +kernel
theorem dX9_joinStreets_50 : decode cX9_joinStreets 50 = .ok (.aload_n 0, 1) := by decide +kernel
theorem dX9_joinStreets_51 : decode cX9_joinStreets 51 = .ok (.getfield 27, 3) := by decide +kernel
theorem dX9_joinStreets_54 : decode cX9_joinStreets 54 = .ok (.iload_n 2, 1) := by decide +kernel
theorem dX9_joinStreets_55 : decode cX9_joinStreets 55 = .ok (.aaload, 1) := by decide +kernel
theorem dX9_joinStreets_56 : decode cX9_joinStreets 56 = .ok (.iload_n 3, 1) := by decide +kernel
theorem dX9_joinStreets_57 : decode cX9_joinStreets 57 = .ok (.iaload, 1) := by decide +kernel
theorem dX9_joinStreets_58 : decode cX9_joinStreets 58 = .ok (.iload 4, 2) := by decide +kernel
theorem dX9_joinStreets_60 : decode cX9_joinStreets 60 = .ok (.invokestatic 44, 3) := by decide +kernel
theorem dX9_joinStreets_63 : decode cX9_joinStreets 63 = .ok (.iastore, 1) := by decide +kernel
theorem dX9_joinStreets_64 : decode cX9_joinStreets 64 = .ok (.iinc 3 1, 3) := by decide +kernel
theorem dX9_joinStreets_67 : decode cX9_joinStreets 67 = .ok (.goto (-49), 3) := by decide +kernel
theorem dX9_joinStreets_70 : decode cX9_joinStreets 70 = .ok (.iinc 2 1, 3) := by decide +kernel
theorem dX9_joinStreets_73 : decode cX9_joinStreets 73 = .ok (.goto (-63), 3) := by decide +kernel
theorem dX9_joinStreets_76 : decode cX9_joinStreets 76 = .ok (.iinc 1 1, 3) := by decide +kernel
theorem dX9_joinStreets_79 : decode cX9_joinStreets 79 = .ok (.goto (-77), 3) := by decide +kernel
theorem dX9_joinStreets_82 : decode cX9_joinStreets 82 = .ok (.return_, 1) := by decide +kernel
theorem dX9_measureRoutes_0 : decode cX9_measureRoutes 0 = .ok (.iconst 0, 1) := by decide +kernel
theorem dX9_measureRoutes_1 : decode cX9_measureRoutes 1 = .ok (.istore_n 2, 1) := by decide +kernel
theorem dX9_measureRoutes_2 : decode cX9_measureRoutes 2 = .ok (.iload_n 2, 1) := by decide +kernel
theorem dX9_measureRoutes_3 : decode cX9_measureRoutes 3 = .ok (.iconst 1, 1) := by decide +kernel
theorem dX9_measureRoutes_4 : decode cX9_measureRoutes 4 = .ok (.iload_n 1, 1) := by decide +kernel
theorem dX9_measureRoutes_5 : decode cX9_measureRoutes 5 = .ok (.ishl, 1) := by decide +kernel
theorem dX9_measureRoutes_6 : decode cX9_measureRoutes 6 = .ok (.if_icmp .ge 87, 3) := by decide +kernel
theorem dX9_measureRoutes_9 : decode cX9_measureRoutes 9 = .ok (.iconst 0, 1) := by decide +kernel
theorem dX9_measureRoutes_10 : decode cX9_measureRoutes 10 = .ok (.istore_n 3, 1) := by decide +kernel
theorem dX9_measureRoutes_11 : decode cX9_measureRoutes 11 = .ok (.iload_n 3, 1) := by decide +kernel
theorem dX9_measureRoutes_12 : decode cX9_measureRoutes 12 = .ok (.bipush 8, 2) := by decide +kernel
theorem dX9_measureRoutes_14 : decode cX9_measureRoutes 14 = .ok (.if_icmp .ge 73, 3) := by decide +kernel
theorem dX9_measureRoutes_17 : decode cX9_measureRoutes 17 = .ok (.iload_n 2, 1) := by decide +kernel
theorem dX9_measureRoutes_18 : decode cX9_measureRoutes 18 = .ok (.ifCond .ne 7, 3) := by decide +kernel
theorem dX9_measureRoutes_21 : decode cX9_measureRoutes 21 = .ok (.iconst 0, 1) := by decide +kernel
theorem dX9_measureRoutes_22 : decode cX9_measureRoutes 22 = .ok (.goto 5, 3) := by decide +kernel
theorem dX9_measureRoutes_25 : decode cX9_measureRoutes 25 = .ok (.ldc 57, 2) := by decide +kernel
theorem dX9_measureRoutes_27 : decode cX9_measureRoutes 27 = .ok (.istore 4, 2) := by decide +kernel
theorem dX9_measureRoutes_29 : decode cX9_measureRoutes 29 = .ok (.iconst 0, 1) := by decide +kernel
theorem dX9_measureRoutes_30 : decode cX9_measureRoutes 30 = .ok (.istore 5, 2) := by decide +kernel
theorem dX9_measureRoutes_32 : decode cX9_measureRoutes 32 = .ok (.iload 5, 2) := by decide +kernel
theorem dX9_measureRoutes_34 : decode cX9_measureRoutes 34 = .ok (.iload_n 1, 1) := by decide +kernel
theorem dX9_measureRoutes_35 : decode cX9_measureRoutes 35 = .ok (.if_icmp .ge 33, 3) := by decide +kernel
theorem dX9_measureRoutes_38 : decode cX9_measureRoutes 38 = .ok (.iload_n 2, 1) := by decide +kernel
theorem dX9_measureRoutes_39 : decode cX9_measureRoutes 39 = .ok (.iload 5, 2) := by decide +kernel
theorem dX9_measureRoutes_41 : decode cX9_measureRoutes 41 = .ok (.ishr, 1) := by decide +kernel
theorem dX9_measureRoutes_42 : decode cX9_measureRoutes 42 = .ok (.iconst 1, 1) := by decide +kernel
theorem dX9_measureRoutes_43 : decode cX9_measureRoutes 43 = .ok (.iand, 1) := by decide +kernel
theorem dX9_measureRoutes_44 : decode cX9_measureRoutes 44 = .ok (.ifCond .eq 18, 3) := by decide +kernel
theorem dX9_measureRoutes_47 : decode cX9_measureRoutes 47 = .ok (.iload 4, 2) := by decide +kernel
theorem dX9_measureRoutes_49 : decode cX9_measureRoutes 49 = .ok (.aload_n 0, 1) := by decide +kernel
theorem dX9_measureRoutes_50 : decode cX9_measureRoutes 50 = .ok (.iload_n 3, 1) := by decide +kernel
theorem dX9_measureRoutes_51 : decode cX9_measureRoutes 51 = .ok (.iload 5, 2) := by decide +kernel
theorem dX9_measureRoutes_53 : decode cX9_measureRoutes 53 = .ok (.iload_n 2, 1) := by decide +kernel
theorem dX9_measureRoutes_54 : decode cX9_measureRoutes 54 = .ok (.invokevirtual 58, 3) := by decide +kernel
theorem dX9_measureRoutes_57 : decode cX9_measureRoutes 57 = .ok (.invokestatic 44, 3) := by decide +kernel
theorem dX9_measureRoutes_60 : decode cX9_measureRoutes 60 = .ok (.istore 4, 2) := by decide +kernel
theorem dX9_measureRoutes_62 : decode cX9_measureRoutes 62 = .ok (.iinc 5 1, 3) := by decide +kernel
theorem dX9_measureRoutes_65 : decode cX9_measureRoutes 65 = .ok (.goto (-33), 3) := by decide +kernel
theorem dX9_measureRoutes_68 : decode cX9_measureRoutes 68 = .ok (.aload_n 0, 1) := by decide +kernel
theorem dX9_measureRoutes_69 : decode cX9_measureRoutes 69 = .ok (.getfield 30, 3) := by decide +kernel
theorem dX9_measureRoutes_72 : decode cX9_measureRoutes 72 = .ok (.iload_n 2, 1) := by decide +kernel
theorem dX9_measureRoutes_73 : decode cX9_measureRoutes 73 = .ok (.bipush 8, 2) := by decide +kernel
theorem dX9_measureRoutes_75 : decode cX9_measureRoutes 75 = .ok (.imul, 1) := by decide +kernel
theorem dX9_measureRoutes_76 : decode cX9_measureRoutes 76 = .ok (.iload_n 3, 1) := by decide +kernel
theorem dX9_measureRoutes_77 : decode cX9_measureRoutes 77 = .ok (.iadd, 1) := by decide +kernel
theorem dX9_measureRoutes_78 : decode cX9_measureRoutes 78 = .ok (.iload 4, 2) := by decide +kernel
theorem dX9_measureRoutes_80 : decode cX9_measureRoutes 80 = .ok (.iastore, 1) := by decide +kernel
theorem dX9_measureRoutes_81 : decode cX9_measureRoutes 81 = .ok (.iinc 3 1, 3) := by decide +kernel
theorem dX9_measureRoutes_84 : decode cX9_measureRoutes 84 = .ok (.goto (-73), 3) := by decide +kernel
theorem dX9_measureRoutes_87 : decode cX9_measureRoutes 87 = .ok (.iinc 2 1, 3) := by decide +kernel
theorem dX9_measureRoutes_90 : decode cX9_measureRoutes 90 = .ok (.goto (-88), 3) := by decide +kernel
theorem dX9_measureRoutes_93 : decode cX9_measureRoutes 93 = .ok (.return_, 1) := by decide +kernel
theorem dX9_by_0 : decode cX9_by 0 = .ok (.aload_n 0, 1) := by decide +kernel
theorem dX9_by_1 : decode cX9_by 1 = .ok (.getfield 27, 3) := by decide +kernel
theorem dX9_by_4 : decode cX9_by 4 = .ok (.iload_n 1, 1) := by decide +kernel
theorem dX9_by_5 : decode cX9_by 5 = .ok (.aaload, 1) := by decide +kernel
theorem dX9_by_6 : decode cX9_by 6 = .ok (.iload_n 2, 1) := by decide +kernel
theorem dX9_by_7 : decode cX9_by 7 = .ok (.iaload, 1) := by decide +kernel
theorem dX9_by_8 : decode cX9_by 8 = .ok (.aload_n 0, 1) := by decide +kernel
theorem dX9_by_9 : decode cX9_by 9 = .ok (.getfield 30, 3) := by decide +kernel
theorem dX9_by_12 : decode cX9_by 12 = .ok (.iload_n 3, 1) := by decide +kernel
theorem dX9_by_13 : decode cX9_by 13 = .ok (.iconst 1, 1) := by decide +kernel
theorem dX9_by_14 : decode cX9_by 14 = .ok (.iload_n 2, 1) := by decide +kernel
theorem dX9_by_15 : decode cX9_by 15 = .ok (.ishl, 1) := by decide +kernel
theorem dX9_by_16 : decode cX9_by 16 = .ok (.iconst (-1), 1) := by decide +kernel
theorem dX9_by_17 : decode cX9_by 17 = .ok (.ixor, 1) := by decide +kernel
theorem dX9_by_18 : decode cX9_by 18 = .ok (.iand, 1) := by decide +kernel
theorem dX9_by_19 : decode cX9_by 19 = .ok (.bipush 8, 2) := by decide +kernel
theorem dX9_by_21 : decode cX9_by 21 = .ok (.imul, 1) := by decide +kernel
theorem dX9_by_22 : decode cX9_by 22 = .ok (.iload_n 2, 1) := by decide +kernel
theorem dX9_by_23 : decode cX9_by 23 = .ok (.iadd, 1) := by decide +kernel
theorem dX9_by_24 : decode cX9_by 24 = .ok (.iaload, 1) := by decide +kernel
theorem dX9_by_25 : decode cX9_by 25 = .ok (.iadd, 1) := by decide +kernel
theorem dX9_by_26 : decode cX9_by 26 = .ok (.ireturn, 1) := by decide +kernel
theorem dX9_nextStop_0 : decode cX9_nextStop 0 = .ok (.iconst 0, 1) := by decide +kernel
theorem dX9_nextStop_1 : decode cX9_nextStop 1 = .ok (.istore_n 3, 1) := by decide +kernel
theorem dX9_nextStop_2 : decode cX9_nextStop 2 = .ok (.iload_n 3, 1) := by decide +kernel
theorem dX9_nextStop_3 : decode cX9_nextStop 3 = .ok (.bipush 7, 2) := by decide +kernel
theorem dX9_nextStop_5 : decode cX9_nextStop 5 = .ok (.if_icmp .ge 35, 3) := by decide +kernel
theorem dX9_nextStop_8 : decode cX9_nextStop 8 = .ok (.iload_n 2, 1) := by decide +kernel
theorem dX9_nextStop_9 : decode cX9_nextStop 9 = .ok (.iload_n 3, 1) := by decide +kernel
theorem dX9_nextStop_10 : decode cX9_nextStop 10 = .ok (.ishr, 1) := by decide +kernel
theorem dX9_nextStop_11 : decode cX9_nextStop 11 = .ok (.iconst 1, 1) := by decide +kernel
theorem dX9_nextStop_12 : decode cX9_nextStop 12 = .ok (.iand, 1) := by decide +kernel
theorem dX9_nextStop_13 : decode cX9_nextStop 13 = .ok (.ifCond .eq 21, 3) := by decide +kernel
theorem dX9_nextStop_16 : decode cX9_nextStop 16 = .ok (.aload_n 0, 1) := by decide +kernel
theorem dX9_nextStop_17 : decode cX9_nextStop 17 = .ok (.iload_n 1, 1) := by decide +kernel
theorem dX9_nextStop_18 : decode cX9_nextStop 18 = .ok (.iload_n 3, 1) := by decide +kernel
theorem dX9_nextStop_19 : decode cX9_nextStop 19 = .ok (.iload_n 2, 1) := by decide +kernel
theorem dX9_nextStop_20 : decode cX9_nextStop 20 = .ok (.invokevirtual 58, 3) := by decide +kernel
theorem dX9_nextStop_23 : decode cX9_nextStop 23 = .ok (.aload_n 0, 1) := by decide +kernel
theorem dX9_nextStop_24 : decode cX9_nextStop 24 = .ok (.iload_n 1, 1) := by decide +kernel
theorem dX9_nextStop_25 : decode cX9_nextStop 25 = .ok (.iload_n 2, 1) := by decide +kernel
theorem dX9_nextStop_26 : decode cX9_nextStop 26 = .ok (.invokevirtual 62, 3) := by decide +kernel
theorem dX9_nextStop_29 : decode cX9_nextStop 29 = .ok (.if_icmp .ne 5, 3) := by decide +kernel
theorem dX9_nextStop_32 : decode cX9_nextStop 32 = .ok (.iload_n 3, 1) := by decide +kernel
theorem dX9_nextStop_33 : decode cX9_nextStop 33 = .ok (.ireturn, 1) := by decide +kernel
theorem dX9_nextStop_34 : decode cX9_nextStop 34 = .ok (.iinc 3 1, 3) := by decide +kernel
theorem dX9_nextStop_37 : decode cX9_nextStop 37 = .ok (.goto (-35), 3) := by decide +kernel
theorem dX9_nextStop_40 : decode cX9_nextStop 40 = .ok (.bipush 7, 2) := by decide +kernel
theorem dX9_nextStop_42 : decode cX9_nextStop 42 = .ok (.ireturn, 1) := by decide +kernel
theorem dX10_init_0 : decode cX10_init 0 = .ok (.aload_n 0, 1) := by decide +kernel
theorem dX10_init_1 : decode cX10_init 1 = .ok (.invokespecial 1, 3) := by decide +kernel
theorem dX10_init_4 : decode cX10_init 4 = .ok (.aload_n 0, 1) := by decide +kernel
theorem dX10_init_5 : decode cX10_init 5 = .ok (.iconst 0, 1) := by decide +kernel
theorem dX10_init_6 : decode cX10_init 6 = .ok (.newarray .byte, 2) := by decide +kernel
theorem dX10_init_8 : decode cX10_init 8 = .ok (.putfield 7, 3) := by decide +kernel
theorem dX10_init_11 : decode cX10_init 11 = .ok (.return_, 1) := by decide +kernel
theorem dX10_begin_0 : decode cX10_begin 0 = .ok (.aload_n 0, 1) := by decide +kernel
theorem dX10_begin_1 : decode cX10_begin 1 = .ok (.aload_n 1, 1) := by decide +kernel
theorem dX10_begin_2 : decode cX10_begin 2 = .ok (.putfield 7, 3) := by decide +kernel
theorem dX10_begin_5 : decode cX10_begin 5 = .ok (.aload_n 0, 1) := by decide +kernel
theorem dX10_begin_6 : decode cX10_begin 6 = .ok (.iload_n 2, 1) := by decide +kernel
theorem dX10_begin_7 : decode cX10_begin 7 = .ok (.aload_n 0, 1) := by decide +kernel
theorem dX10_begin_8 : decode cX10_begin 8 = .ok (.getfield 7, 3) := by decide +kernel
theorem dX10_begin_11 : decode cX10_begin 11 = .ok (.arraylength, 1) := by decide +kernel
theorem dX10_begin_12 : decode cX10_begin 12 = .ok (.invokestatic 13, 3) := by decide +kernel
theorem dX10_begin_15 : decode cX10_begin 15 = .ok (.putfield 19, 3) := by decide +kernel
theorem dX10_begin_18 : decode cX10_begin 18 = .ok (.aload_n 0, 1) := by decide +kernel
theorem dX10_begin_19 : decode cX10_begin 19 = .ok (.iconst 0, 1) := by decide +kernel
theorem dX10_begin_20 : decode cX10_begin 20 = .ok (.putfield 23, 3) := by decide +kernel
theorem dX10_begin_23 : decode cX10_begin 23 = .ok (.aload_n 0, 1) := by decide +kernel
theorem dX10_begin_24 : decode cX10_begin 24 = .ok (.invokevirtual 26, 3) := by decide +kernel
theorem dX10_begin_27 : decode cX10_begin 27 = .ok (.return_, 1) := by decide +kernel
theorem dX10_next_0 : decode cX10_next 0 = .ok (.aload_n 0, 1) := by decide +kernel
theorem dX10_next_1 : decode cX10_next 1 = .ok (.aload_n 0, 1) := by decide +kernel
theorem dX10_next_2 : decode cX10_next 2 = .ok (.getfield 23, 3) := by decide +kernel
theorem dX10_next_5 : decode cX10_next 5 = .ok (.putfield 29, 3) := by decide +kernel
theorem dX10_next_8 : decode cX10_next 8 = .ok (.aload_n 0, 1) := by decide +kernel
theorem dX10_next_9 : decode cX10_next 9 = .ok (.getfield 29, 3) := by decide +kernel
theorem dX10_next_12 : decode cX10_next 12 = .ok (.aload_n 0, 1) := by decide +kernel
theorem dX10_next_13 : decode cX10_next 13 = .ok (.getfield 19, 3) := by decide +kernel
theorem dX10_next_16 : decode cX10_next 16 = .ok (.if_icmp .ge 32, 3) := by decide +kernel
theorem dX10_next_19 : decode cX10_next 19 = .ok (.aload_n 0, 1) := by decide +kernel
theorem dX10_next_20 : decode cX10_next 20 = .ok (.getfield 7, 3) := by decide +kernel
theorem dX10_next_23 : decode cX10_next 23 = .ok (.aload_n 0, 1) := by decide +kernel
theorem dX10_next_24 : decode cX10_next 24 = .ok (.getfield 29, 3) := by decide +kernel
theorem dX10_next_27 : decode cX10_next 27 = .ok (.baload, 1) := by decide +kernel
theorem dX10_next_28 : decode cX10_next 28 = .ok (.invokestatic 32, 3) := by decide +kernel
theorem dX10_next_31 : decode cX10_next 31 = .ok (.iconst 4, 1) := by decide +kernel
theorem dX10_next_32 : decode cX10_next 32 = .ok (.if_icmp .ne 16, 3) := by decide +kernel
theorem dX10_next_35 : decode cX10_next 35 = .ok (.aload_n 0, 1) := by decide +kernel
theorem dX10_next_36 : decode cX10_next 36 = .ok (.dup, 1) := by decide +kernel
theorem dX10_next_37 : decode cX10_next 37 = .ok (.getfield 29, 3) := by decide +kernel
theorem dX10_next_40 : decode cX10_next 40 = .ok (.iconst 1, 1) := by decide +kernel
theorem dX10_next_41 : decode cX10_next 41 = .ok (.iadd, 1) := by decide +kernel
theorem dX10_next_42 : decode cX10_next 42 = .ok (.putfield 29, 3) := by decide +kernel
theorem dX10_next_45 : decode cX10_next 45 = .ok (.goto (-37), 3) := by decide +kernel
theorem dX10_next_48 : decode cX10_next 48 = .ok (.aload_n 0, 1) := by decide +kernel
theorem dX10_next_49 : decode cX10_next 49 = .ok (.aload_n 0, 1) := by decide +kernel
theorem dX10_next_50 : decode cX10_next 50 = .ok (.getfield 29, 3) := by decide +kernel
theorem dX10_next_53 : decode cX10_next 53 = .ok (.putfield 23, 3) := by decide +kernel
theorem dX10_next_56 : decode cX10_next 56 = .ok (.aload_n 0, 1) := by decide +kernel
theorem dX10_next_57 : decode cX10_next 57 = .ok (.getfield 29, 3) := by decide +kernel
theorem dX10_next_60 : decode cX10_next 60 = .ok (.aload_n 0, 1) := by decide +kernel
theorem dX10_next_61 : decode cX10_next 61 = .ok (.getfield 19, 3) := by decide +kernel
theorem dX10_next_64 : decode cX10_next 64 = .ok (.if_icmp .lt 9, 3) := by decide +kernel
theorem dX10_next_67 : decode cX10_next 67 = .ok (.aload_n 0, 1) := by decide +kernel
theorem dX10_next_68 : decode cX10_next 68 = .ok (.iconst 0, 1) := by decide +kernel
theorem dX10_next_69 : decode cX10_next 69 = .ok (.putfield 36, 3) := by decide +kernel
theorem dX10_next_72 : decode cX10_next 72 = .ok (.return_, 1) := by decide +kernel
theorem dX10_next_73 : decode cX10_next 73 = .ok (.aload_n 0, 1) := by decide +kernel
theorem dX10_next_74 : decode cX10_next 74 = .ok (.aload_n 0, 1) := by decide +kernel
theorem dX10_next_75 : decode cX10_next 75 = .ok (.getfield 7, 3) := by decide +kernel
theorem dX10_next_78 : decode cX10_next 78 = .ok (.aload_n 0, 1) := by decide +kernel
theorem dX10_next_79 : decode cX10_next 79 = .ok (.getfield 29, 3) := by decide +kernel
theorem dX10_next_82 : decode cX10_next 82 = .ok (.baload, 1) := by decide +kernel
theorem dX10_next_83 : decode cX10_next 83 = .ok (.invokestatic 32, 3) := by decide +kernel
theorem dX10_next_86 : decode cX10_next 86 = .ok (.putfield 36, 3) := by decide +kernel
theorem dX10_next_89 : decode cX10_next 89 = .ok (.aload_n 0, 1) := by decide +kernel
theorem dX10_next_90 : decode cX10_next 90 = .ok (.dup, 1) := by decide +kernel
theorem dX10_next_91 : decode cX10_next 91 = .ok (.getfield 23, 3) := by decide +kernel
theorem dX10_next_94 : decode cX10_next 94 = .ok (.iconst 1, 1) := by decide +kernel
theorem dX10_next_95 : decode cX10_next 95 = .ok (.iadd, 1) := by decide +kernel
theorem dX10_next_96 : decode cX10_next 96 = .ok (.putfield 23, 3) := by decide +kernel
theorem dX10_next_99 : decode cX10_next 99 = .ok (.aload_n 0, 1) := by decide +kernel
theorem dX10_next_100 : decode cX10_next 100 = .ok (.getfield 36, 3) := by decide +kernel
theorem dX10_next_103 : decode cX10_next 103 = .ok (.iconst 2, 1) := by decide +kernel
theorem dX10_next_104 : decode cX10_next 104 = .ok (.if_icmp .gt 46, 3) := by decide +kernel
theorem dX10_next_107 : decode cX10_next 107 = .ok (.aload_n 0, 1) := by decide +kernel
theorem dX10_next_108 : decode cX10_next 108 = .ok (.getfield 23, 3) := by decide +kernel
theorem dX10_next_111 : decode cX10_next 111 = .ok (.aload_n 0, 1) := by decide +kernel
theorem dX10_next_112 : decode cX10_next 112 = .ok (.getfield 19, 3) := by decide +kernel
theorem dX10_next_115 : decode cX10_next 115 = .ok (.if_icmp .ge 35, 3) := by decide +kernel
theorem dX10_next_118 : decode cX10_next 118 = .ok (.aload_n 0, 1) := by decide +kernel
theorem dX10_next_119 : decode cX10_next 119 = .ok (.getfield 7, 3) := by decide +kernel
theorem dX10_next_122 : decode cX10_next 122 = .ok (.aload_n 0, 1) := by decide +kernel
theorem dX10_next_123 : decode cX10_next 123 = .ok (.getfield 23, 3) := by decide +kernel
theorem dX10_next_126 : decode cX10_next 126 = .ok (.baload, 1) := by decide +kernel
theorem dX10_next_127 : decode cX10_next 127 = .ok (.invokestatic 32, 3) := by decide +kernel
theorem dX10_next_130 : decode cX10_next 130 = .ok (.aload_n 0, 1) := by decide +kernel
theorem dX10_next_131 : decode cX10_next 131 = .ok (.getfield 36, 3) := by decide +kernel
theorem dX10_next_134 : decode cX10_next 134 = .ok (.if_icmp .ne 16, 3) := by decide +kernel
theorem dX10_next_137 : decode cX10_next 137 = .ok (.aload_n 0, 1) := by decide +kernel
theorem dX10_next_138 : decode cX10_next 138 = .ok (.dup, 1) := by decide +kernel
theorem dX10_next_139 : decode cX10_next 139 = .ok (.getfield 23, 3) := by decide +kernel
theorem dX10_next_142 : decode cX10_next 142 = .ok (.iconst 1, 1) := by decide +kernel
theorem dX10_next_143 : decode cX10_next 143 = .ok (.iadd, 1) := by decide +kernel
theorem dX10_next_144 : decode cX10_next 144 = .ok (.putfield 23, 3) := by decide +kernel
theorem dX10_next_147 : decode cX10_next 147 = .ok (.goto (-48), 3) := by decide +kernel
theorem dX10_next_150 : decode cX10_next 150 = .ok (.return_, 1) := by decide +kernel
theorem dX10_kindOf_0 : decode cX10_kindOf 0 = .ok (.iload_n 0, 1) := by decide +kernel
theorem dX10_kindOf_1 : decode cX10_kindOf 1 = .ok (.bipush 97, 2) := by decide +kernel
theorem dX10_kindOf_3 : decode cX10_kindOf 3 = .ok (.if_icmp .lt 11, 3) := by decide +kernel
theorem dX10_kindOf_6 : decode cX10_kindOf 6 = .ok (.iload_n 0, 1) := by decide +kernel
theorem dX10_kindOf_7 : decode cX10_kindOf 7 = .ok (.bipush 122, 2) := by decide +kernel
theorem dX10_kindOf_9 : decode cX10_kindOf 9 = .ok (.if_icmp .gt 5, 3) := by decide +kernel
theorem dX10_kindOf_12 : decode cX10_kindOf 12 = .ok (.iconst 1, 1) := by decide +kernel
theorem dX10_kindOf_13 : decode cX10_kindOf 13 = .ok (.ireturn, 1) := by decide +kernel
theorem dX10_kindOf_14 : decode cX10_kindOf 14 = .ok (.iload_n 0, 1) := by decide +kernel
theorem dX10_kindOf_15 : decode cX10_kindOf 15 = .ok (.bipush 48, 2) := by decide +kernel
theorem dX10_kindOf_17 : decode cX10_kindOf 17 = .ok (.if_icmp .lt 11, 3) := by decide +kernel
theorem dX10_kindOf_20 : decode cX10_kindOf 20 = .ok (.iload_n 0, 1) := by decide +kernel
theorem dX10_kindOf_21 : decode cX10_kindOf 21 = .ok (.bipush 57, 2) := by decide +kernel
theorem dX10_kindOf_23 : decode cX10_kindOf 23 = .ok (.if_icmp .gt 5, 3) := by decide +kernel
theorem dX10_kindOf_26 : decode cX10_kindOf 26 = .ok (.iconst 2, 1) := by decide +kernel
theorem dX10_kindOf_27 : decode cX10_kindOf 27 = .ok (.ireturn, 1) := by decide +kernel
theorem dX10_kindOf_28 : decode cX10_kindOf 28 = .ok (.iload_n 0, 1) := by decide +kernel
theorem dX10_kindOf_29 : decode cX10_kindOf 29 = .ok (.bipush 32, 2) := by decide +kernel
theorem dX10_kindOf_31 : decode cX10_kindOf 31 = .ok (.if_icmp .eq 9, 3) := by decide +kernel
theorem dX10_kindOf_34 : decode cX10_kindOf 34 = .ok (.iload_n 0, 1) := by decide +kernel
theorem dX10_kindOf_35 : decode cX10_kindOf 35 = .ok (.bipush 10, 2) := by decide +kernel
theorem dX10_kindOf_37 : decode cX10_kindOf 37 = .ok (.if_icmp .ne 5, 3) := by decide +kernel
theorem dX10_kindOf_40 : decode cX10_kindOf 40 = .ok (.iconst 4, 1) := by decide +kernel
theorem dX10_kindOf_41 : decode cX10_kindOf 41 = .ok (.ireturn, 1) := by decide +kernel
theorem dX10_kindOf_42 : decode cX10_kindOf 42 = .ok (.iload_n 0, 1) := by decide +kernel
theorem dX10_kindOf_43 : decode cX10_kindOf 43 = .ok (.bipush 59, 2) := by decide +kernel
theorem dX10_kindOf_45 : decode cX10_kindOf 45 = .ok (.if_icmp .ne 7, 3) := by decide +kernel
theorem dX10_kindOf_48 : decode cX10_kindOf 48 = .ok (.iconst 3, 1) := by decide +kernel
theorem dX10_kindOf_49 : decode cX10_kindOf 49 = .ok (.goto 4, 3) := by decide +kernel
theorem dX10_kindOf_52 : decode cX10_kindOf 52 = .ok (.iconst 5, 1) := by decide +kernel
theorem dX10_kindOf_53 : decode cX10_kindOf 53 = .ok (.ireturn, 1) := by decide +kernel
theorem dX10_isNumber_0 : decode cX10_isNumber 0 = .ok (.aload_n 0, 1) := by decide +kernel
theorem dX10_isNumber_1 : decode cX10_isNumber 1 = .ok (.getfield 36, 3) := by decide +kernel
theorem dX10_isNumber_4 : decode cX10_isNumber 4 = .ok (.iconst 2, 1) := by decide +kernel
theorem dX10_isNumber_5 : decode cX10_isNumber 5 = .ok (.if_icmp .ne 20, 3) := by decide +kernel
theorem dX10_isNumber_8 : decode cX10_isNumber 8 = .ok (.aload_n 0, 1) := by decide +kernel
theorem dX10_isNumber_9 : decode cX10_isNumber 9 = .ok (.getfield 23, 3) := by decide +kernel
theorem dX10_isNumber_12 : decode cX10_isNumber 12 = .ok (.aload_n 0, 1) := by decide +kernel
theorem dX10_isNumber_13 : decode cX10_isNumber 13 = .ok (.getfield 29, 3) := by decide +kernel
theorem dX10_isNumber_16 : decode cX10_isNumber 16 = .ok (.isub, 1) := by decide +kernel
theorem dX10_isNumber_17 : decode cX10_isNumber 17 = .ok (.iconst 4, 1) := by decide +kernel
theorem dX10_isNumber_18 : decode cX10_isNumber 18 = .ok (.if_icmp .gt 7, 3) := by decide +kernel
theorem dX10_isNumber_21 : decode cX10_isNumber 21 = .ok (.iconst 1, 1) := by decide +kernel
theorem dX10_isNumber_22 : decode cX10_isNumber 22 = .ok (.goto 4, 3) := by decide +kernel
theorem dX10_isNumber_25 : decode cX10_isNumber 25 = .ok (.iconst 0, 1) := by decide +kernel
theorem dX10_isNumber_26 : decode cX10_isNumber 26 = .ok (.ireturn, 1) := by decide +kernel
theorem dX10_value_0 : decode cX10_value 0 = .ok (.iconst 0, 1) := by decide +kernel
theorem dX10_value_1 : decode cX10_value 1 = .ok (.istore_n 1, 1) := by decide +kernel
theorem dX10_value_2 : decode cX10_value 2 = .ok (.aload_n 0, 1) := by decide +kernel
theorem dX10_value_3 : decode cX10_value 3 = .ok (.getfield 29, 3) := by decide +kernel
theorem dX10_value_6 : decode cX10_value 6 = .ok (.istore_n 2, 1) := by decide +kernel
theorem dX10_value_7 : decode cX10_value 7 = .ok (.iload_n 2, 1) := by decide +kernel
theorem dX10_value_8 : decode cX10_value 8 = .ok (.aload_n 0, 1) := by decide +kernel
theorem dX10_value_9 : decode cX10_value 9 = .ok (.getfield 23, 3) := by decide +kernel
theorem dX10_value_12 : decode cX10_value 12 = .ok (.if_icmp .ge 24, 3) := by decide +kernel
theorem dX10_value_15 : decode cX10_value 15 = .ok (.iload_n 1, 1) := by decide +kernel
theorem dX10_value_16 : decode cX10_value 16 = .ok (.bipush 10, 2) := by decide +kernel
theorem dX10_value_18 : decode cX10_value 18 = .ok (.imul, 1) := by decide +kernel
theorem dX10_value_19 : decode cX10_value 19 = .ok (.aload_n 0, 1) := by decide +kernel
theorem dX10_value_20 : decode cX10_value 20 = .ok (.getfield 7, 3) := by decide +kernel
theorem dX10_value_23 : decode cX10_value 23 = .ok (.iload_n 2, 1) := by decide +kernel
theorem dX10_value_24 : decode cX10_value 24 = .ok (.baload, 1) := by decide +kernel
theorem dX10_value_25 : decode cX10_value 25 = .ok (.iadd, 1) := by decide +kernel
theorem dX10_value_26 : decode cX10_value 26 = .ok (.bipush 48, 2) := by decide +kernel
theorem dX10_value_28 : decode cX10_value 28 = .ok (.isub, 1) := by decide +kernel
theorem dX10_value_29 : decode cX10_value 29 = .ok (.istore_n 1, 1) := by decide +kernel
theorem dX10_value_30 : decode cX10_value 30 = .ok (.iinc 2 1, 3) := by decide +kernel
theorem dX10_value_33 : decode cX10_value 33 = .ok (.goto (-26), 3) := by decide +kernel
theorem dX10_value_36 : decode cX10_value 36 = .ok (.iload_n 1, 1) := by decide +kernel
theorem dX10_value_37 : decode cX10_value 37 = .ok (.ireturn, 1) := by decide +kernel
theorem dX10_isName_0 : decode cX10_isName 0 = .ok (.aload_n 0, 1) := by decide +kernel
theorem dX10_isName_1 : decode cX10_isName 1 = .ok (.getfield 36, 3) := by decide +kernel
theorem dX10_isName_4 : decode cX10_isName 4 = .ok (.iconst 1, 1) := by decide +kernel
theorem dX10_isName_5 : decode cX10_isName 5 = .ok (.if_icmp .ne 28, 3) := by decide +kernel
theorem dX10_isName_8 : decode cX10_isName 8 = .ok (.aload_n 0, 1) := by decide +kernel
theorem dX10_isName_9 : decode cX10_isName 9 = .ok (.getfield 23, 3) := by decide +kernel
theorem dX10_isName_12 : decode cX10_isName 12 = .ok (.aload_n 0, 1) := by decide +kernel
theorem dX10_isName_13 : decode cX10_isName 13 = .ok (.getfield 29, 3) := by decide +kernel
theorem dX10_isName_16 : decode cX10_isName 16 = .ok (.isub, 1) := by decide +kernel
theorem dX10_isName_17 : decode cX10_isName 17 = .ok (.bipush 8, 2) := by decide +kernel
theorem dX10_isName_19 : decode cX10_isName 19 = .ok (.if_icmp .gt 14, 3) := by decide +kernel
theorem dX10_isName_22 : decode cX10_isName 22 = .ok (.aload_n 0, 1) := by decide +kernel
theorem dX10_isName_23 : decode cX10_isName 23 = .ok (.invokevirtual 39, 3) := by decide +kernel
theorem dX10_isName_26 : decode cX10_isName 26 = .ok (.ifnonnull 7, 3) := by decide +kernel
theorem dX10_isName_29 : decode cX10_isName 29 = .ok (.iconst 1, 1) := by decide +kernel
theorem dX10_isName_30 : decode cX10_isName 30 = .ok (.goto 4, 3) := by decide +kernel
theorem dX10_isName_33 : decode cX10_isName 33 = .ok (.iconst 0, 1) := by decide +kernel
theorem dX10_isName_34 : decode cX10_isName 34 = .ok (.ireturn, 1) := by decide +kernel
theorem dX10_letters_0 : decode cX10_letters 0 = .ok (.lconst 0, 1) := by decide +kernel
theorem dX10_letters_1 : decode cX10_letters 1 = .ok (.lstore_n 1, 1) := by decide +kernel
theorem dX10_letters_2 : decode cX10_letters 2 = .ok (.aload_n 0, 1) := by decide +kernel
theorem dX10_letters_3 : decode cX10_letters 3 = .ok (.getfield 29, 3) := by decide +kernel
theorem dX10_letters_6 : decode cX10_letters 6 = .ok (.istore_n 3, 1) := by decide +kernel
theorem dX10_letters_7 : decode cX10_letters 7 = .ok (.iload_n 3, 1) := by decide +kernel
theorem dX10_letters_8 : decode cX10_letters 8 = .ok (.aload_n 0, 1) := by decide +kernel
theorem dX10_letters_9 : decode cX10_letters 9 = .ok (.getfield 23, 3) := by decide +kernel
theorem dX10_letters_12 : decode cX10_letters 12 = .ok (.if_icmp .ge 29, 3) := by decide +kernel
theorem dX10_letters_15 : decode cX10_letters 15 = .ok (.lload_n 1, 1) := by decide +kernel
theorem dX10_letters_16 : decode cX10_letters 16 = .ok (.ldc2_w 43, 3) := by decide +kernel
theorem dX10_letters_19 : decode cX10_letters 19 = .ok (.lmul, 1) := by decide +kernel
theorem dX10_letters_20 : decode cX10_letters 20 = .ok (.aload_n 0, 1) := by decide +kernel
theorem dX10_letters_21 : decode cX10_letters 21 = .ok (.getfield 7, 3) := by decide +kernel
theorem dX10_letters_24 : decode cX10_letters 24 = .ok (.iload_n 3, 1) := by decide +kernel
theorem dX10_letters_25 : decode cX10_letters 25 = .ok (.baload, 1) := by decide +kernel
theorem dX10_letters_26 : decode cX10_letters 26 = .ok (.i2l, 1) := by decide +kernel
theorem dX10_letters_27 : decode cX10_letters 27 = .ok (.ladd, 1) := by decide +kernel
theorem dX10_letters_28 : decode cX10_letters 28 = .ok (.ldc2_w 45, 3) := by decide +kernel
theorem dX10_letters_31 : decode cX10_letters 31 = .ok (.lsub, 1) := by decide +kernel
theorem dX10_letters_32 : decode cX10_letters 32 = .ok (.lconst 1, 1) := by decide +kernel
theorem dX10_letters_33 : decode cX10_letters 33 = .ok (.ladd, 1) := by decide +kernel
theorem dX10_letters_34 : decode cX10_letters 34 = .ok (.lstore_n 1, 1) := by decide +kernel
theorem dX10_letters_35 : decode cX10_letters 35 = .ok (.iinc 3 1, 3) := by decide +kernel
theorem dX10_letters_38 : decode cX10_letters 38 = .ok (.goto (-31), 3) := by decide +kernel
theorem dX10_letters_41 : decode cX10_letters 41 = .ok (.lload_n 1, 1) := by decide +kernel
theorem dX10_letters_42 : decode cX10_letters 42 = .ok (.lreturn, 1) := by decide +kernel
theorem dX10_keyword_0 : decode cX10_keyword 0 = .ok (.aload_n 0, 1) := by decide +kernel
theorem dX10_keyword_1 : decode cX10_keyword 1 = .ok (.getfield 36, 3) := by decide +kernel
theorem dX10_keyword_4 : decode cX10_keyword 4 = .ok (.iconst 1, 1) := by decide +kernel
theorem dX10_keyword_5 : decode cX10_keyword 5 = .ok (.if_icmp .eq 5, 3) := by decide +kernel
theorem dX10_keyword_8 : decode cX10_keyword 8 = .ok (.aconst_null, 1) := by decide +kernel
theorem dX10_keyword_9 : decode cX10_keyword 9 = .ok (.areturn, 1) := by decide +kernel
theorem dX10_keyword_10 : decode cX10_keyword 10 = .ok (.aload_n 0, 1) := by decide +kernel
theorem dX10_keyword_11 : decode cX10_keyword 11 = .ok (.getfield 23, 3) := by decide +kernel
theorem dX10_keyword_14 : decode cX10_keyword 14 = .ok (.aload_n 0, 1) := by decide +kernel
theorem dX10_keyword_15 : decode cX10_keyword 15 = .ok (.getfield 29, 3) := by decide +kernel
theorem dX10_keyword_18 : decode cX10_keyword 18 = .ok (.isub, 1) := by decide +kernel
theorem dX10_keyword_19 : decode cX10_keyword 19 = .ok (.istore_n 1, 1) := by decide +kernel
theorem dX10_keyword_20 : decode cX10_keyword 20 = .ok (.getstatic 47, 3) := by decide +kernel
theorem dX10_keyword_23 : decode cX10_keyword 23 = .ok (.astore_n 2, 1) := by decide +kernel
theorem dX10_keyword_24 : decode cX10_keyword 24 = .ok (.aload_n 2, 1) := by decide +kernel
theorem dX10_keyword_25 : decode cX10_keyword 25 = .ok (.arraylength, 1) := by decide +kernel
theorem dX10_keyword_26 : decode cX10_keyword 26 = .ok (.istore_n 3, 1) := by decide +kernel
theorem dX10_keyword_27 : decode cX10_keyword 27 = .ok (.iconst 0, 1) := by decide +kernel
theorem dX10_keyword_28 : decode cX10_keyword 28 = .ok (.istore 4, 2) := by decide +kernel
theorem dX10_keyword_30 : decode cX10_keyword 30 = .ok (.iload 4, 2) := by decide +kernel
theorem dX10_keyword_32 : decode cX10_keyword 32 = .ok (.iload_n 3, 1) := by decide +kernel
theorem dX10_keyword_33 : decode cX10_keyword 33 = .ok (.if_icmp .ge 90, 3) := by decide +kernel
theorem dX10_keyword_36 : decode cX10_keyword 36 = .ok (.aload_n 2, 1) := by decide +kernel
theorem dX10_keyword_37 : decode cX10_keyword 37 = .ok (.iload 4, 2) := by decide +kernel
theorem dX10_keyword_39 : decode cX10_keyword 39 = .ok (.aaload, 1) := by decide +kernel
theorem dX10_keyword_40 : decode cX10_keyword 40 = .ok (.astore 5, 2) := by decide +kernel
theorem dX10_keyword_42 : decode cX10_keyword 42 = .ok (.iconst 0, 1) := by decide +kernel
theorem dX10_keyword_43 : decode cX10_keyword 43 = .ok (.istore 6, 2) := by decide +kernel
theorem dX10_keyword_45 : decode cX10_keyword 45 = .ok (.iload 6, 2) := by decide +kernel
theorem dX10_keyword_47 : decode cX10_keyword 47 = .ok (.iload_n 1, 1) := by decide +kernel
theorem dX10_keyword_48 : decode cX10_keyword 48 = .ok (.if_icmp .ge 47, 3) := by decide +kernel
theorem dX10_keyword_51 : decode cX10_keyword 51 = .ok (.iload 6, 2) := by decide +kernel
theorem dX10_keyword_53 : decode cX10_keyword 53 = .ok (.aload 5, 2) := by decide +kernel
theorem dX10_keyword_55 : decode cX10_keyword 55 = .ok (.getfield 51, 3) := by decide +kernel
theorem dX10_keyword_58 : decode cX10_keyword 58 = .ok (.invokevirtual 56, 3) := by decide +kernel
theorem dX10_keyword_61 : decode cX10_keyword 61 = .ok (.if_icmp .ge 34, 3) := by decide +kernel
theorem dX10_keyword_64 : decode cX10_keyword 64 = .ok (.aload_n 0, 1) := by decide +kernel
theorem dX10_keyword_65 : decode cX10_keyword 65 = .ok (.getfield 7, 3) := by decide +kernel
theorem dX10_keyword_68 : decode cX10_keyword 68 = .ok (.aload_n 0, 1) := by decide +kernel
theorem dX10_keyword_69 : decode cX10_keyword 69 = .ok (.getfield 29, 3) := by decide +kernel
theorem dX10_keyword_72 : decode cX10_keyword 72 = .ok (.iload 6, 2) := by decide +kernel
theorem dX10_keyword_74 : decode cX10_keyword 74 = .ok (.iadd, 1) := by decide +kernel
theorem dX10_keyword_75 : decode cX10_keyword 75 = .ok (.baload, 1) := by decide +kernel
theorem dX10_keyword_76 : decode cX10_keyword 76 = .ok (.aload 5, 2) := by decide +kernel
theorem dX10_keyword_78 : decode cX10_keyword 78 = .ok (.getfield 51, 3) := by decide +kernel
theorem dX10_keyword_81 : decode cX10_keyword 81 = .ok (.iload 6, 2) := by decide +kernel
theorem dX10_keyword_83 : decode cX10_keyword 83 = .ok (.invokevirtual 61, 3) := by decide +kernel
theorem dX10_keyword_86 : decode cX10_keyword 86 = .ok (.if_icmp .ne 9, 3) := by decide +kernel
theorem dX10_keyword_89 : decode cX10_keyword 89 = .ok (.iinc 6 1, 3) := by decide +kernel
theorem dX10_keyword_92 : decode cX10_keyword 92 = .ok (.goto (-47), 3) := by decide +kernel
theorem dX10_keyword_95 : decode cX10_keyword 95 = .ok (.iload 6, 2) := by decide +kernel
theorem dX10_keyword_97 : decode cX10_keyword 97 = .ok (.iload_n 1, 1) := by decide +kernel
theorem dX10_keyword_98 : decode cX10_keyword 98 = .ok (.if_icmp .ne 19, 3) := by decide +kernel
theorem dX10_keyword_101 : decode cX10_keyword 101 = .ok (.iload 6, 2) := by decide +kernel
theorem dX10_keyword_103 : decode cX10_keyword 103 = .ok (.aload 5, 2) := by decide +kernel
theorem dX10_keyword_105 : decode cX10_keyword 105 = .ok (.getfield 51, 3) := by decide +kernel
theorem dX10_keyword_108 : decode cX10_keyword 108 = .ok (.invokevirtual 56, 3) := by decide +kernel
theorem dX10_keyword_111 : decode cX10_keyword 111 = .ok (.if_icmp .ne 6, 3) := by decide +kernel
theorem dX10_keyword_114 : decode cX10_keyword 114 = .ok (.aload 5, 2) := by decide +kernel
theorem dX10_keyword_116 : decode cX10_keyword 116 = .ok (.areturn, 1) := by decide +kernel
theorem dX10_keyword_117 : decode cX10_keyword 117 = .ok (.iinc 4 1, 3) := by decide +kernel
theorem dX10_keyword_120 : decode cX10_keyword 120 = .ok (.goto (-90), 3) := by decide +kernel
theorem dX10_keyword_123 : decode cX10_keyword 123 = .ok (.aconst_null, 1) := by decide +kernel
theorem dX10_keyword_124 : decode cX10_keyword 124 = .ok (.areturn, 1) := by decide +kernel
theorem dX12_init_0 : decode cX12_init 0 = .ok (.aload_n 0, 1) := by decide +kernel
theorem dX12_init_1 : decode cX12_init 1 = .ok (.invokespecial 1, 3) := by decide +kernel
theorem dX12_init_4 : decode cX12_init 4 = .ok (.aload_n 0, 1) := by decide +kernel
theorem dX12_init_5 : decode cX12_init 5 = .ok (.sipush 1600, 3) := by decide +kernel
theorem dX12_init_8 : decode cX12_init 8 = .ok (.newarray .byte, 2) := by decide +kernel
theorem dX12_init_10 : decode cX12_init 10 = .ok (.putfield 9, 3) := by decide +kernel
theorem dX12_init_13 : decode cX12_init 13 = .ok (.aload_n 0, 1) := by decide +kernel
theorem dX12_init_14 : decode cX12_init 14 = .ok (.new 13, 3) := by decide +kernel
theorem dX12_init_17 : decode cX12_init 17 = .ok (.dup, 1) := by decide +kernel
theorem dX12_init_18 : decode cX12_init 18 = .ok (.invokespecial 15, 3) := by decide +kernel
theorem dX12_init_21 : decode cX12_init 21 = .ok (.putfield 16, 3) := by decide +kernel
theorem dX12_init_24 : decode cX12_init 24 = .ok (.aload_n 0, 1) := by decide +kernel
theorem dX12_init_25 : decode cX12_init 25 = .ok (.new 20, 3) := by decide +kernel
theorem dX12_init_28 : decode cX12_init 28 = .ok (.dup, 1) := by decide +kernel
theorem dX12_init_29 : decode cX12_init 29 = .ok (.invokespecial 22, 3) := by decide +kernel
theorem dX12_init_32 : decode cX12_init 32 = .ok (.putfield 23, 3) := by decide +kernel
theorem dX12_init_35 : decode cX12_init 35 = .ok (.aload_n 0, 1) := by decide +kernel
theorem dX12_init_36 : decode cX12_init 36 = .ok (.new 20, 3) := by decide +kernel
theorem dX12_init_39 : decode cX12_init 39 = .ok (.dup, 1) := by decide +kernel
theorem dX12_init_40 : decode cX12_init 40 = .ok (.invokespecial 22, 3) := by decide +kernel
theorem dX12_init_43 : decode cX12_init 43 = .ok (.putfield 27, 3) := by decide +kernel
theorem dX12_init_46 : decode cX12_init 46 = .ok (.aload_n 0, 1) := by decide +kernel
theorem dX12_init_47 : decode cX12_init 47 = .ok (.new 30, 3) := by decide +kernel
theorem dX12_init_50 : decode cX12_init 50 = .ok (.dup, 1) := by decide +kernel
theorem dX12_init_51 : decode cX12_init 51 = .ok (.invokespecial 32, 3) := by decide +kernel
theorem dX12_init_54 : decode cX12_init 54 = .ok (.putfield 33, 3) := by decide +kernel
theorem dX12_init_57 : decode cX12_init 57 = .ok (.aload_n 0, 1) := by decide +kernel
theorem dX12_init_58 : decode cX12_init 58 = .ok (.new 37, 3) := by decide +kernel
theorem dX12_init_61 : decode cX12_init 61 = .ok (.dup, 1) := by decide +kernel
theorem dX12_init_62 : decode cX12_init 62 = .ok (.invokespecial 39, 3) := by decide +kernel
theorem dX12_init_65 : decode cX12_init 65 = .ok (.putfield 40, 3) := by decide +kernel
theorem dX12_init_68 : decode cX12_init 68 = .ok (.aload_n 0, 1) := by decide +kernel
theorem dX12_init_69 : decode cX12_init 69 = .ok (.new 44, 3) := by decide +kernel
theorem dX12_init_72 : decode cX12_init 72 = .ok (.dup, 1) := by decide +kernel
theorem dX12_init_73 : decode cX12_init 73 = .ok (.invokespecial 46, 3) := by decide +kernel
theorem dX12_init_76 : decode cX12_init 76 = .ok (.putfield 47, 3) := by decide +kernel
theorem dX12_init_79 : decode cX12_init 79 = .ok (.aload_n 0, 1) := by decide +kernel
theorem dX12_init_80 : decode cX12_init 80 = .ok (.new 37, 3) := by decide +kernel
theorem dX12_init_83 : decode cX12_init 83 = .ok (.dup, 1) := by decide +kernel
theorem dX12_init_84 : decode cX12_init 84 = .ok (.invokespecial 39, 3) := by decide +kernel
theorem dX12_init_87 : decode cX12_init 87 = .ok (.putfield 51, 3) := by decide +kernel
theorem dX12_init_90 : decode cX12_init 90 = .ok (.aload_n 0, 1) := by decide +kernel
theorem dX12_init_91 : decode cX12_init 91 = .ok (.new 44, 3) := by decide +kernel
theorem dX12_init_94 : decode cX12_init 94 = .ok (.dup, 1) := by decide +kernel
theorem dX12_init_95 : decode cX12_init 95 = .ok (.invokespecial 46, 3) := by decide +kernel
theorem dX12_init_98 : decode cX12_init 98 = .ok (.putfield 54, 3) := by decide +kernel
theorem dX12_init_101 : decode cX12_init 101 = .ok (.return_, 1) := by decide +kernel
theorem dX12_feed_0 : decode cX12_feed 0 = .ok (.aload_n 0, 1) := by decide +kernel
theorem dX12_feed_1 : decode cX12_feed 1 = .ok (.getfield 57, 3) := by decide +kernel
theorem dX12_feed_4 : decode cX12_feed 4 = .ok (.bipush 20, 2) := by decide +kernel
theorem dX12_feed_6 : decode cX12_feed 6 = .ok (.iadd, 1) := by decide +kernel
theorem dX12_feed_7 : decode cX12_feed 7 = .ok (.sipush 1600, 3) := by decide +kernel
theorem dX12_feed_10 : decode cX12_feed 10 = .ok (.if_icmp .le 5, 3) := by decide +kernel
theorem dX12_feed_13 : decode cX12_feed 13 = .ok (.iconst (-1), 1) := by decide +kernel
theorem dX12_feed_14 : decode cX12_feed 14 = .ok (.ireturn, 1) := by decide +kernel
theorem dX12_feed_15 : decode cX12_feed 15 = .ok (.aload_n 0, 1) := by decide +kernel
theorem dX12_feed_16 : decode cX12_feed 16 = .ok (.iload_n 1, 1) := by decide +kernel
theorem dX12_feed_17 : decode cX12_feed 17 = .ok (.invokevirtual 61, 3) := by decide +kernel
theorem dX12_feed_20 : decode cX12_feed 20 = .ok (.aload_n 0, 1) := by decide +kernel
theorem dX12_feed_21 : decode cX12_feed 21 = .ok (.iload_n 2, 1) := by decide +kernel
theorem dX12_feed_22 : decode cX12_feed 22 = .ok (.invokevirtual 61, 3) := by decide +kernel
theorem dX12_feed_25 : decode cX12_feed 25 = .ok (.aload_n 0, 1) := by decide +kernel
theorem dX12_feed_26 : decode cX12_feed 26 = .ok (.iload_n 3, 1) := by decide +kernel
theorem dX12_feed_27 : decode cX12_feed 27 = .ok (.invokevirtual 61, 3) := by decide +kernel
theorem dX12_feed_30 : decode cX12_feed 30 = .ok (.aload_n 0, 1) := by decide +kernel
theorem dX12_feed_31 : decode cX12_feed 31 = .ok (.iload 4, 2) := by decide +kernel
theorem dX12_feed_33 : decode cX12_feed 33 = .ok (.invokevirtual 61, 3) := by decide +kernel
theorem dX12_feed_36 : decode cX12_feed 36 = .ok (.aload_n 0, 1) := by decide +kernel
theorem dX12_feed_37 : decode cX12_feed 37 = .ok (.iload 5, 2) := by decide +kernel
theorem dX12_feed_39 : decode cX12_feed 39 = .ok (.invokevirtual 61, 3) := by decide +kernel
theorem dX12_feed_42 : decode cX12_feed 42 = .ok (.aload_n 0, 1) := by decide +kernel
theorem dX12_feed_43 : decode cX12_feed 43 = .ok (.getfield 57, 3) := by decide +kernel
theorem dX12_feed_46 : decode cX12_feed 46 = .ok (.ireturn, 1) := by decide +kernel
theorem dX12_append_0 : decode cX12_append 0 = .ok (.bipush 24, 2) := by decide +kernel
theorem dX12_append_2 : decode cX12_append 2 = .ok (.istore_n 2, 1) := by decide +kernel
theorem dX12_append_3 : decode cX12_append 3 = .ok (.iload_n 2, 1) := by decide +kernel
theorem dX12_append_4 : decode cX12_append 4 = .ok (.ifCond .lt 42, 3) := by decide +kernel
theorem dX12_append_7 : decode cX12_append 7 = .ok (.aload_n 0, 1) := by decide +kernel
theorem dX12_append_8 : decode cX12_append 8 = .ok (.getfield 57, 3) := by decide +kernel
theorem dX12_append_11 : decode cX12_append 11 = .ok (.sipush 1600, 3) := by decide +kernel
theorem dX12_append_14 : decode cX12_append 14 = .ok (.if_icmp .ge 32, 3) := by decide +kernel
theorem dX12_append_17 : decode cX12_append 17 = .ok (.aload_n 0, 1) := by decide +kernel
theorem dX12_append_18 : decode cX12_append 18 = .ok (.getfield 9, 3) := by decide +kernel
theorem dX12_append_21 : decode cX12_append 21 = .ok (.aload_n 0, 1) := by decide +kernel
theorem dX12_append_22 : decode cX12_append 22 = .ok (.getfield 57, 3) := by decide +kernel
theorem dX12_append_25 : decode cX12_append 25 = .ok (.iload_n 1, 1) := by decide +kernel
theorem dX12_append_26 : decode cX12_append 26 = .ok (.iload_n 2, 1) := by decide +kernel
theorem dX12_append_27 : decode cX12_append 27 = .ok (.ishr, 1) := by decide +kernel
theorem dX12_append_28 : decode cX12_append 28 = .ok (.i2b, 1) := by decide +kernel
theorem dX12_append_29 : decode cX12_append 29 = .ok (.bastore, 1) := by decide +kernel
theorem dX12_append_30 : decode cX12_append 30 = .ok (.aload_n 0, 1) := by decide +kernel
theorem dX12_append_31 : decode cX12_append 31 = .ok (.dup, 1) := by decide +kernel
theorem dX12_append_32 : decode cX12_append 32 = .ok (.getfield 57, 3) := by decide +kernel
theorem dX12_append_35 : decode cX12_append 35 = .ok (.iconst 1, 1) := by decide +kernel
theorem dX12_append_36 : decode cX12_append 36 = .ok (.iadd, 1) := by decide +kernel
theorem dX12_append_37 : decode cX12_append 37 = .ok (.putfield 57, 3) := by decide +kernel
theorem dX12_append_40 : decode cX12_append 40 = .ok (.iinc 2 (-8), 3) := by decide +kernel
theorem dX12_append_43 : decode cX12_append 43 = .ok (.goto (-40), 3) := by decide +kernel
theorem dX12_append_46 : decode cX12_append 46 = .ok (.return_, 1) := by decide +kernel
theorem dX12_truncate_0 : decode cX12_truncate 0 = .ok (.iload_n 1, 1) := by decide +kernel
theorem dX12_truncate_1 : decode cX12_truncate 1 = .ok (.ifCond .lt 11, 3) := by decide +kernel
theorem dX12_truncate_4 : decode cX12_truncate 4 = .ok (.iload_n 1, 1) := by decide +kernel
theorem dX12_truncate_5 : decode cX12_truncate 5 = .ok (.aload_n 0, 1) := by decide +kernel
theorem dX12_truncate_6 : decode cX12_truncate 6 = .ok (.getfield 57, 3) := by decide +kernel
theorem dX12_truncate_9 : decode cX12_truncate 9 = .ok (.if_icmp .le 5, 3) := by decide +kernel
theorem dX12_truncate_12 : decode cX12_truncate 12 = .ok (.iconst 0, 1) := by decide +kernel
theorem dX12_truncate_13 : decode cX12_truncate 13 = .ok (.ireturn, 1) := by decide +kernel
theorem dX12_truncate_14 : decode cX12_truncate 14 = .ok (.aload_n 0, 1) := by decide +kernel
theorem dX12_truncate_15 : decode cX12_truncate 15 = .ok (.iload_n 1, 1) := by decide +kernel
theorem dX12_truncate_16 : decode cX12_truncate 16 = .ok (.putfield 57, 3) := by decide +kernel
theorem dX12_truncate_19 : decode cX12_truncate 19 = .ok (.iconst 1, 1) := by decide +kernel
theorem dX12_truncate_20 : decode cX12_truncate 20 = .ok (.ireturn, 1) := by decide +kernel
theorem dX12_parseBakery_0 : decode cX12_parseBakery 0 = .ok (.aload_n 0, 1) := by decide +kernel
theorem dX12_parseBakery_1 : decode cX12_parseBakery 1 = .ok (.getfield 16, 3) := by decide +kernel
theorem dX12_parseBakery_4 : decode cX12_parseBakery 4 = .ok (.aload_n 0, 1) := by decide +kernel
theorem dX12_parseBakery_5 : decode cX12_parseBakery 5 = .ok (.getfield 9, 3) := by decide +kernel
theorem dX12_parseBakery_8 : decode cX12_parseBakery 8 = .ok (.aload_n 0, 1) := by decide +kernel
theorem dX12_parseBakery_9 : decode cX12_parseBakery 9 = .ok (.getfield 57, 3) := by decide +kernel
theorem dX12_parseBakery_12 : decode cX12_parseBakery 12 = .ok (.aload_n 0, 1) := by decide +kernel
theorem dX12_parseBakery_13 : decode cX12_parseBakery 13 = .ok (.getfield 27, 3) := by decide +kernel
theorem dX12_parseBakery_16 : decode cX12_parseBakery 16 = .ok (.invokevirtual 65, 3) := by decide +kernel
theorem dX12_parseBakery_19 : decode cX12_parseBakery 19 = .ok (.istore_n 1, 1) := by decide +kernel
theorem dX12_parseBakery_20 : decode cX12_parseBakery 20 = .ok (.aload_n 0, 1) := by decide +kernel
theorem dX12_parseBakery_21 : decode cX12_parseBakery 21 = .ok (.iconst 0, 1) := by decide +kernel
theorem dX12_parseBakery_22 : decode cX12_parseBakery 22 = .ok (.putfield 57, 3) := by decide +kernel
theorem dX12_parseBakery_25 : decode cX12_parseBakery 25 = .ok (.iload_n 1, 1) := by decide +kernel
theorem dX12_parseBakery_26 : decode cX12_parseBakery 26 = .ok (.iconst (-1), 1) := by decide +kernel
theorem dX12_parseBakery_27 : decode cX12_parseBakery 27 = .ok (.if_icmp .ne 5, 3) := by decide +kernel
theorem dX12_parseBakery_30 : decode cX12_parseBakery 30 = .ok (.iconst (-1), 1) := by decide +kernel
theorem dX12_parseBakery_31 : decode cX12_parseBakery 31 = .ok (.ireturn, 1) := by decide +kernel
theorem dX12_parseBakery_32 : decode cX12_parseBakery 32 = .ok (.aload_n 0, 1) := by decide +kernel
theorem dX12_parseBakery_33 : decode cX12_parseBakery 33 = .ok (.getfield 23, 3) := by decide +kernel
theorem dX12_parseBakery_36 : decode cX12_parseBakery 36 = .ok (.astore_n 2, 1) := by decide +kernel
theorem dX12_parseBakery_37 : decode cX12_parseBakery 37 = .ok (.aload_n 0, 1) := by decide +kernel
theorem dX12_parseBakery_38 : decode cX12_parseBakery 38 = .ok (.aload_n 0, 1) := by decide +kernel
theorem dX12_parseBakery_39 : decode cX12_parseBakery 39 = .ok (.getfield 27, 3) := by decide +kernel
theorem dX12_parseBakery_42 : decode cX12_parseBakery 42 = .ok (.putfield 23, 3) := by decide +kernel
theorem dX12_parseBakery_45 : decode cX12_parseBakery 45 = .ok (.aload_n 0, 1) := by decide +kernel
theorem dX12_parseBakery_46 : decode cX12_parseBakery 46 = .ok (.aload_n 2, 1) := by decide +kernel
theorem dX12_parseBakery_47 : decode cX12_parseBakery 47 = .ok (.putfield 27, 3) := by decide +kernel
theorem dX12_parseBakery_50 : decode cX12_parseBakery 50 = .ok (.aload_n 0, 1) := by decide +kernel
theorem dX12_parseBakery_51 : decode cX12_parseBakery 51 = .ok (.getfield 33, 3) := by decide +kernel
theorem dX12_parseBakery_54 : decode cX12_parseBakery 54 = .ok (.invokevirtual 69, 3) := by decide +kernel
theorem dX12_parseBakery_57 : decode cX12_parseBakery 57 = .ok (.aload_n 0, 1) := by decide +kernel
theorem dX12_parseBakery_58 : decode cX12_parseBakery 58 = .ok (.invokevirtual 72, 3) := by decide +kernel
theorem dX12_parseBakery_61 : decode cX12_parseBakery 61 = .ok (.iload_n 1, 1) := by decide +kernel
theorem dX12_parseBakery_62 : decode cX12_parseBakery 62 = .ok (.ireturn, 1) := by decide +kernel
theorem dX12_errorCode_0 : decode cX12_errorCode 0 = .ok (.aload_n 0, 1) := by decide +kernel
theorem dX12_errorCode_1 : decode cX12_errorCode 1 = .ok (.getfield 16, 3) := by decide +kernel
theorem dX12_errorCode_4 : decode cX12_errorCode 4 = .ok (.getfield 75, 3) := by decide +kernel
theorem dX12_errorCode_7 : decode cX12_errorCode 7 = .ok (.ireturn, 1) := by decide +kernel
theorem dX12_orderCount_0 : decode cX12_orderCount 0 = .ok (.aload_n 0, 1) := by decide +kernel
theorem dX12_orderCount_1 : decode cX12_orderCount 1 = .ok (.getfield 23, 3) := by decide +kernel
theorem dX12_orderCount_4 : decode cX12_orderCount 4 = .ok (.getfield 81, 3) := by decide +kernel
theorem dX12_orderCount_7 : decode cX12_orderCount 7 = .ok (.ireturn, 1) := by decide +kernel
theorem dX12_orderedLoaves_0 : decode cX12_orderedLoaves 0 = .ok (.aload_n 0, 1) := by decide +kernel
theorem dX12_orderedLoaves_1 : decode cX12_orderedLoaves 1 = .ok (.getfield 23, 3) := by decide +kernel
theorem dX12_orderedLoaves_4 : decode cX12_orderedLoaves 4 = .ok (.iload_n 1, 1) := by decide +kernel
theorem dX12_orderedLoaves_5 : decode cX12_orderedLoaves 5 = .ok (.invokevirtual 84, 3) := by decide +kernel
theorem dX12_orderedLoaves_8 : decode cX12_orderedLoaves 8 = .ok (.ifCond .eq 14, 3) := by decide +kernel
theorem dX12_orderedLoaves_11 : decode cX12_orderedLoaves 11 = .ok (.aload_n 0, 1) := by decide +kernel
theorem dX12_orderedLoaves_12 : decode cX12_orderedLoaves 12 = .ok (.getfield 23, 3) := by decide +kernel
theorem dX12_orderedLoaves_15 : decode cX12_orderedLoaves 15 = .ok (.iload_n 1, 1) := by decide +kernel
theorem dX12_orderedLoaves_16 : decode cX12_orderedLoaves 16 = .ok (.invokevirtual 88, 3) := by decide +kernel
theorem dX12_orderedLoaves_19 : decode cX12_orderedLoaves 19 = .ok (.goto 4, 3) := by decide +kernel
theorem dX12_orderedLoaves_22 : decode cX12_orderedLoaves 22 = .ok (.iconst (-1), 1) := by decide +kernel
theorem dX12_orderedLoaves_23 : decode cX12_orderedLoaves 23 = .ok (.ireturn, 1) := by decide +kernel
theorem dX12_batchCount_0 : decode cX12_batchCount 0 = .ok (.aload_n 0, 1) := by decide +kernel
theorem dX12_batchCount_1 : decode cX12_batchCount 1 = .ok (.getfield 23, 3) := by decide +kernel
theorem dX12_batchCount_4 : decode cX12_batchCount 4 = .ok (.invokevirtual 92, 3) := by decide +kernel
theorem dX12_batchCount_7 : decode cX12_batchCount 7 = .ok (.istore_n 1, 1) := by decide +kernel
theorem dX12_batchCount_8 : decode cX12_batchCount 8 = .ok (.iload_n 1, 1) := by decide +kernel
theorem dX12_batchCount_9 : decode cX12_batchCount 9 = .ok (.bipush 60, 2) := by decide +kernel
theorem dX12_batchCount_11 : decode cX12_batchCount 11 = .ok (.if_icmp .le 8, 3) := by decide +kernel
theorem dX12_batchCount_14 : decode cX12_batchCount 14 = .ok (.bipush (-3), 2) := by decide +kernel
theorem dX12_batchCount_16 : decode cX12_batchCount 16 = .ok (.goto 4, 3) := by decide +kernel
theorem dX12_batchCount_19 : decode cX12_batchCount 19 = .ok (.iload_n 1, 1) := by decide +kernel
theorem dX12_batchCount_20 : decode cX12_batchCount 20 = .ok (.ireturn, 1) := by decide +kernel
theorem dX12_routeMinutes_0 : decode cX12_routeMinutes 0 = .ok (.iload_n 1, 1) := by decide +kernel
theorem dX12_routeMinutes_1 : decode cX12_routeMinutes 1 = .ok (.aload_n 0, 1) := by decide +kernel
theorem dX12_routeMinutes_2 : decode cX12_routeMinutes 2 = .ok (.getfield 23, 3) := by decide +kernel
theorem dX12_routeMinutes_5 : decode cX12_routeMinutes 5 = .ok (.invokevirtual 128, 3) := by decide +kernel
theorem dX12_routeMinutes_8 : decode cX12_routeMinutes 8 = .ok (.iconst (-1), 1) := by decide +kernel
theorem dX12_routeMinutes_9 : decode cX12_routeMinutes 9 = .ok (.ixor, 1) := by decide +kernel
theorem dX12_routeMinutes_10 : decode cX12_routeMinutes 10 = .ok (.iand, 1) := by decide +kernel
theorem dX12_routeMinutes_11 : decode cX12_routeMinutes 11 = .ok (.ifCond .eq 5, 3) := by decide +kernel
theorem dX12_routeMinutes_14 : decode cX12_routeMinutes 14 = .ok (.iconst (-1), 1) := by decide +kernel
theorem dX12_routeMinutes_15 : decode cX12_routeMinutes 15 = .ok (.ireturn, 1) := by decide +kernel
theorem dX12_routeMinutes_16 : decode cX12_routeMinutes 16 = .ok (.aload_n 0, 1) := by decide +kernel
theorem dX12_routeMinutes_17 : decode cX12_routeMinutes 17 = .ok (.getfield 23, 3) := by decide +kernel
theorem dX12_routeMinutes_20 : decode cX12_routeMinutes 20 = .ok (.getfield 114, 3) := by decide +kernel
theorem dX12_routeMinutes_23 : decode cX12_routeMinutes 23 = .ok (.bipush 7, 2) := by decide +kernel
theorem dX12_routeMinutes_25 : decode cX12_routeMinutes 25 = .ok (.iload_n 1, 1) := by decide +kernel
theorem dX12_routeMinutes_26 : decode cX12_routeMinutes 26 = .ok (.invokevirtual 131, 3) := by decide +kernel
theorem dX12_routeMinutes_29 : decode cX12_routeMinutes 29 = .ok (.istore_n 2, 1) := by decide +kernel
theorem dX12_routeMinutes_30 : decode cX12_routeMinutes 30 = .ok (.iload_n 2, 1) := by decide +kernel
theorem dX12_routeMinutes_31 : decode cX12_routeMinutes 31 = .ok (.ldc 124, 2) := by decide +kernel
theorem dX12_routeMinutes_33 : decode cX12_routeMinutes 33 = .ok (.if_icmp .lt 7, 3) := by decide +kernel
theorem dX12_routeMinutes_36 : decode cX12_routeMinutes 36 = .ok (.iconst (-1), 1) := by decide +kernel
theorem dX12_routeMinutes_37 : decode cX12_routeMinutes 37 = .ok (.goto 4, 3) := by decide +kernel
theorem dX12_routeMinutes_40 : decode cX12_routeMinutes 40 = .ok (.iload_n 2, 1) := by decide +kernel
theorem dX12_routeMinutes_41 : decode cX12_routeMinutes 41 = .ok (.ireturn, 1) := by decide +kernel
theorem dX12_simulate_0 : decode cX12_simulate 0 = .ok (.iload_n 1, 1) := by decide +kernel
theorem dX12_simulate_1 : decode cX12_simulate 1 = .ok (.ifCond .lt 10, 3) := by decide +kernel
theorem dX12_simulate_4 : decode cX12_simulate 4 = .ok (.iload_n 1, 1) := by decide +kernel
theorem dX12_simulate_5 : decode cX12_simulate 5 = .ok (.sipush 1439, 3) := by decide +kernel
theorem dX12_simulate_8 : decode cX12_simulate 8 = .ok (.if_icmp .le 5, 3) := by decide +kernel
theorem dX12_simulate_11 : decode cX12_simulate 11 = .ok (.iconst (-1), 1) := by decide +kernel
theorem dX12_simulate_12 : decode cX12_simulate 12 = .ok (.ireturn, 1) := by decide +kernel
theorem dX12_simulate_13 : decode cX12_simulate 13 = .ok (.aload_n 0, 1) := by decide +kernel
theorem dX12_simulate_14 : decode cX12_simulate 14 = .ok (.invokevirtual 145, 3) := by decide +kernel
theorem dX12_simulate_17 : decode cX12_simulate 17 = .ok (.bipush (-3), 2) := by decide +kernel
theorem dX12_simulate_19 : decode cX12_simulate 19 = .ok (.if_icmp .ne 6, 3) := by decide +kernel
theorem dX12_simulate_22 : decode cX12_simulate 22 = .ok (.bipush (-3), 2) := by decide +kernel
theorem dX12_simulate_24 : decode cX12_simulate 24 = .ok (.ireturn, 1) := by decide +kernel
theorem dX12_simulate_25 : decode cX12_simulate 25 = .ok (.aload_n 0, 1) := by decide +kernel
theorem dX12_simulate_26 : decode cX12_simulate 26 = .ok (.getfield 40, 3) := by decide +kernel
theorem dX12_simulate_29 : decode cX12_simulate 29 = .ok (.aload_n 0, 1) := by decide +kernel
theorem dX12_simulate_30 : decode cX12_simulate 30 = .ok (.getfield 23, 3) := by decide +kernel
theorem dX12_simulate_33 : decode cX12_simulate 33 = .ok (.iload_n 1, 1) := by decide +kernel
theorem dX12_simulate_34 : decode cX12_simulate 34 = .ok (.invokevirtual 148, 3) := by decide +kernel
theorem dX12_simulate_37 : decode cX12_simulate 37 = .ok (.aload_n 0, 1) := by decide +kernel
theorem dX12_simulate_38 : decode cX12_simulate 38 = .ok (.iconst 1, 1) := by decide +kernel
theorem dX12_simulate_39 : decode cX12_simulate 39 = .ok (.putfield 152, 3) := by decide +kernel
theorem dX12_simulate_42 : decode cX12_simulate 42 = .ok (.aload_n 0, 1) := by decide +kernel
theorem dX12_simulate_43 : decode cX12_simulate 43 = .ok (.iconst 0, 1) := by decide +kernel
theorem dX12_simulate_44 : decode cX12_simulate 44 = .ok (.putfield 156, 3) := by decide +kernel
theorem dX12_simulate_47 : decode cX12_simulate 47 = .ok (.aload_n 0, 1) := by decide +kernel
theorem dX12_simulate_48 : decode cX12_simulate 48 = .ok (.getfield 40, 3) := by decide +kernel
theorem dX12_simulate_51 : decode cX12_simulate 51 = .ok (.getfield 159, 3) := by decide +kernel
theorem dX12_simulate_54 : decode cX12_simulate 54 = .ok (.ireturn, 1) := by decide +kernel
theorem dX12_dropNight_0 : decode cX12_dropNight 0 = .ok (.aload_n 0, 1) := by decide +kernel
theorem dX12_dropNight_1 : decode cX12_dropNight 1 = .ok (.iconst 0, 1) := by decide +kernel
theorem dX12_dropNight_2 : decode cX12_dropNight 2 = .ok (.putfield 152, 3) := by decide +kernel
theorem dX12_dropNight_5 : decode cX12_dropNight 5 = .ok (.return_, 1) := by decide +kernel
theorem dX12_batchDough_0 : decode cX12_batchDough 0 = .ok (.aload_n 0, 1) := by decide +kernel
theorem dX12_batchDough_1 : decode cX12_batchDough 1 = .ok (.getfield 152, 3) := by decide +kernel
theorem dX12_batchDough_4 : decode cX12_batchDough 4 = .ok (.ifCond .ne 13, 3) := by decide +kernel
theorem dX12_batchDough_7 : decode cX12_batchDough 7 = .ok (.new 162, 3) := by decide +kernel
theorem dX12_batchDough_10 : decode cX12_batchDough 10 = .ok (.dup, 1) := by decide +kernel
theorem dX12_batchDough_11 : decode cX12_batchDough 11 = .ok (.ldc 164, 2) := by decide +kernel
theorem dX12_batchDough_13 : decode cX12_batchDough 13 = .ok (.invokespecial 166, 3) := by decide +kernel
theorem dX12_batchDough_16 : decode cX12_batchDough 16 = .ok (.athrow, 1) := by decide +kernel
theorem dX12_batchDough_17 : decode cX12_batchDough 17 = .ok (.aload_n 0, 1) := by decide +kernel
theorem dX12_batchDough_18 : decode cX12_batchDough 18 = .ok (.getfield 40, 3) := by decide +kernel
theorem dX12_batchDough_21 : decode cX12_batchDough 21 = .ok (.iload_n 1, 1) := by decide +kernel
theorem dX12_batchDough_22 : decode cX12_batchDough 22 = .ok (.invokevirtual 169, 3) := by decide +kernel
theorem dX12_batchDough_25 : decode cX12_batchDough 25 = .ok (.ifCond .ne 13, 3) := by decide +kernel
theorem dX12_batchDough_28 : decode cX12_batchDough 28 = .ok (.new 172, 3) := by decide +kernel
theorem dX12_batchDough_31 : decode cX12_batchDough 31 = .ok (.dup, 1) := by decide +kernel
theorem dX12_batchDough_32 : decode cX12_batchDough 32 = .ok (.ldc 174, 2) := by decide +kernel
theorem dX12_batchDough_34 : decode cX12_batchDough 34 = .ok (.invokespecial 176, 3) := by decide +kernel
theorem dX12_batchDough_37 : decode cX12_batchDough 37 = .ok (.athrow, 1) := by decide +kernel
theorem dX12_batchDough_38 : decode cX12_batchDough 38 = .ok (.aload_n 0, 1) := by decide +kernel
theorem dX12_batchDough_39 : decode cX12_batchDough 39 = .ok (.getfield 40, 3) := by decide +kernel
theorem dX12_batchDough_42 : decode cX12_batchDough 42 = .ok (.getfield 177, 3) := by decide +kernel
theorem dX12_batchDough_45 : decode cX12_batchDough 45 = .ok (.iload_n 1, 1) := by decide +kernel
theorem dX12_batchDough_46 : decode cX12_batchDough 46 = .ok (.iaload, 1) := by decide +kernel
theorem dX12_batchDough_47 : decode cX12_batchDough 47 = .ok (.ireturn, 1) := by decide +kernel
theorem dX12_stageMinute_0 : decode cX12_stageMinute 0 = .ok (.aload_n 0, 1) := by decide +kernel
theorem dX12_stageMinute_1 : decode cX12_stageMinute 1 = .ok (.getfield 152, 3) := by decide +kernel
theorem dX12_stageMinute_4 : decode cX12_stageMinute 4 = .ok (.ifCond .ne 13, 3) := by decide +kernel
theorem dX12_stageMinute_7 : decode cX12_stageMinute 7 = .ok (.new 162, 3) := by decide +kernel
theorem dX12_stageMinute_10 : decode cX12_stageMinute 10 = .ok (.dup, 1) := by decide +kernel
theorem dX12_stageMinute_11 : decode cX12_stageMinute 11 = .ok (.ldc 164, 2) := by decide +kernel
theorem dX12_stageMinute_13 : decode cX12_stageMinute 13 = .ok (.invokespecial 166, 3) := by decide +kernel
theorem dX12_stageMinute_16 : decode cX12_stageMinute 16 = .ok (.athrow, 1) := by decide +kernel
theorem dX12_stageMinute_17 : decode cX12_stageMinute 17 = .ok (.aload_n 0, 1) := by decide +kernel
theorem dX12_stageMinute_18 : decode cX12_stageMinute 18 = .ok (.getfield 40, 3) := by decide +kernel
theorem dX12_stageMinute_21 : decode cX12_stageMinute 21 = .ok (.iload_n 1, 1) := by decide +kernel
theorem dX12_stageMinute_22 : decode cX12_stageMinute 22 = .ok (.invokevirtual 169, 3) := by decide +kernel
theorem dX12_stageMinute_25 : decode cX12_stageMinute 25 = .ok (.ifCond .ne 13, 3) := by decide +kernel
theorem dX12_stageMinute_28 : decode cX12_stageMinute 28 = .ok (.new 172, 3) := by decide +kernel
theorem dX12_stageMinute_31 : decode cX12_stageMinute 31 = .ok (.dup, 1) := by decide +kernel
theorem dX12_stageMinute_32 : decode cX12_stageMinute 32 = .ok (.ldc 174, 2) := by decide +kernel
theorem dX12_stageMinute_34 : decode cX12_stageMinute 34 = .ok (.invokespecial 176, 3) := by decide +kernel
theorem dX12_stageMinute_37 : decode cX12_stageMinute 37 = .ok (.athrow, 1) := by decide +kernel
theorem dX12_stageMinute_38 : decode cX12_stageMinute 38 = .ok (.iload_n 2, 1) := by decide +kernel
theorem dX12_stageMinute_39 : decode cX12_stageMinute 39 = .ok (.ifCond .lt 9, 3) := by decide +kernel
theorem dX12_stageMinute_42 : decode cX12_stageMinute 42 = .ok (.iload_n 2, 1) := by decide +kernel
theorem dX12_stageMinute_43 : decode cX12_stageMinute 43 = .ok (.bipush 6, 2) := by decide +kernel
theorem dX12_stageMinute_45 : decode cX12_stageMinute 45 = .ok (.if_icmp .lt 13, 3) := by decide +kernel
theorem dX12_stageMinute_48 : decode cX12_stageMinute 48 = .ok (.new 172, 3) := by decide +kernel
theorem dX12_stageMinute_51 : decode cX12_stageMinute 51 = .ok (.dup, 1) := by decide +kernel
theorem dX12_stageMinute_52 : decode cX12_stageMinute 52 = .ok (.ldc 181, 2) := by decide +kernel
theorem dX12_stageMinute_54 : decode cX12_stageMinute 54 = .ok (.invokespecial 176, 3) := by decide +kernel
theorem dX12_stageMinute_57 : decode cX12_stageMinute 57 = .ok (.athrow, 1) := by decide +kernel
theorem dX12_stageMinute_58 : decode cX12_stageMinute 58 = .ok (.aload_n 0, 1) := by decide +kernel
theorem dX12_stageMinute_59 : decode cX12_stageMinute 59 = .ok (.getfield 40, 3) := by decide +kernel
theorem dX12_stageMinute_62 : decode cX12_stageMinute 62 = .ok (.getfield 183, 3) := by decide +kernel
theorem dX12_stageMinute_65 : decode cX12_stageMinute 65 = .ok (.iload_n 2, 1) := by decide +kernel
theorem dX12_stageMinute_66 : decode cX12_stageMinute 66 = .ok (.aaload, 1) := by decide +kernel
theorem dX12_stageMinute_67 : decode cX12_stageMinute 67 = .ok (.iload_n 1, 1) := by decide +kernel
theorem dX12_stageMinute_68 : decode cX12_stageMinute 68 = .ok (.iaload, 1) := by decide +kernel
theorem dX12_stageMinute_69 : decode cX12_stageMinute 69 = .ok (.ireturn, 1) := by decide +kernel
theorem dX12_ovenOf_0 : decode cX12_ovenOf 0 = .ok (.aload_n 0, 1) := by decide +kernel
theorem dX12_ovenOf_1 : decode cX12_ovenOf 1 = .ok (.getfield 152, 3) := by decide +kernel
theorem dX12_ovenOf_4 : decode cX12_ovenOf 4 = .ok (.ifCond .ne 13, 3) := by decide +kernel
theorem dX12_ovenOf_7 : decode cX12_ovenOf 7 = .ok (.new 162, 3) := by decide +kernel
theorem dX12_ovenOf_10 : decode cX12_ovenOf 10 = .ok (.dup, 1) := by decide +kernel
theorem dX12_ovenOf_11 : decode cX12_ovenOf 11 = .ok (.ldc 164, 2) := by decide +kernel
theorem dX12_ovenOf_13 : decode cX12_ovenOf 13 = .ok (.invokespecial 166, 3) := by decide +kernel
theorem dX12_ovenOf_16 : decode cX12_ovenOf 16 = .ok (.athrow, 1) := by decide +kernel
theorem dX12_ovenOf_17 : decode cX12_ovenOf 17 = .ok (.aload_n 0, 1) := by decide +kernel
theorem dX12_ovenOf_18 : decode cX12_ovenOf 18 = .ok (.getfield 40, 3) := by decide +kernel
theorem dX12_ovenOf_21 : decode cX12_ovenOf 21 = .ok (.iload_n 1, 1) := by decide +kernel
theorem dX12_ovenOf_22 : decode cX12_ovenOf 22 = .ok (.invokevirtual 169, 3) := by decide +kernel
theorem dX12_ovenOf_25 : decode cX12_ovenOf 25 = .ok (.ifCond .ne 13, 3) := by decide +kernel
theorem dX12_ovenOf_28 : decode cX12_ovenOf 28 = .ok (.new 172, 3) := by decide +kernel
theorem dX12_ovenOf_31 : decode cX12_ovenOf 31 = .ok (.dup, 1) := by decide +kernel
theorem dX12_ovenOf_32 : decode cX12_ovenOf 32 = .ok (.ldc 174, 2) := by decide +kernel
theorem dX12_ovenOf_34 : decode cX12_ovenOf 34 = .ok (.invokespecial 176, 3) := by decide +kernel
theorem dX12_ovenOf_37 : decode cX12_ovenOf 37 = .ok (.athrow, 1) := by decide +kernel
theorem dX12_ovenOf_38 : decode cX12_ovenOf 38 = .ok (.aload_n 0, 1) := by decide +kernel
theorem dX12_ovenOf_39 : decode cX12_ovenOf 39 = .ok (.getfield 40, 3) := by decide +kernel
theorem dX12_ovenOf_42 : decode cX12_ovenOf 42 = .ok (.getfield 187, 3) := by decide +kernel
theorem dX12_ovenOf_45 : decode cX12_ovenOf 45 = .ok (.iload_n 1, 1) := by decide +kernel
theorem dX12_ovenOf_46 : decode cX12_ovenOf 46 = .ok (.iaload, 1) := by decide +kernel
theorem dX12_ovenOf_47 : decode cX12_ovenOf 47 = .ok (.ireturn, 1) := by decide +kernel
theorem dX12_spoiledCount_0 : decode cX12_spoiledCount 0 = .ok (.aload_n 0, 1) := by decide +kernel
theorem dX12_spoiledCount_1 : decode cX12_spoiledCount 1 = .ok (.getfield 152, 3) := by decide +kernel
theorem dX12_spoiledCount_4 : decode cX12_spoiledCount 4 = .ok (.ifCond .eq 13, 3) := by decide +kernel
theorem dX12_spoiledCount_7 : decode cX12_spoiledCount 7 = .ok (.aload_n 0, 1) := by decide +kernel
theorem dX12_spoiledCount_8 : decode cX12_spoiledCount 8 = .ok (.getfield 40, 3) := by decide +kernel
theorem dX12_spoiledCount_11 : decode cX12_spoiledCount 11 = .ok (.invokevirtual 190, 3) := by decide +kernel
theorem dX12_spoiledCount_14 : decode cX12_spoiledCount 14 = .ok (.goto 5, 3) := by decide +kernel
theorem dX12_spoiledCount_17 : decode cX12_spoiledCount 17 = .ok (.bipush (-2), 2) := by decide +kernel
theorem dX12_spoiledCount_19 : decode cX12_spoiledCount 19 = .ok (.ireturn, 1) := by decide +kernel
theorem dX12_changingMinutes_0 : decode cX12_changingMinutes 0 = .ok (.aload_n 0, 1) := by decide +kernel
theorem dX12_changingMinutes_1 : decode cX12_changingMinutes 1 = .ok (.getfield 152, 3) := by decide +kernel
theorem dX12_changingMinutes_4 : decode cX12_changingMinutes 4 = .ok (.ifCond .ne 6, 3) := by decide +kernel
theorem dX12_changingMinutes_7 : decode cX12_changingMinutes 7 = .ok (.bipush (-2), 2) := by decide +kernel
theorem dX12_changingMinutes_9 : decode cX12_changingMinutes 9 = .ok (.ireturn, 1) := by decide +kernel
theorem dX12_changingMinutes_10 : decode cX12_changingMinutes 10 = .ok (.aload_n 0, 1) := by decide +kernel
theorem dX12_changingMinutes_11 : decode cX12_changingMinutes 11 = .ok (.getfield 23, 3) := by decide +kernel
theorem dX12_changingMinutes_14 : decode cX12_changingMinutes 14 = .ok (.iload_n 1, 1) := by decide +kernel
theorem dX12_changingMinutes_15 : decode cX12_changingMinutes 15 = .ok (.invokevirtual 193, 3) := by decide +kernel
theorem dX12_changingMinutes_18 : decode cX12_changingMinutes 18 = .ok (.ifCond .eq 15, 3) := by decide +kernel
theorem dX12_changingMinutes_21 : decode cX12_changingMinutes 21 = .ok (.aload_n 0, 1) := by decide +kernel
theorem dX12_changingMinutes_22 : decode cX12_changingMinutes 22 = .ok (.getfield 40, 3) := by decide +kernel
theorem dX12_changingMinutes_25 : decode cX12_changingMinutes 25 = .ok (.getfield 196, 3) := by decide +kernel
theorem dX12_changingMinutes_28 : decode cX12_changingMinutes 28 = .ok (.iload_n 1, 1) := by decide +kernel
theorem dX12_changingMinutes_29 : decode cX12_changingMinutes 29 = .ok (.iaload, 1) := by decide +kernel
theorem dX12_changingMinutes_30 : decode cX12_changingMinutes 30 = .ok (.goto 4, 3) := by decide +kernel
theorem dX12_changingMinutes_33 : decode cX12_changingMinutes 33 = .ok (.iconst (-1), 1) := by decide +kernel
theorem dX12_changingMinutes_34 : decode cX12_changingMinutes 34 = .ok (.ireturn, 1) := by decide +kernel
theorem dX12_bakingMinutes_0 : decode cX12_bakingMinutes 0 = .ok (.aload_n 0, 1) := by decide +kernel
theorem dX12_bakingMinutes_1 : decode cX12_bakingMinutes 1 = .ok (.getfield 152, 3) := by decide +kernel
theorem dX12_bakingMinutes_4 : decode cX12_bakingMinutes 4 = .ok (.ifCond .ne 6, 3) := by decide +kernel
theorem dX12_bakingMinutes_7 : decode cX12_bakingMinutes 7 = .ok (.bipush (-2), 2) := by decide +kernel
theorem dX12_bakingMinutes_9 : decode cX12_bakingMinutes 9 = .ok (.ireturn, 1) := by decide +kernel
theorem dX12_bakingMinutes_10 : decode cX12_bakingMinutes 10 = .ok (.aload_n 0, 1) := by decide +kernel
theorem dX12_bakingMinutes_11 : decode cX12_bakingMinutes 11 = .ok (.getfield 23, 3) := by decide +kernel
theorem dX12_bakingMinutes_14 : decode cX12_bakingMinutes 14 = .ok (.iload_n 1, 1) := by decide +kernel
theorem dX12_bakingMinutes_15 : decode cX12_bakingMinutes 15 = .ok (.invokevirtual 193, 3) := by decide +kernel
theorem dX12_bakingMinutes_18 : decode cX12_bakingMinutes 18 = .ok (.ifCond .eq 14, 3) := by decide +kernel
theorem dX12_bakingMinutes_21 : decode cX12_bakingMinutes 21 = .ok (.aload_n 0, 1) := by decide +kernel
theorem dX12_bakingMinutes_22 : decode cX12_bakingMinutes 22 = .ok (.getfield 40, 3) := by decide +kernel
theorem dX12_bakingMinutes_25 : decode cX12_bakingMinutes 25 = .ok (.iload_n 1, 1) := by decide +kernel
theorem dX12_bakingMinutes_26 : decode cX12_bakingMinutes 26 = .ok (.invokevirtual 199, 3) := by decide +kernel
theorem dX12_bakingMinutes_29 : decode cX12_bakingMinutes 29 = .ok (.goto 4, 3) := by decide +kernel
theorem dX12_bakingMinutes_32 : decode cX12_bakingMinutes 32 = .ok (.iconst (-1), 1) := by decide +kernel
theorem dX12_bakingMinutes_33 : decode cX12_bakingMinutes 33 = .ok (.ireturn, 1) := by decide +kernel
theorem dX12_waitingMinutes_0 : decode cX12_waitingMinutes 0 = .ok (.aload_n 0, 1) := by decide +kernel
theorem dX12_waitingMinutes_1 : decode cX12_waitingMinutes 1 = .ok (.getfield 152, 3) := by decide +kernel
theorem dX12_waitingMinutes_4 : decode cX12_waitingMinutes 4 = .ok (.ifCond .ne 6, 3) := by decide +kernel
theorem dX12_waitingMinutes_7 : decode cX12_waitingMinutes 7 = .ok (.bipush (-2), 2) := by decide +kernel
theorem dX12_waitingMinutes_9 : decode cX12_waitingMinutes 9 = .ok (.ireturn, 1) := by decide +kernel
theorem dX12_waitingMinutes_10 : decode cX12_waitingMinutes 10 = .ok (.iload_n 1, 1) := by decide +kernel
theorem dX12_waitingMinutes_11 : decode cX12_waitingMinutes 11 = .ok (.invokestatic 202, 3) := by decide +kernel
theorem dX12_waitingMinutes_14 : decode cX12_waitingMinutes 14 = .ok (.ifCond .eq 14, 3) := by decide +kernel
theorem dX12_waitingMinutes_17 : decode cX12_waitingMinutes 17 = .ok (.aload_n 0, 1) := by decide +kernel
theorem dX12_waitingMinutes_18 : decode cX12_waitingMinutes 18 = .ok (.getfield 40, 3) := by decide +kernel
theorem dX12_waitingMinutes_21 : decode cX12_waitingMinutes 21 = .ok (.iload_n 1, 1) := by decide +kernel
theorem dX12_waitingMinutes_22 : decode cX12_waitingMinutes 22 = .ok (.invokevirtual 205, 3) := by decide +kernel
theorem dX12_waitingMinutes_25 : decode cX12_waitingMinutes 25 = .ok (.goto 4, 3) := by decide +kernel
theorem dX12_waitingMinutes_28 : decode cX12_waitingMinutes 28 = .ok (.iconst (-1), 1) := by decide +kernel
theorem dX12_waitingMinutes_29 : decode cX12_waitingMinutes 29 = .ok (.ireturn, 1) := by decide +kernel
theorem dX12_readyMinute_0 : decode cX12_readyMinute 0 = .ok (.aload_n 0, 1) := by decide +kernel
theorem dX12_readyMinute_1 : decode cX12_readyMinute 1 = .ok (.getfield 152, 3) := by decide +kernel
theorem dX12_readyMinute_4 : decode cX12_readyMinute 4 = .ok (.ifCond .ne 6, 3) := by decide +kernel
theorem dX12_readyMinute_7 : decode cX12_readyMinute 7 = .ok (.bipush (-2), 2) := by decide +kernel
theorem dX12_readyMinute_9 : decode cX12_readyMinute 9 = .ok (.ireturn, 1) := by decide +kernel
theorem dX12_readyMinute_10 : decode cX12_readyMinute 10 = .ok (.aload_n 0, 1) := by decide +kernel
theorem dX12_readyMinute_11 : decode cX12_readyMinute 11 = .ok (.getfield 23, 3) := by decide +kernel
theorem dX12_readyMinute_14 : decode cX12_readyMinute 14 = .ok (.iload_n 1, 1) := by decide +kernel
theorem dX12_readyMinute_15 : decode cX12_readyMinute 15 = .ok (.invokevirtual 220, 3) := by decide +kernel
theorem dX12_readyMinute_18 : decode cX12_readyMinute 18 = .ok (.ifCond .eq 15, 3) := by decide +kernel
theorem dX12_readyMinute_21 : decode cX12_readyMinute 21 = .ok (.aload_n 0, 1) := by decide +kernel
theorem dX12_readyMinute_22 : decode cX12_readyMinute 22 = .ok (.getfield 40, 3) := by decide +kernel
theorem dX12_readyMinute_25 : decode cX12_readyMinute 25 = .ok (.getfield 223, 3) := by decide +kernel
theorem dX12_readyMinute_28 : decode cX12_readyMinute 28 = .ok (.iload_n 1, 1) := by decide +kernel
theorem dX12_readyMinute_29 : decode cX12_readyMinute 29 = .ok (.iaload, 1) := by decide +kernel
theorem dX12_readyMinute_30 : decode cX12_readyMinute 30 = .ok (.goto 4, 3) := by decide +kernel
theorem dX12_readyMinute_33 : decode cX12_readyMinute 33 = .ok (.iconst (-1), 1) := by decide +kernel
theorem dX12_readyMinute_34 : decode cX12_readyMinute 34 = .ok (.ireturn, 1) := by decide +kernel
theorem dX12_surplusLoaves_0 : decode cX12_surplusLoaves 0 = .ok (.aload_n 0, 1) := by decide +kernel
theorem dX12_surplusLoaves_1 : decode cX12_surplusLoaves 1 = .ok (.getfield 152, 3) := by decide +kernel
theorem dX12_surplusLoaves_4 : decode cX12_surplusLoaves 4 = .ok (.ifCond .ne 6, 3) := by decide +kernel
theorem dX12_surplusLoaves_7 : decode cX12_surplusLoaves 7 = .ok (.bipush (-2), 2) := by decide +kernel
theorem dX12_surplusLoaves_9 : decode cX12_surplusLoaves 9 = .ok (.ireturn, 1) := by decide +kernel
theorem dX12_surplusLoaves_10 : decode cX12_surplusLoaves 10 = .ok (.aload_n 0, 1) := by decide +kernel
theorem dX12_surplusLoaves_11 : decode cX12_surplusLoaves 11 = .ok (.getfield 23, 3) := by decide +kernel
theorem dX12_surplusLoaves_14 : decode cX12_surplusLoaves 14 = .ok (.iload_n 1, 1) := by decide +kernel
theorem dX12_surplusLoaves_15 : decode cX12_surplusLoaves 15 = .ok (.invokevirtual 84, 3) := by decide +kernel
theorem dX12_surplusLoaves_18 : decode cX12_surplusLoaves 18 = .ok (.ifCond .eq 18, 3) := by decide +kernel
theorem dX12_surplusLoaves_21 : decode cX12_surplusLoaves 21 = .ok (.aload_n 0, 1) := by decide +kernel
theorem dX12_surplusLoaves_22 : decode cX12_surplusLoaves 22 = .ok (.getfield 40, 3) := by decide +kernel
theorem dX12_surplusLoaves_25 : decode cX12_surplusLoaves 25 = .ok (.aload_n 0, 1) := by decide +kernel
theorem dX12_surplusLoaves_26 : decode cX12_surplusLoaves 26 = .ok (.getfield 23, 3) := by decide +kernel
theorem dX12_surplusLoaves_29 : decode cX12_surplusLoaves 29 = .ok (.iload_n 1, 1) := by decide +kernel
theorem dX12_surplusLoaves_30 : decode cX12_surplusLoaves 30 = .ok (.invokevirtual 226, 3) := by decide +kernel
theorem dX12_surplusLoaves_33 : decode cX12_surplusLoaves 33 = .ok (.goto 4, 3) := by decide +kernel
theorem dX12_surplusLoaves_36 : decode cX12_surplusLoaves 36 = .ok (.iconst (-1), 1) := by decide +kernel
theorem dX12_surplusLoaves_37 : decode cX12_surplusLoaves 37 = .ok (.ireturn, 1) := by decide +kernel
theorem dX12_surplusValue_0 : decode cX12_surplusValue 0 = .ok (.aload_n 0, 1) := by decide +kernel
theorem dX12_surplusValue_1 : decode cX12_surplusValue 1 = .ok (.getfield 152, 3) := by decide +kernel
theorem dX12_surplusValue_4 : decode cX12_surplusValue 4 = .ok (.ifCond .ne 6, 3) := by decide +kernel
theorem dX12_surplusValue_7 : decode cX12_surplusValue 7 = .ok (.bipush (-2), 2) := by decide +kernel
theorem dX12_surplusValue_9 : decode cX12_surplusValue 9 = .ok (.ireturn, 1) := by decide +kernel
theorem dX12_surplusValue_10 : decode cX12_surplusValue 10 = .ok (.iload_n 1, 1) := by decide +kernel
theorem dX12_surplusValue_11 : decode cX12_surplusValue 11 = .ok (.ifCond .lt 10, 3) := by decide +kernel
theorem dX12_surplusValue_14 : decode cX12_surplusValue 14 = .ok (.iload_n 1, 1) := by decide +kernel
theorem dX12_surplusValue_15 : decode cX12_surplusValue 15 = .ok (.sipush 9999, 3) := by decide +kernel
theorem dX12_surplusValue_18 : decode cX12_surplusValue 18 = .ok (.if_icmp .le 5, 3) := by decide +kernel
theorem dX12_surplusValue_21 : decode cX12_surplusValue 21 = .ok (.iconst (-1), 1) := by decide +kernel
theorem dX12_surplusValue_22 : decode cX12_surplusValue 22 = .ok (.ireturn, 1) := by decide +kernel
theorem dX12_surplusValue_23 : decode cX12_surplusValue 23 = .ok (.iconst 0, 1) := by decide +kernel
theorem dX12_surplusValue_24 : decode cX12_surplusValue 24 = .ok (.istore_n 2, 1) := by decide +kernel
theorem dX12_surplusValue_25 : decode cX12_surplusValue 25 = .ok (.iconst 0, 1) := by decide +kernel
theorem dX12_surplusValue_26 : decode cX12_surplusValue 26 = .ok (.istore_n 3, 1) := by decide +kernel
theorem dX12_surplusValue_27 : decode cX12_surplusValue 27 = .ok (.iload_n 3, 1) := by decide +kernel
theorem dX12_surplusValue_28 : decode cX12_surplusValue 28 = .ok (.aload_n 0, 1) := by decide +kernel
theorem dX12_surplusValue_29 : decode cX12_surplusValue 29 = .ok (.getfield 23, 3) := by decide +kernel
theorem dX12_surplusValue_32 : decode cX12_surplusValue 32 = .ok (.getfield 230, 3) := by decide +kernel
theorem dX12_surplusValue_35 : decode cX12_surplusValue 35 = .ok (.if_icmp .ge 25, 3) := by decide +kernel
theorem dX12_surplusValue_38 : decode cX12_surplusValue 38 = .ok (.iload_n 2, 1) := by decide +kernel
theorem dX12_surplusValue_39 : decode cX12_surplusValue 39 = .ok (.aload_n 0, 1) := by decide +kernel
theorem dX12_surplusValue_40 : decode cX12_surplusValue 40 = .ok (.getfield 40, 3) := by decide +kernel
theorem dX12_surplusValue_43 : decode cX12_surplusValue 43 = .ok (.aload_n 0, 1) := by decide +kernel
theorem dX12_surplusValue_44 : decode cX12_surplusValue 44 = .ok (.getfield 23, 3) := by decide +kernel
theorem dX12_surplusValue_47 : decode cX12_surplusValue 47 = .ok (.iload_n 3, 1) := by decide +kernel
theorem dX12_surplusValue_48 : decode cX12_surplusValue 48 = .ok (.iload_n 1, 1) := by decide +kernel
theorem dX12_surplusValue_49 : decode cX12_surplusValue 49 = .ok (.invokevirtual 233, 3) := by decide +kernel
theorem dX12_surplusValue_52 : decode cX12_surplusValue 52 = .ok (.iadd, 1) := by decide +kernel
theorem dX12_surplusValue_53 : decode cX12_surplusValue 53 = .ok (.istore_n 2, 1) := by decide +kernel
theorem dX12_surplusValue_54 : decode cX12_surplusValue 54 = .ok (.iinc 3 1, 3) := by decide +kernel
theorem dX12_surplusValue_57 : decode cX12_surplusValue 57 = .ok (.goto (-30), 3) := by decide +kernel
theorem dX12_surplusValue_60 : decode cX12_surplusValue 60 = .ok (.iload_n 2, 1) := by decide +kernel
theorem dX12_surplusValue_61 : decode cX12_surplusValue 61 = .ok (.ireturn, 1) := by decide +kernel
theorem dX12_bestPlan_0 : decode cX12_bestPlan 0 = .ok (.aload_n 0, 1) := by decide +kernel
theorem dX12_bestPlan_1 : decode cX12_bestPlan 1 = .ok (.getfield 156, 3) := by decide +kernel
theorem dX12_bestPlan_4 : decode cX12_bestPlan 4 = .ok (.ifCond .ne 34, 3) := by decide +kernel
theorem dX12_bestPlan_7 : decode cX12_bestPlan 7 = .ok (.aload_n 0, 1) := by decide +kernel
theorem dX12_bestPlan_8 : decode cX12_bestPlan 8 = .ok (.getfield 47, 3) := by decide +kernel
theorem dX12_bestPlan_11 : decode cX12_bestPlan 11 = .ok (.aload_n 0, 1) := by decide +kernel
theorem dX12_bestPlan_12 : decode cX12_bestPlan 12 = .ok (.getfield 23, 3) := by decide +kernel
theorem dX12_bestPlan_15 : decode cX12_bestPlan 15 = .ok (.aload_n 0, 1) := by decide +kernel
theorem dX12_bestPlan_16 : decode cX12_bestPlan 16 = .ok (.getfield 40, 3) := by decide +kernel
theorem dX12_bestPlan_19 : decode cX12_bestPlan 19 = .ok (.invokevirtual 237, 3) := by decide +kernel
theorem dX12_bestPlan_22 : decode cX12_bestPlan 22 = .ok (.aload_n 0, 1) := by decide +kernel
theorem dX12_bestPlan_23 : decode cX12_bestPlan 23 = .ok (.getfield 47, 3) := by decide +kernel
theorem dX12_bestPlan_26 : decode cX12_bestPlan 26 = .ok (.aload_n 0, 1) := by decide +kernel
theorem dX12_bestPlan_27 : decode cX12_bestPlan 27 = .ok (.getfield 23, 3) := by decide +kernel
theorem dX12_bestPlan_30 : decode cX12_bestPlan 30 = .ok (.invokevirtual 241, 3) := by decide +kernel
theorem dX12_bestPlan_33 : decode cX12_bestPlan 33 = .ok (.aload_n 0, 1) := by decide +kernel
theorem dX12_bestPlan_34 : decode cX12_bestPlan 34 = .ok (.iconst 1, 1) := by decide +kernel
theorem dX12_bestPlan_35 : decode cX12_bestPlan 35 = .ok (.putfield 156, 3) := by decide +kernel
theorem dX12_bestPlan_38 : decode cX12_bestPlan 38 = .ok (.aload_n 0, 1) := by decide +kernel
theorem dX12_bestPlan_39 : decode cX12_bestPlan 39 = .ok (.getfield 47, 3) := by decide +kernel
theorem dX12_bestPlan_42 : decode cX12_bestPlan 42 = .ok (.areturn, 1) := by decide +kernel
theorem dX12_failedShops_0 : decode cX12_failedShops 0 = .ok (.aload_n 0, 1) := by decide +kernel
theorem dX12_failedShops_1 : decode cX12_failedShops 1 = .ok (.getfield 152, 3) := by decide +kernel
theorem dX12_failedShops_4 : decode cX12_failedShops 4 = .ok (.ifCond .ne 6, 3) := by decide +kernel
theorem dX12_failedShops_7 : decode cX12_failedShops 7 = .ok (.bipush (-2), 2) := by decide +kernel
theorem dX12_failedShops_9 : decode cX12_failedShops 9 = .ok (.ireturn, 1) := by decide +kernel
theorem dX12_failedShops_10 : decode cX12_failedShops 10 = .ok (.aload_n 0, 1) := by decide +kernel
theorem dX12_failedShops_11 : decode cX12_failedShops 11 = .ok (.invokevirtual 245, 3) := by decide +kernel
theorem dX12_failedShops_14 : decode cX12_failedShops 14 = .ok (.astore_n 1, 1) := by decide +kernel
theorem dX12_failedShops_15 : decode cX12_failedShops 15 = .ok (.aload_n 1, 1) := by decide +kernel
theorem dX12_failedShops_16 : decode cX12_failedShops 16 = .ok (.getfield 249, 3) := by decide +kernel
theorem dX12_failedShops_19 : decode cX12_failedShops 19 = .ok (.ifCond .eq 15, 3) := by decide +kernel
theorem dX12_failedShops_22 : decode cX12_failedShops 22 = .ok (.aload_n 1, 1) := by decide +kernel
theorem dX12_failedShops_23 : decode cX12_failedShops 23 = .ok (.invokevirtual 252, 3) := by decide +kernel
theorem dX12_failedShops_26 : decode cX12_failedShops 26 = .ok (.aload_n 1, 1) := by decide +kernel
theorem dX12_failedShops_27 : decode cX12_failedShops 27 = .ok (.getfield 255, 3) := by decide +kernel
theorem dX12_failedShops_30 : decode cX12_failedShops 30 = .ok (.iadd, 1) := by decide +kernel
theorem dX12_failedShops_31 : decode cX12_failedShops 31 = .ok (.goto 4, 3) := by decide +kernel
theorem dX12_failedShops_34 : decode cX12_failedShops 34 = .ok (.iconst (-1), 1) := by decide +kernel
theorem dX12_failedShops_35 : decode cX12_failedShops 35 = .ok (.ireturn, 1) := by decide +kernel
theorem dX12_latestStart_0 : decode cX12_latestStart 0 = .ok (.aload_n 0, 1) := by decide +kernel
theorem dX12_latestStart_1 : decode cX12_latestStart 1 = .ok (.invokevirtual 145, 3) := by decide +kernel
theorem dX12_latestStart_4 : decode cX12_latestStart 4 = .ok (.bipush (-3), 2) := by decide +kernel
theorem dX12_latestStart_6 : decode cX12_latestStart 6 = .ok (.if_icmp .ne 8, 3) := by decide +kernel
theorem dX12_latestStart_9 : decode cX12_latestStart 9 = .ok (.bipush (-3), 2) := by decide +kernel
theorem dX12_latestStart_11 : decode cX12_latestStart 11 = .ok (.goto 7, 3) := by decide +kernel
theorem dX12_latestStart_14 : decode cX12_latestStart 14 = .ok (.aload_n 0, 1) := by decide +kernel
theorem dX12_latestStart_15 : decode cX12_latestStart 15 = .ok (.invokevirtual 274, 3) := by decide +kernel
theorem dX12_latestStart_18 : decode cX12_latestStart 18 = .ok (.ireturn, 1) := by decide +kernel
theorem dX12_latestStartWith_0 : decode cX12_latestStartWith 0 = .ok (.iload_n 1, 1) := by decide +kernel
theorem dX12_latestStartWith_1 : decode cX12_latestStartWith 1 = .ok (.ifCond .lt 8, 3) := by decide +kernel
theorem dX12_latestStartWith_4 : decode cX12_latestStartWith 4 = .ok (.iload_n 1, 1) := by decide +kernel
theorem dX12_latestStartWith_5 : decode cX12_latestStartWith 5 = .ok (.iconst 5, 1) := by decide +kernel
theorem dX12_latestStartWith_6 : decode cX12_latestStartWith 6 = .ok (.if_icmp .lt 5, 3) := by decide +kernel
theorem dX12_latestStartWith_9 : decode cX12_latestStartWith 9 = .ok (.iconst (-1), 1) := by decide +kernel
theorem dX12_latestStartWith_10 : decode cX12_latestStartWith 10 = .ok (.ireturn, 1) := by decide +kernel
theorem dX12_latestStartWith_11 : decode cX12_latestStartWith 11 = .ok (.aload_n 0, 1) := by decide +kernel
theorem dX12_latestStartWith_12 : decode cX12_latestStartWith 12 = .ok (.invokevirtual 145, 3) := by decide +kernel
theorem dX12_latestStartWith_15 : decode cX12_latestStartWith 15 = .ok (.bipush (-3), 2) := by decide +kernel
theorem dX12_latestStartWith_17 : decode cX12_latestStartWith 17 = .ok (.if_icmp .ne 6, 3) := by decide +kernel
theorem dX12_latestStartWith_20 : decode cX12_latestStartWith 20 = .ok (.bipush (-3), 2) := by decide +kernel
theorem dX12_latestStartWith_22 : decode cX12_latestStartWith 22 = .ok (.ireturn, 1) := by decide +kernel
theorem dX12_latestStartWith_23 : decode cX12_latestStartWith 23 = .ok (.aload_n 0, 1) := by decide +kernel
theorem dX12_latestStartWith_24 : decode cX12_latestStartWith 24 = .ok (.getfield 23, 3) := by decide +kernel
theorem dX12_latestStartWith_27 : decode cX12_latestStartWith 27 = .ok (.iload_n 1, 1) := by decide +kernel
theorem dX12_latestStartWith_28 : decode cX12_latestStartWith 28 = .ok (.iconst 1, 1) := by decide +kernel
theorem dX12_latestStartWith_29 : decode cX12_latestStartWith 29 = .ok (.invokevirtual 277, 3) := by decide +kernel
theorem dX12_latestStartWith_32 : decode cX12_latestStartWith 32 = .ok (.aload_n 0, 1) := by decide +kernel
theorem dX12_latestStartWith_33 : decode cX12_latestStartWith 33 = .ok (.invokevirtual 274, 3) := by decide +kernel
theorem dX12_latestStartWith_36 : decode cX12_latestStartWith 36 = .ok (.istore_n 2, 1) := by decide +kernel
theorem dX12_latestStartWith_37 : decode cX12_latestStartWith 37 = .ok (.aload_n 0, 1) := by decide +kernel
theorem dX12_latestStartWith_38 : decode cX12_latestStartWith 38 = .ok (.getfield 23, 3) := by decide +kernel
theorem dX12_latestStartWith_41 : decode cX12_latestStartWith 41 = .ok (.iload_n 1, 1) := by decide +kernel
theorem dX12_latestStartWith_42 : decode cX12_latestStartWith 42 = .ok (.iconst (-1), 1) := by decide +kernel
theorem dX12_latestStartWith_43 : decode cX12_latestStartWith 43 = .ok (.invokevirtual 277, 3) := by decide +kernel
theorem dX12_latestStartWith_46 : decode cX12_latestStartWith 46 = .ok (.iload_n 2, 1) := by decide +kernel
theorem dX12_latestStartWith_47 : decode cX12_latestStartWith 47 = .ok (.ireturn, 1) := by decide +kernel
theorem dX12_vitalStreet_0 : decode cX12_vitalStreet 0 = .ok (.aload_n 0, 1) := by decide +kernel
theorem dX12_vitalStreet_1 : decode cX12_vitalStreet 1 = .ok (.invokevirtual 145, 3) := by decide +kernel
theorem dX12_vitalStreet_4 : decode cX12_vitalStreet 4 = .ok (.bipush (-3), 2) := by decide +kernel
theorem dX12_vitalStreet_6 : decode cX12_vitalStreet 6 = .ok (.if_icmp .ne 6, 3) := by decide +kernel
theorem dX12_vitalStreet_9 : decode cX12_vitalStreet 9 = .ok (.bipush (-3), 2) := by decide +kernel
theorem dX12_vitalStreet_11 : decode cX12_vitalStreet 11 = .ok (.ireturn, 1) := by decide +kernel
theorem dX12_vitalStreet_12 : decode cX12_vitalStreet 12 = .ok (.aload_n 0, 1) := by decide +kernel
theorem dX12_vitalStreet_13 : decode cX12_vitalStreet 13 = .ok (.invokevirtual 274, 3) := by decide +kernel
theorem dX12_vitalStreet_16 : decode cX12_vitalStreet 16 = .ok (.istore_n 1, 1) := by decide +kernel
theorem dX12_vitalStreet_17 : decode cX12_vitalStreet 17 = .ok (.iconst (-1), 1) := by decide +kernel
theorem dX12_vitalStreet_18 : decode cX12_vitalStreet 18 = .ok (.istore_n 2, 1) := by decide +kernel
theorem dX12_vitalStreet_19 : decode cX12_vitalStreet 19 = .ok (.iload_n 1, 1) := by decide +kernel
theorem dX12_vitalStreet_20 : decode cX12_vitalStreet 20 = .ok (.iconst (-1), 1) := by decide +kernel
theorem dX12_vitalStreet_21 : decode cX12_vitalStreet 21 = .ok (.if_icmp .ne 5, 3) := by decide +kernel
theorem dX12_vitalStreet_24 : decode cX12_vitalStreet 24 = .ok (.iconst (-1), 1) := by decide +kernel
theorem dX12_vitalStreet_25 : decode cX12_vitalStreet 25 = .ok (.ireturn, 1) := by decide +kernel
theorem dX12_vitalStreet_26 : decode cX12_vitalStreet 26 = .ok (.aload_n 0, 1) := by decide +kernel
theorem dX12_vitalStreet_27 : decode cX12_vitalStreet 27 = .ok (.getfield 23, 3) := by decide +kernel
theorem dX12_vitalStreet_30 : decode cX12_vitalStreet 30 = .ok (.getfield 114, 3) := by decide +kernel
theorem dX12_vitalStreet_33 : decode cX12_vitalStreet 33 = .ok (.astore_n 3, 1) := by decide +kernel
theorem dX12_vitalStreet_34 : decode cX12_vitalStreet 34 = .ok (.iconst 0, 1) := by decide +kernel
theorem dX12_vitalStreet_35 : decode cX12_vitalStreet 35 = .ok (.istore 4, 2) := by decide +kernel
theorem dX12_vitalStreet_37 : decode cX12_vitalStreet 37 = .ok (.iload 4, 2) := by decide +kernel
theorem dX12_vitalStreet_39 : decode cX12_vitalStreet 39 = .ok (.aload_n 3, 1) := by decide +kernel
theorem dX12_vitalStreet_40 : decode cX12_vitalStreet 40 = .ok (.getfield 281, 3) := by decide +kernel
theorem dX12_vitalStreet_43 : decode cX12_vitalStreet 43 = .ok (.if_icmp .ge 57, 3) := by decide +kernel
theorem dX12_vitalStreet_46 : decode cX12_vitalStreet 46 = .ok (.aload_n 3, 1) := by decide +kernel
theorem dX12_vitalStreet_47 : decode cX12_vitalStreet 47 = .ok (.getfield 284, 3) := by decide +kernel
theorem dX12_vitalStreet_50 : decode cX12_vitalStreet 50 = .ok (.iload 4, 2) := by decide +kernel
theorem dX12_vitalStreet_52 : decode cX12_vitalStreet 52 = .ok (.baload, 1) := by decide +kernel
theorem dX12_vitalStreet_53 : decode cX12_vitalStreet 53 = .ok (.ifCond .ne 41, 3) := by decide +kernel
theorem dX12_vitalStreet_56 : decode cX12_vitalStreet 56 = .ok (.aload_n 3, 1) := by decide +kernel
theorem dX12_vitalStreet_57 : decode cX12_vitalStreet 57 = .ok (.aload_n 0, 1) := by decide +kernel
theorem dX12_vitalStreet_58 : decode cX12_vitalStreet 58 = .ok (.getfield 23, 3) := by decide +kernel
theorem dX12_vitalStreet_61 : decode cX12_vitalStreet 61 = .ok (.getfield 288, 3) := by decide +kernel
theorem dX12_vitalStreet_64 : decode cX12_vitalStreet 64 = .ok (.iload 4, 2) := by decide +kernel
theorem dX12_vitalStreet_66 : decode cX12_vitalStreet 66 = .ok (.invokevirtual 291, 3) := by decide +kernel
theorem dX12_vitalStreet_69 : decode cX12_vitalStreet 69 = .ok (.aload_n 0, 1) := by decide +kernel
theorem dX12_vitalStreet_70 : decode cX12_vitalStreet 70 = .ok (.getfield 54, 3) := by decide +kernel
theorem dX12_vitalStreet_73 : decode cX12_vitalStreet 73 = .ok (.aload_n 0, 1) := by decide +kernel
theorem dX12_vitalStreet_74 : decode cX12_vitalStreet 74 = .ok (.getfield 23, 3) := by decide +kernel
theorem dX12_vitalStreet_77 : decode cX12_vitalStreet 77 = .ok (.invokevirtual 294, 3) := by decide +kernel
theorem dX12_vitalStreet_80 : decode cX12_vitalStreet 80 = .ok (.istore 5, 2) := by decide +kernel
theorem dX12_vitalStreet_82 : decode cX12_vitalStreet 82 = .ok (.iload 5, 2) := by decide +kernel
theorem dX12_vitalStreet_84 : decode cX12_vitalStreet 84 = .ok (.iload_n 1, 1) := by decide +kernel
theorem dX12_vitalStreet_85 : decode cX12_vitalStreet 85 = .ok (.if_icmp .ge 9, 3) := by decide +kernel
theorem dX12_vitalStreet_88 : decode cX12_vitalStreet 88 = .ok (.iload 5, 2) := by decide +kernel
theorem dX12_vitalStreet_90 : decode cX12_vitalStreet 90 = .ok (.istore_n 1, 1) := by decide +kernel
theorem dX12_vitalStreet_91 : decode cX12_vitalStreet 91 = .ok (.iload 4, 2) := by decide +kernel
theorem dX12_vitalStreet_93 : decode cX12_vitalStreet 93 = .ok (.istore_n 2, 1) := by decide +kernel
theorem dX12_vitalStreet_94 : decode cX12_vitalStreet 94 = .ok (.iinc 4 1, 3) := by decide +kernel
theorem dX12_vitalStreet_97 : decode cX12_vitalStreet 97 = .ok (.goto (-60), 3) := by decide +kernel
theorem dX12_vitalStreet_100 : decode cX12_vitalStreet 100 = .ok (.aload_n 3, 1) := by decide +kernel
theorem dX12_vitalStreet_101 : decode cX12_vitalStreet 101 = .ok (.aload_n 0, 1) := by decide +kernel
theorem dX12_vitalStreet_102 : decode cX12_vitalStreet 102 = .ok (.getfield 23, 3) := by decide +kernel
theorem dX12_vitalStreet_105 : decode cX12_vitalStreet 105 = .ok (.getfield 288, 3) := by decide +kernel
theorem dX12_vitalStreet_108 : decode cX12_vitalStreet 108 = .ok (.iconst (-1), 1) := by decide +kernel
theorem dX12_vitalStreet_109 : decode cX12_vitalStreet 109 = .ok (.invokevirtual 291, 3) := by decide +kernel
theorem dX12_vitalStreet_112 : decode cX12_vitalStreet 112 = .ok (.iload_n 2, 1) := by decide +kernel
theorem dX12_vitalStreet_113 : decode cX12_vitalStreet 113 = .ok (.ireturn, 1) := by decide +kernel
theorem dX12_latestAsItIs_0 : decode cX12_latestAsItIs 0 = .ok (.aload_n 0, 1) := by decide +kernel
theorem dX12_latestAsItIs_1 : decode cX12_latestAsItIs 1 = .ok (.getfield 51, 3) := by decide +kernel
theorem dX12_latestAsItIs_4 : decode cX12_latestAsItIs 4 = .ok (.aload_n 0, 1) := by decide +kernel
theorem dX12_latestAsItIs_5 : decode cX12_latestAsItIs 5 = .ok (.getfield 23, 3) := by decide +kernel
theorem dX12_latestAsItIs_8 : decode cX12_latestAsItIs 8 = .ok (.iconst 0, 1) := by decide +kernel
theorem dX12_latestAsItIs_9 : decode cX12_latestAsItIs 9 = .ok (.invokevirtual 148, 3) := by decide +kernel
theorem dX12_latestAsItIs_12 : decode cX12_latestAsItIs 12 = .ok (.aload_n 0, 1) := by decide +kernel
theorem dX12_latestAsItIs_13 : decode cX12_latestAsItIs 13 = .ok (.getfield 54, 3) := by decide +kernel
theorem dX12_latestAsItIs_16 : decode cX12_latestAsItIs 16 = .ok (.aload_n 0, 1) := by decide +kernel
theorem dX12_latestAsItIs_17 : decode cX12_latestAsItIs 17 = .ok (.getfield 23, 3) := by decide +kernel
theorem dX12_latestAsItIs_20 : decode cX12_latestAsItIs 20 = .ok (.aload_n 0, 1) := by decide +kernel
theorem dX12_latestAsItIs_21 : decode cX12_latestAsItIs 21 = .ok (.getfield 51, 3) := by decide +kernel
theorem dX12_latestAsItIs_24 : decode cX12_latestAsItIs 24 = .ok (.invokevirtual 237, 3) := by decide +kernel
theorem dX12_latestAsItIs_27 : decode cX12_latestAsItIs 27 = .ok (.aload_n 0, 1) := by decide +kernel
theorem dX12_latestAsItIs_28 : decode cX12_latestAsItIs 28 = .ok (.getfield 54, 3) := by decide +kernel
theorem dX12_latestAsItIs_31 : decode cX12_latestAsItIs 31 = .ok (.aload_n 0, 1) := by decide +kernel
theorem dX12_latestAsItIs_32 : decode cX12_latestAsItIs 32 = .ok (.getfield 23, 3) := by decide +kernel
theorem dX12_latestAsItIs_35 : decode cX12_latestAsItIs 35 = .ok (.invokevirtual 294, 3) := by decide +kernel
theorem dX12_latestAsItIs_38 : decode cX12_latestAsItIs 38 = .ok (.ireturn, 1) := by decide +kernel
theorem dX12_recordChange_0 : decode cX12_recordChange 0 = .ok (.aload_n 0, 1) := by decide +kernel
theorem dX12_recordChange_1 : decode cX12_recordChange 1 = .ok (.getfield 33, 3) := by decide +kernel
theorem dX12_recordChange_4 : decode cX12_recordChange 4 = .ok (.iload_n 1, 1) := by decide +kernel
theorem dX12_recordChange_5 : decode cX12_recordChange 5 = .ok (.iload_n 2, 1) := by decide +kernel
theorem dX12_recordChange_6 : decode cX12_recordChange 6 = .ok (.iload_n 3, 1) := by decide +kernel
theorem dX12_recordChange_7 : decode cX12_recordChange 7 = .ok (.invokevirtual 298, 3) := by decide +kernel
theorem dX12_recordChange_10 : decode cX12_recordChange 10 = .ok (.aload_n 0, 1) := by decide +kernel
theorem dX12_recordChange_11 : decode cX12_recordChange 11 = .ok (.invokevirtual 72, 3) := by decide +kernel
theorem dX12_recordChange_14 : decode cX12_recordChange 14 = .ok (.return_, 1) := by decide +kernel
theorem dX12_setRoom_0 : decode cX12_setRoom 0 = .ok (.iload_n 1, 1) := by decide +kernel
theorem dX12_setRoom_1 : decode cX12_setRoom 1 = .ok (.bipush 10, 2) := by decide +kernel
theorem dX12_setRoom_3 : decode cX12_setRoom 3 = .ok (.if_icmp .lt 9, 3) := by decide +kernel
theorem dX12_setRoom_6 : decode cX12_setRoom 6 = .ok (.iload_n 1, 1) := by decide +kernel
theorem dX12_setRoom_7 : decode cX12_setRoom 7 = .ok (.bipush 40, 2) := by decide +kernel
theorem dX12_setRoom_9 : decode cX12_setRoom 9 = .ok (.if_icmp .le 5, 3) := by decide +kernel
theorem dX12_setRoom_12 : decode cX12_setRoom 12 = .ok (.iconst (-1), 1) := by decide +kernel
theorem dX12_setRoom_13 : decode cX12_setRoom 13 = .ok (.ireturn, 1) := by decide +kernel
theorem dX12_setRoom_14 : decode cX12_setRoom 14 = .ok (.aload_n 0, 1) := by decide +kernel
theorem dX12_setRoom_15 : decode cX12_setRoom 15 = .ok (.getfield 23, 3) := by decide +kernel
theorem dX12_setRoom_18 : decode cX12_setRoom 18 = .ok (.getfield 302, 3) := by decide +kernel
theorem dX12_setRoom_21 : decode cX12_setRoom 21 = .ok (.istore_n 2, 1) := by decide +kernel
theorem dX12_setRoom_22 : decode cX12_setRoom 22 = .ok (.aload_n 0, 1) := by decide +kernel
theorem dX12_setRoom_23 : decode cX12_setRoom 23 = .ok (.getfield 23, 3) := by decide +kernel
theorem dX12_setRoom_26 : decode cX12_setRoom 26 = .ok (.iload_n 1, 1) := by decide +kernel
theorem dX12_setRoom_27 : decode cX12_setRoom 27 = .ok (.putfield 302, 3) := by decide +kernel
theorem dX12_setRoom_30 : decode cX12_setRoom 30 = .ok (.aload_n 0, 1) := by decide +kernel
theorem dX12_setRoom_31 : decode cX12_setRoom 31 = .ok (.iconst 0, 1) := by decide +kernel
theorem dX12_setRoom_32 : decode cX12_setRoom 32 = .ok (.iconst 0, 1) := by decide +kernel
theorem dX12_setRoom_33 : decode cX12_setRoom 33 = .ok (.iload_n 2, 1) := by decide +kernel
theorem dX12_setRoom_34 : decode cX12_setRoom 34 = .ok (.invokevirtual 305, 3) := by decide +kernel
theorem dX12_setRoom_37 : decode cX12_setRoom 37 = .ok (.iload_n 2, 1) := by decide +kernel
theorem dX12_setRoom_38 : decode cX12_setRoom 38 = .ok (.ireturn, 1) := by decide +kernel
theorem dX12_breakOven_0 : decode cX12_breakOven 0 = .ok (.aload_n 0, 1) := by decide +kernel
theorem dX12_breakOven_1 : decode cX12_breakOven 1 = .ok (.getfield 23, 3) := by decide +kernel
theorem dX12_breakOven_4 : decode cX12_breakOven 4 = .ok (.iload_n 1, 1) := by decide +kernel
theorem dX12_breakOven_5 : decode cX12_breakOven 5 = .ok (.invokevirtual 193, 3) := by decide +kernel
theorem dX12_breakOven_8 : decode cX12_breakOven 8 = .ok (.ifCond .ne 5, 3) := by decide +kernel
theorem dX12_breakOven_11 : decode cX12_breakOven 11 = .ok (.iconst 0, 1) := by decide +kernel
theorem dX12_breakOven_12 : decode cX12_breakOven 12 = .ok (.ireturn, 1) := by decide +kernel
theorem dX12_breakOven_13 : decode cX12_breakOven 13 = .ok (.aload_n 0, 1) := by decide +kernel
theorem dX12_breakOven_14 : decode cX12_breakOven 14 = .ok (.getfield 23, 3) := by decide +kernel
theorem dX12_breakOven_17 : decode cX12_breakOven 17 = .ok (.getfield 308, 3) := by decide +kernel
theorem dX12_breakOven_20 : decode cX12_breakOven 20 = .ok (.iload_n 1, 1) := by decide +kernel
theorem dX12_breakOven_21 : decode cX12_breakOven 21 = .ok (.aaload, 1) := by decide +kernel
theorem dX12_breakOven_22 : decode cX12_breakOven 22 = .ok (.getfield 312, 3) := by decide +kernel
theorem dX12_breakOven_25 : decode cX12_breakOven 25 = .ok (.ifCond .eq 7, 3) := by decide +kernel
theorem dX12_breakOven_28 : decode cX12_breakOven 28 = .ok (.iconst 1, 1) := by decide +kernel
theorem dX12_breakOven_29 : decode cX12_breakOven 29 = .ok (.goto 4, 3) := by decide +kernel
theorem dX12_breakOven_32 : decode cX12_breakOven 32 = .ok (.iconst 0, 1) := by decide +kernel
theorem dX12_breakOven_33 : decode cX12_breakOven 33 = .ok (.istore_n 3, 1) := by decide +kernel
theorem dX12_breakOven_34 : decode cX12_breakOven 34 = .ok (.aload_n 0, 1) := by decide +kernel
theorem dX12_breakOven_35 : decode cX12_breakOven 35 = .ok (.getfield 23, 3) := by decide +kernel
theorem dX12_breakOven_38 : decode cX12_breakOven 38 = .ok (.getfield 308, 3) := by decide +kernel
theorem dX12_breakOven_41 : decode cX12_breakOven 41 = .ok (.iload_n 1, 1) := by decide +kernel
theorem dX12_breakOven_42 : decode cX12_breakOven 42 = .ok (.aaload, 1) := by decide +kernel
theorem dX12_breakOven_43 : decode cX12_breakOven 43 = .ok (.iload_n 2, 1) := by decide +kernel
theorem dX12_breakOven_44 : decode cX12_breakOven 44 = .ok (.putfield 312, 3) := by decide +kernel
theorem dX12_breakOven_47 : decode cX12_breakOven 47 = .ok (.aload_n 0, 1) := by decide +kernel
theorem dX12_breakOven_48 : decode cX12_breakOven 48 = .ok (.iconst 1, 1) := by decide +kernel
theorem dX12_breakOven_49 : decode cX12_breakOven 49 = .ok (.iload_n 1, 1) := by decide +kernel
theorem dX12_breakOven_50 : decode cX12_breakOven 50 = .ok (.iload_n 3, 1) := by decide +kernel
theorem dX12_breakOven_51 : decode cX12_breakOven 51 = .ok (.invokevirtual 305, 3) := by decide +kernel
theorem dX12_breakOven_54 : decode cX12_breakOven 54 = .ok (.iconst 1, 1) := by decide +kernel
theorem dX12_breakOven_55 : decode cX12_breakOven 55 = .ok (.ireturn, 1) := by decide +kernel
theorem dX12_closeStreet_0 : decode cX12_closeStreet 0 = .ok (.iload_n 1, 1) := by decide +kernel
theorem dX12_closeStreet_1 : decode cX12_closeStreet 1 = .ok (.ifCond .lt 17, 3) := by decide +kernel
theorem dX12_closeStreet_4 : decode cX12_closeStreet 4 = .ok (.iload_n 1, 1) := by decide +kernel
theorem dX12_closeStreet_5 : decode cX12_closeStreet 5 = .ok (.aload_n 0, 1) := by decide +kernel
theorem dX12_closeStreet_6 : decode cX12_closeStreet 6 = .ok (.getfield 23, 3) := by decide +kernel
theorem dX12_closeStreet_9 : decode cX12_closeStreet 9 = .ok (.getfield 114, 3) := by decide +kernel
theorem dX12_closeStreet_12 : decode cX12_closeStreet 12 = .ok (.getfield 281, 3) := by decide +kernel
theorem dX12_closeStreet_15 : decode cX12_closeStreet 15 = .ok (.if_icmp .lt 5, 3) := by decide +kernel
theorem dX12_closeStreet_18 : decode cX12_closeStreet 18 = .ok (.iconst 0, 1) := by decide +kernel
theorem dX12_closeStreet_19 : decode cX12_closeStreet 19 = .ok (.ireturn, 1) := by decide +kernel
theorem dX12_closeStreet_20 : decode cX12_closeStreet 20 = .ok (.aload_n 0, 1) := by decide +kernel
theorem dX12_closeStreet_21 : decode cX12_closeStreet 21 = .ok (.getfield 23, 3) := by decide +kernel
theorem dX12_closeStreet_24 : decode cX12_closeStreet 24 = .ok (.getfield 114, 3) := by decide +kernel
theorem dX12_closeStreet_27 : decode cX12_closeStreet 27 = .ok (.getfield 284, 3) := by decide +kernel
theorem dX12_closeStreet_30 : decode cX12_closeStreet 30 = .ok (.iload_n 1, 1) := by decide +kernel
theorem dX12_closeStreet_31 : decode cX12_closeStreet 31 = .ok (.baload, 1) := by decide +kernel
theorem dX12_closeStreet_32 : decode cX12_closeStreet 32 = .ok (.ifCond .eq 7, 3) := by decide +kernel
theorem dX12_closeStreet_35 : decode cX12_closeStreet 35 = .ok (.iconst 1, 1) := by decide +kernel
theorem dX12_closeStreet_36 : decode cX12_closeStreet 36 = .ok (.goto 4, 3) := by decide +kernel
theorem dX12_closeStreet_39 : decode cX12_closeStreet 39 = .ok (.iconst 0, 1) := by decide +kernel
theorem dX12_closeStreet_40 : decode cX12_closeStreet 40 = .ok (.istore_n 3, 1) := by decide +kernel
theorem dX12_closeStreet_41 : decode cX12_closeStreet 41 = .ok (.aload_n 0, 1) := by decide +kernel
theorem dX12_closeStreet_42 : decode cX12_closeStreet 42 = .ok (.getfield 23, 3) := by decide +kernel
theorem dX12_closeStreet_45 : decode cX12_closeStreet 45 = .ok (.iload_n 1, 1) := by decide +kernel
theorem dX12_closeStreet_46 : decode cX12_closeStreet 46 = .ok (.iload_n 2, 1) := by decide +kernel
theorem dX12_closeStreet_47 : decode cX12_closeStreet 47 = .ok (.invokevirtual 317, 3) := by decide +kernel
theorem dX12_closeStreet_50 : decode cX12_closeStreet 50 = .ok (.aload_n 0, 1) := by decide +kernel
theorem dX12_closeStreet_51 : decode cX12_closeStreet 51 = .ok (.iconst 2, 1) := by decide +kernel
theorem dX12_closeStreet_52 : decode cX12_closeStreet 52 = .ok (.iload_n 1, 1) := by decide +kernel
theorem dX12_closeStreet_53 : decode cX12_closeStreet 53 = .ok (.iload_n 3, 1) := by decide +kernel
theorem dX12_closeStreet_54 : decode cX12_closeStreet 54 = .ok (.invokevirtual 305, 3) := by decide +kernel
theorem dX12_closeStreet_57 : decode cX12_closeStreet 57 = .ok (.iconst 1, 1) := by decide +kernel
theorem dX12_closeStreet_58 : decode cX12_closeStreet 58 = .ok (.ireturn, 1) := by decide +kernel
theorem dX12_addOrder_0 : decode cX12_addOrder 0 = .ok (.aload_n 0, 1) := by decide +kernel
theorem dX12_addOrder_1 : decode cX12_addOrder 1 = .ok (.getfield 23, 3) := by decide +kernel
theorem dX12_addOrder_4 : decode cX12_addOrder 4 = .ok (.iload_n 1, 1) := by decide +kernel
theorem dX12_addOrder_5 : decode cX12_addOrder 5 = .ok (.invokevirtual 125, 3) := by decide +kernel
theorem dX12_addOrder_8 : decode cX12_addOrder 8 = .ok (.ifCond .eq 26, 3) := by decide +kernel
theorem dX12_addOrder_11 : decode cX12_addOrder 11 = .ok (.aload_n 0, 1) := by decide +kernel
theorem dX12_addOrder_12 : decode cX12_addOrder 12 = .ok (.getfield 23, 3) := by decide +kernel
theorem dX12_addOrder_15 : decode cX12_addOrder 15 = .ok (.iload_n 2, 1) := by decide +kernel
theorem dX12_addOrder_16 : decode cX12_addOrder 16 = .ok (.invokevirtual 84, 3) := by decide +kernel
theorem dX12_addOrder_19 : decode cX12_addOrder 19 = .ok (.ifCond .eq 15, 3) := by decide +kernel
theorem dX12_addOrder_22 : decode cX12_addOrder 22 = .ok (.aload_n 0, 1) := by decide +kernel
theorem dX12_addOrder_23 : decode cX12_addOrder 23 = .ok (.getfield 23, 3) := by decide +kernel
theorem dX12_addOrder_26 : decode cX12_addOrder 26 = .ok (.getfield 81, 3) := by decide +kernel
theorem dX12_addOrder_29 : decode cX12_addOrder 29 = .ok (.bipush 24, 2) := by decide +kernel
theorem dX12_addOrder_31 : decode cX12_addOrder 31 = .ok (.if_icmp .lt 5, 3) := by decide +kernel
theorem dX12_addOrder_34 : decode cX12_addOrder 34 = .ok (.iconst (-1), 1) := by decide +kernel
theorem dX12_addOrder_35 : decode cX12_addOrder 35 = .ok (.ireturn, 1) := by decide +kernel
theorem dX12_addOrder_36 : decode cX12_addOrder 36 = .ok (.iload_n 3, 1) := by decide +kernel
theorem dX12_addOrder_37 : decode cX12_addOrder 37 = .ok (.iconst 1, 1) := by decide +kernel
theorem dX12_addOrder_38 : decode cX12_addOrder 38 = .ok (.if_icmp .lt 23, 3) := by decide +kernel
theorem dX12_addOrder_41 : decode cX12_addOrder 41 = .ok (.iload_n 3, 1) := by decide +kernel
theorem dX12_addOrder_42 : decode cX12_addOrder 42 = .ok (.sipush 200, 3) := by decide +kernel
theorem dX12_addOrder_45 : decode cX12_addOrder 45 = .ok (.if_icmp .gt 16, 3) := by decide +kernel
theorem dX12_addOrder_48 : decode cX12_addOrder 48 = .ok (.iload 4, 2) := by decide +kernel
theorem dX12_addOrder_50 : decode cX12_addOrder 50 = .ok (.ifCond .lt 11, 3) := by decide +kernel
theorem dX12_addOrder_53 : decode cX12_addOrder 53 = .ok (.iload 4, 2) := by decide +kernel
theorem dX12_addOrder_55 : decode cX12_addOrder 55 = .ok (.sipush 1439, 3) := by decide +kernel
theorem dX12_addOrder_58 : decode cX12_addOrder 58 = .ok (.if_icmp .le 5, 3) := by decide +kernel
theorem dX12_addOrder_61 : decode cX12_addOrder 61 = .ok (.iconst (-1), 1) := by decide +kernel
theorem dX12_addOrder_62 : decode cX12_addOrder 62 = .ok (.ireturn, 1) := by decide +kernel
theorem dX12_addOrder_63 : decode cX12_addOrder 63 = .ok (.aload_n 0, 1) := by decide +kernel
theorem dX12_addOrder_64 : decode cX12_addOrder 64 = .ok (.getfield 23, 3) := by decide +kernel
theorem dX12_addOrder_67 : decode cX12_addOrder 67 = .ok (.getfield 81, 3) := by decide +kernel
theorem dX12_addOrder_70 : decode cX12_addOrder 70 = .ok (.istore 5, 2) := by decide +kernel
theorem dX12_addOrder_72 : decode cX12_addOrder 72 = .ok (.aload_n 0, 1) := by decide +kernel
theorem dX12_addOrder_73 : decode cX12_addOrder 73 = .ok (.getfield 23, 3) := by decide +kernel
theorem dX12_addOrder_76 : decode cX12_addOrder 76 = .ok (.getfield 321, 3) := by decide +kernel
theorem dX12_addOrder_79 : decode cX12_addOrder 79 = .ok (.iload 5, 2) := by decide +kernel
theorem dX12_addOrder_81 : decode cX12_addOrder 81 = .ok (.aaload, 1) := by decide +kernel
theorem dX12_addOrder_82 : decode cX12_addOrder 82 = .ok (.iload_n 1, 1) := by decide +kernel
theorem dX12_addOrder_83 : decode cX12_addOrder 83 = .ok (.iload_n 2, 1) := by decide +kernel
theorem dX12_addOrder_84 : decode cX12_addOrder 84 = .ok (.iload_n 3, 1) := by decide +kernel
theorem dX12_addOrder_85 : decode cX12_addOrder 85 = .ok (.iload 4, 2) := by decide +kernel
theorem dX12_addOrder_87 : decode cX12_addOrder 87 = .ok (.invokevirtual 325, 3) := by decide +kernel
theorem dX12_addOrder_90 : decode cX12_addOrder 90 = .ok (.aload_n 0, 1) := by decide +kernel
theorem dX12_addOrder_91 : decode cX12_addOrder 91 = .ok (.getfield 23, 3) := by decide +kernel
theorem dX12_addOrder_94 : decode cX12_addOrder 94 = .ok (.dup, 1) := by decide +kernel
theorem dX12_addOrder_95 : decode cX12_addOrder 95 = .ok (.getfield 81, 3) := by decide +kernel
theorem dX12_addOrder_98 : decode cX12_addOrder 98 = .ok (.iconst 1, 1) := by decide +kernel
theorem dX12_addOrder_99 : decode cX12_addOrder 99 = .ok (.iadd, 1) := by decide +kernel
theorem dX12_addOrder_100 : decode cX12_addOrder 100 = .ok (.putfield 81, 3) := by decide +kernel
theorem dX12_addOrder_103 : decode cX12_addOrder 103 = .ok (.aload_n 0, 1) := by decide +kernel
theorem dX12_addOrder_104 : decode cX12_addOrder 104 = .ok (.iconst 3, 1) := by decide +kernel
theorem dX12_addOrder_105 : decode cX12_addOrder 105 = .ok (.iload 5, 2) := by decide +kernel
theorem dX12_addOrder_107 : decode cX12_addOrder 107 = .ok (.iconst 0, 1) := by decide +kernel
theorem dX12_addOrder_108 : decode cX12_addOrder 108 = .ok (.invokevirtual 305, 3) := by decide +kernel
theorem dX12_addOrder_111 : decode cX12_addOrder 111 = .ok (.iload 5, 2) := by decide +kernel
theorem dX12_addOrder_113 : decode cX12_addOrder 113 = .ok (.ireturn, 1) := by decide +kernel
theorem dX12_cancelOrder_0 : decode cX12_cancelOrder 0 = .ok (.aload_n 0, 1) := by decide +kernel
theorem dX12_cancelOrder_1 : decode cX12_cancelOrder 1 = .ok (.getfield 23, 3) := by decide +kernel
theorem dX12_cancelOrder_4 : decode cX12_cancelOrder 4 = .ok (.iload_n 1, 1) := by decide +kernel
theorem dX12_cancelOrder_5 : decode cX12_cancelOrder 5 = .ok (.invokevirtual 220, 3) := by decide +kernel
theorem dX12_cancelOrder_8 : decode cX12_cancelOrder 8 = .ok (.ifCond .ne 5, 3) := by decide +kernel
theorem dX12_cancelOrder_11 : decode cX12_cancelOrder 11 = .ok (.iconst 0, 1) := by decide +kernel
theorem dX12_cancelOrder_12 : decode cX12_cancelOrder 12 = .ok (.ireturn, 1) := by decide +kernel
theorem dX12_cancelOrder_13 : decode cX12_cancelOrder 13 = .ok (.aload_n 0, 1) := by decide +kernel
theorem dX12_cancelOrder_14 : decode cX12_cancelOrder 14 = .ok (.getfield 23, 3) := by decide +kernel
theorem dX12_cancelOrder_17 : decode cX12_cancelOrder 17 = .ok (.getfield 321, 3) := by decide +kernel
theorem dX12_cancelOrder_20 : decode cX12_cancelOrder 20 = .ok (.iload_n 1, 1) := by decide +kernel
theorem dX12_cancelOrder_21 : decode cX12_cancelOrder 21 = .ok (.aaload, 1) := by decide +kernel
theorem dX12_cancelOrder_22 : decode cX12_cancelOrder 22 = .ok (.iconst 1, 1) := by decide +kernel
theorem dX12_cancelOrder_23 : decode cX12_cancelOrder 23 = .ok (.putfield 331, 3) := by decide +kernel
theorem dX12_cancelOrder_26 : decode cX12_cancelOrder 26 = .ok (.aload_n 0, 1) := by decide +kernel
theorem dX12_cancelOrder_27 : decode cX12_cancelOrder 27 = .ok (.iconst 4, 1) := by decide +kernel
theorem dX12_cancelOrder_28 : decode cX12_cancelOrder 28 = .ok (.iload_n 1, 1) := by decide +kernel
theorem dX12_cancelOrder_29 : decode cX12_cancelOrder 29 = .ok (.iconst 0, 1) := by decide +kernel
theorem dX12_cancelOrder_30 : decode cX12_cancelOrder 30 = .ok (.invokevirtual 305, 3) := by decide +kernel
theorem dX12_cancelOrder_33 : decode cX12_cancelOrder 33 = .ok (.iconst 1, 1) := by decide +kernel
theorem dX12_cancelOrder_34 : decode cX12_cancelOrder 34 = .ok (.ireturn, 1) := by decide +kernel
theorem dX12_moveOrder_0 : decode cX12_moveOrder 0 = .ok (.aload_n 0, 1) := by decide +kernel
theorem dX12_moveOrder_1 : decode cX12_moveOrder 1 = .ok (.getfield 23, 3) := by decide +kernel
theorem dX12_moveOrder_4 : decode cX12_moveOrder 4 = .ok (.iload_n 1, 1) := by decide +kernel
theorem dX12_moveOrder_5 : decode cX12_moveOrder 5 = .ok (.invokevirtual 220, 3) := by decide +kernel
theorem dX12_moveOrder_8 : decode cX12_moveOrder 8 = .ok (.ifCond .eq 14, 3) := by decide +kernel
theorem dX12_moveOrder_11 : decode cX12_moveOrder 11 = .ok (.iload_n 2, 1) := by decide +kernel
theorem dX12_moveOrder_12 : decode cX12_moveOrder 12 = .ok (.ifCond .lt 10, 3) := by decide +kernel
theorem dX12_moveOrder_15 : decode cX12_moveOrder 15 = .ok (.iload_n 2, 1) := by decide +kernel
theorem dX12_moveOrder_16 : decode cX12_moveOrder 16 = .ok (.sipush 1439, 3) := by decide +kernel
theorem dX12_moveOrder_19 : decode cX12_moveOrder 19 = .ok (.if_icmp .le 5, 3) := by decide +kernel
theorem dX12_moveOrder_22 : decode cX12_moveOrder 22 = .ok (.iconst (-1), 1) := by decide +kernel
theorem dX12_moveOrder_23 : decode cX12_moveOrder 23 = .ok (.ireturn, 1) := by decide +kernel
theorem dX12_moveOrder_24 : decode cX12_moveOrder 24 = .ok (.aload_n 0, 1) := by decide +kernel
theorem dX12_moveOrder_25 : decode cX12_moveOrder 25 = .ok (.getfield 23, 3) := by decide +kernel
theorem dX12_moveOrder_28 : decode cX12_moveOrder 28 = .ok (.getfield 321, 3) := by decide +kernel
theorem dX12_moveOrder_31 : decode cX12_moveOrder 31 = .ok (.iload_n 1, 1) := by decide +kernel
theorem dX12_moveOrder_32 : decode cX12_moveOrder 32 = .ok (.aaload, 1) := by decide +kernel
theorem dX12_moveOrder_33 : decode cX12_moveOrder 33 = .ok (.getfield 334, 3) := by decide +kernel
theorem dX12_moveOrder_36 : decode cX12_moveOrder 36 = .ok (.istore_n 3, 1) := by decide +kernel
theorem dX12_moveOrder_37 : decode cX12_moveOrder 37 = .ok (.aload_n 0, 1) := by decide +kernel
theorem dX12_moveOrder_38 : decode cX12_moveOrder 38 = .ok (.getfield 23, 3) := by decide +kernel
theorem dX12_moveOrder_41 : decode cX12_moveOrder 41 = .ok (.getfield 321, 3) := by decide +kernel
theorem dX12_moveOrder_44 : decode cX12_moveOrder 44 = .ok (.iload_n 1, 1) := by decide +kernel
theorem dX12_moveOrder_45 : decode cX12_moveOrder 45 = .ok (.aaload, 1) := by decide +kernel
theorem dX12_moveOrder_46 : decode cX12_moveOrder 46 = .ok (.iload_n 2, 1) := by decide +kernel
theorem dX12_moveOrder_47 : decode cX12_moveOrder 47 = .ok (.putfield 334, 3) := by decide +kernel
theorem dX12_moveOrder_50 : decode cX12_moveOrder 50 = .ok (.aload_n 0, 1) := by decide +kernel
theorem dX12_moveOrder_51 : decode cX12_moveOrder 51 = .ok (.iconst 5, 1) := by decide +kernel
theorem dX12_moveOrder_52 : decode cX12_moveOrder 52 = .ok (.iload_n 1, 1) := by decide +kernel
theorem dX12_moveOrder_53 : decode cX12_moveOrder 53 = .ok (.iload_n 3, 1) := by decide +kernel
theorem dX12_moveOrder_54 : decode cX12_moveOrder 54 = .ok (.invokevirtual 305, 3) := by decide +kernel
theorem dX12_moveOrder_57 : decode cX12_moveOrder 57 = .ok (.iload_n 3, 1) := by decide +kernel
theorem dX12_moveOrder_58 : decode cX12_moveOrder 58 = .ok (.ireturn, 1) := by decide +kernel
theorem dX12_undo_0 : decode cX12_undo 0 = .ok (.aload_n 0, 1) := by decide +kernel
theorem dX12_undo_1 : decode cX12_undo 1 = .ok (.getfield 33, 3) := by decide +kernel
theorem dX12_undo_4 : decode cX12_undo 4 = .ok (.getfield 337, 3) := by decide +kernel
theorem dX12_undo_7 : decode cX12_undo 7 = .ok (.ifCond .ne 5, 3) := by decide +kernel
theorem dX12_undo_10 : decode cX12_undo 10 = .ok (.iconst (-1), 1) := by decide +kernel
theorem dX12_undo_11 : decode cX12_undo 11 = .ok (.ireturn, 1) := by decide +kernel
theorem dX12_undo_12 : decode cX12_undo 12 = .ok (.aload_n 0, 1) := by decide +kernel
theorem dX12_undo_13 : decode cX12_undo 13 = .ok (.getfield 33, 3) := by decide +kernel
theorem dX12_undo_16 : decode cX12_undo 16 = .ok (.aload_n 0, 1) := by decide +kernel
theorem dX12_undo_17 : decode cX12_undo 17 = .ok (.getfield 23, 3) := by decide +kernel
theorem dX12_undo_20 : decode cX12_undo 20 = .ok (.invokevirtual 340, 3) := by decide +kernel
theorem dX12_undo_23 : decode cX12_undo 23 = .ok (.aload_n 0, 1) := by decide +kernel
theorem dX12_undo_24 : decode cX12_undo 24 = .ok (.invokevirtual 72, 3) := by decide +kernel
theorem dX12_undo_27 : decode cX12_undo 27 = .ok (.aload_n 0, 1) := by decide +kernel
theorem dX12_undo_28 : decode cX12_undo 28 = .ok (.getfield 33, 3) := by decide +kernel
theorem dX12_undo_31 : decode cX12_undo 31 = .ok (.getfield 337, 3) := by decide +kernel
theorem dX12_undo_34 : decode cX12_undo 34 = .ok (.ireturn, 1) := by decide +kernel
theorem dX12_dividedUp_0 : decode cX12_dividedUp 0 = .ok (.iload_n 1, 1) := by decide +kernel
theorem dX12_dividedUp_1 : decode cX12_dividedUp 1 = .ok (.ifCond .gt 7, 3) := by decide +kernel
theorem dX12_dividedUp_4 : decode cX12_dividedUp 4 = .ok (.iconst 0, 1) := by decide +kernel
theorem dX12_dividedUp_5 : decode cX12_dividedUp 5 = .ok (.goto 10, 3) := by decide +kernel
theorem dX12_dividedUp_8 : decode cX12_dividedUp 8 = .ok (.iload_n 0, 1) := by decide +kernel
theorem dX12_dividedUp_9 : decode cX12_dividedUp 9 = .ok (.iload_n 1, 1) := by decide +kernel
theorem dX12_dividedUp_10 : decode cX12_dividedUp 10 = .ok (.iadd, 1) := by decide +kernel
theorem dX12_dividedUp_11 : decode cX12_dividedUp 11 = .ok (.iconst 1, 1) := by decide +kernel
theorem dX12_dividedUp_12 : decode cX12_dividedUp 12 = .ok (.isub, 1) := by decide +kernel
theorem dX12_dividedUp_13 : decode cX12_dividedUp 13 = .ok (.iload_n 1, 1) := by decide +kernel
theorem dX12_dividedUp_14 : decode cX12_dividedUp 14 = .ok (.idiv, 1) := by decide +kernel
theorem dX12_dividedUp_15 : decode cX12_dividedUp 15 = .ok (.ireturn, 1) := by decide +kernel
theorem dJ5_init_d00df_0 : decode cJ5_init_d00df 0 = .ok (.aload_n 0, 1) := by decide +kernel
theorem dJ5_init_d00df_1 : decode cJ5_init_d00df 1 = .ok (.invokespecial 3, 3) := by decide +kernel
theorem dJ5_init_d00df_4 : decode cJ5_init_d00df 4 = .ok (.getstatic 18, 3) := by decide +kernel
theorem dJ5_init_d00df_7 : decode cJ5_init_d00df 7 = .ok (.ifCond .eq 18, 3) := by decide +kernel
theorem dJ5_init_d00df_10 : decode cJ5_init_d00df 10 = .ok (.aload_n 0, 1) := by decide +kernel
theorem dJ5_init_d00df_11 : decode cJ5_init_d00df 11 = .ok (.iload_n 1, 1) := by decide +kernel
theorem dJ5_init_d00df_12 : decode cJ5_init_d00df 12 = .ok (.newarray .byte, 2) := by decide +kernel
theorem dJ5_init_d00df_14 : decode cJ5_init_d00df 14 = .ok (.putfield 15, 3) := by decide +kernel
theorem dJ5_init_d00df_17 : decode cJ5_init_d00df 17 = .ok (.aload_n 0, 1) := by decide +kernel
theorem dJ5_init_d00df_18 : decode cJ5_init_d00df 18 = .ok (.iconst 0, 1) := by decide +kernel
theorem dJ5_init_d00df_19 : decode cJ5_init_d00df 19 = .ok (.putfield 22, 3) := by decide +kernel
theorem dJ5_init_d00df_22 : decode cJ5_init_d00df 22 = .ok (.goto 16, 3) := by decide +kernel
theorem dJ5_init_d00df_25 : decode cJ5_init_d00df 25 = .ok (.aload_n 0, 1) := by decide +kernel
theorem dJ5_init_d00df_26 : decode cJ5_init_d00df 26 = .ok (.iload_n 1, 1) := by decide +kernel
theorem dJ5_init_d00df_27 : decode cJ5_init_d00df 27 = .ok (.invokestatic 26, 3) := by decide +kernel
theorem dJ5_init_d00df_30 : decode cJ5_init_d00df 30 = .ok (.putfield 15, 3) := by decide +kernel
theorem dJ5_init_d00df_33 : decode cJ5_init_d00df 33 = .ok (.aload_n 0, 1) := by decide +kernel
theorem dJ5_init_d00df_34 : decode cJ5_init_d00df 34 = .ok (.iconst 1, 1) := by decide +kernel
theorem dJ5_init_d00df_35 : decode cJ5_init_d00df 35 = .ok (.putfield 22, 3) := by decide +kernel
theorem dJ5_init_d00df_38 : decode cJ5_init_d00df 38 = .ok (.return_, 1) := by decide +kernel
theorem dJ5_init_a7421_0 : decode cJ5_init_a7421 0 = .ok (.aload_n 0, 1) := by decide +kernel
theorem dJ5_init_a7421_1 : decode cJ5_init_a7421 1 = .ok (.invokespecial 3, 3) := by decide +kernel
theorem dJ5_init_a7421_4 : decode cJ5_init_a7421 4 = .ok (.aload_n 1, 1) := by decide +kernel
theorem dJ5_init_a7421_5 : decode cJ5_init_a7421 5 = .ok (.invokevirtual 32, 3) := by decide +kernel
theorem dJ5_init_a7421_8 : decode cJ5_init_a7421 8 = .ok (.istore_n 2, 1) := by decide +kernel
theorem dJ5_init_a7421_9 : decode cJ5_init_a7421 9 = .ok (.iload_n 2, 1) := by decide +kernel
theorem dJ5_init_a7421_10 : decode cJ5_init_a7421 10 = .ok (.ldc 38, 2) := by decide +kernel
theorem dJ5_init_a7421_12 : decode cJ5_init_a7421 12 = .ok (.if_icmp .ge 10, 3) := by decide +kernel
theorem dJ5_init_a7421_15 : decode cJ5_init_a7421 15 = .ok (.iload_n 2, 1) := by decide +kernel
theorem dJ5_init_a7421_16 : decode cJ5_init_a7421 16 = .ok (.bipush 16, 2) := by decide +kernel
theorem dJ5_init_a7421_18 : decode cJ5_init_a7421 18 = .ok (.iadd, 1) := by decide +kernel
theorem dJ5_init_a7421_19 : decode cJ5_init_a7421 19 = .ok (.goto 5, 3) := by decide +kernel
theorem dJ5_init_a7421_22 : decode cJ5_init_a7421 22 = .ok (.ldc 39, 2) := by decide +kernel
theorem dJ5_init_a7421_24 : decode cJ5_init_a7421 24 = .ok (.istore_n 3, 1) := by decide +kernel
theorem dJ5_init_a7421_25 : decode cJ5_init_a7421 25 = .ok (.aload_n 1, 1) := by decide +kernel
theorem dJ5_init_a7421_26 : decode cJ5_init_a7421 26 = .ok (.invokevirtual 40, 3) := by decide +kernel
theorem dJ5_init_a7421_29 : decode cJ5_init_a7421 29 = .ok (.istore 4, 2) := by decide +kernel
theorem dJ5_init_a7421_31 : decode cJ5_init_a7421 31 = .ok (.aload_n 0, 1) := by decide +kernel
theorem dJ5_init_a7421_32 : decode cJ5_init_a7421 32 = .ok (.iload 4, 2) := by decide +kernel
theorem dJ5_init_a7421_34 : decode cJ5_init_a7421 34 = .ok (.putfield 22, 3) := by decide +kernel
theorem dJ5_init_a7421_37 : decode cJ5_init_a7421 37 = .ok (.aload_n 0, 1) := by decide +kernel
theorem dJ5_init_a7421_38 : decode cJ5_init_a7421 38 = .ok (.iload 4, 2) := by decide +kernel
theorem dJ5_init_a7421_40 : decode cJ5_init_a7421 40 = .ok (.ifCond .ne 9, 3) := by decide +kernel
theorem dJ5_init_a7421_43 : decode cJ5_init_a7421 43 = .ok (.iload_n 3, 1) := by decide +kernel
theorem dJ5_init_a7421_44 : decode cJ5_init_a7421 44 = .ok (.newarray .byte, 2) := by decide +kernel
theorem dJ5_init_a7421_46 : decode cJ5_init_a7421 46 = .ok (.goto 7, 3) := by decide +kernel
theorem dJ5_init_a7421_49 : decode cJ5_init_a7421 49 = .ok (.iload_n 3, 1) := by decide +kernel
theorem dJ5_init_a7421_50 : decode cJ5_init_a7421 50 = .ok (.invokestatic 26, 3) := by decide +kernel
theorem dJ5_init_a7421_53 : decode cJ5_init_a7421 53 = .ok (.putfield 15, 3) := by decide +kernel
theorem dJ5_init_a7421_56 : decode cJ5_init_a7421 56 = .ok (.aload_n 0, 1) := by decide +kernel
theorem dJ5_init_a7421_57 : decode cJ5_init_a7421 57 = .ok (.aload_n 1, 1) := by decide +kernel
theorem dJ5_init_a7421_58 : decode cJ5_init_a7421 58 = .ok (.invokevirtual 43, 3) := by decide +kernel
theorem dJ5_init_a7421_61 : decode cJ5_init_a7421 61 = .ok (.pop, 1) := by decide +kernel
theorem dJ5_init_a7421_62 : decode cJ5_init_a7421 62 = .ok (.return_, 1) := by decide +kernel
theorem dJ5_length_8abf5_0 : decode cJ5_length_8abf5 0 = .ok (.aload_n 0, 1) := by decide +kernel
theorem dJ5_length_8abf5_1 : decode cJ5_length_8abf5 1 = .ok (.getfield 79, 3) := by decide +kernel
theorem dJ5_length_8abf5_4 : decode cJ5_length_8abf5 4 = .ok (.ireturn, 1) := by decide +kernel
theorem dJ5_ensureCapacityInternal_d00df_0 : decode cJ5_ensureCapacityInternal_d00df 0 = .ok (.aload_n 0, 1) := by decide +kernel
theorem dJ5_ensureCapacityInternal_d00df_1 : decode cJ5_ensureCapacityInternal_d00df 1 = .ok (.getfield 15, 3) := by decide +kernel
theorem dJ5_ensureCapacityInternal_d00df_4 : decode cJ5_ensureCapacityInternal_d00df 4 = .ok (.arraylength, 1) := by decide +kernel
theorem dJ5_ensureCapacityInternal_d00df_5 : decode cJ5_ensureCapacityInternal_d00df 5 = .ok (.aload_n 0, 1) := by decide +kernel
theorem dJ5_ensureCapacityInternal_d00df_6 : decode cJ5_ensureCapacityInternal_d00df 6 = .ok (.getfield 22, 3) := by decide +kernel
theorem dJ5_ensureCapacityInternal_d00df_9 : decode cJ5_ensureCapacityInternal_d00df 9 = .ok (.ishr, 1) := by decide +kernel
theorem dJ5_ensureCapacityInternal_d00df_10 : decode cJ5_ensureCapacityInternal_d00df 10 = .ok (.istore_n 2, 1) := by decide +kernel
theorem dJ5_ensureCapacityInternal_d00df_11 : decode cJ5_ensureCapacityInternal_d00df 11 = .ok (.iload_n 1, 1) := by decide +kernel
theorem dJ5_ensureCapacityInternal_d00df_12 : decode cJ5_ensureCapacityInternal_d00df 12 = .ok (.iload_n 2, 1) := by decide +kernel
theorem dJ5_ensureCapacityInternal_d00df_13 : decode cJ5_ensureCapacityInternal_d00df 13 = .ok (.isub, 1) := by decide +kernel
theorem dJ5_ensureCapacityInternal_d00df_14 : decode cJ5_ensureCapacityInternal_d00df 14 = .ok (.ifCond .le 24, 3) := by decide +kernel
theorem dJ5_ensureCapacityInternal_d00df_17 : decode cJ5_ensureCapacityInternal_d00df 17 = .ok (.aload_n 0, 1) := by decide +kernel
theorem dJ5_ensureCapacityInternal_d00df_18 : decode cJ5_ensureCapacityInternal_d00df 18 = .ok (.aload_n 0, 1) := by decide +kernel
theorem dJ5_ensureCapacityInternal_d00df_19 : decode cJ5_ensureCapacityInternal_d00df 19 = .ok (.getfield 15, 3) := by decide +kernel
theorem dJ5_ensureCapacityInternal_d00df_22 : decode cJ5_ensureCapacityInternal_d00df 22 = .ok (.aload_n 0, 1) := by decide +kernel
theorem dJ5_ensureCapacityInternal_d00df_23 : decode cJ5_ensureCapacityInternal_d00df 23 = .ok (.iload_n 1, 1) := by decide +kernel
theorem dJ5_ensureCapacityInternal_d00df_24 : decode cJ5_ensureCapacityInternal_d00df 24 = .ok (.invokevirtual 104, 3) := by decide +kernel
theorem dJ5_ensureCapacityInternal_d00df_27 : decode cJ5_ensureCapacityInternal_d00df 27 = .ok (.aload_n 0, 1) := by decide +kernel
theorem dJ5_ensureCapacityInternal_d00df_28 : decode cJ5_ensureCapacityInternal_d00df 28 = .ok (.getfield 22, 3) := by decide +kernel
theorem dJ5_ensureCapacityInternal_d00df_31 : decode cJ5_ensureCapacityInternal_d00df 31 = .ok (.ishl, 1) := by decide +kernel
theorem dJ5_ensureCapacityInternal_d00df_32 : decode cJ5_ensureCapacityInternal_d00df 32 = .ok (.invokestatic 108, 3) := by decide +kernel
theorem dJ5_ensureCapacityInternal_d00df_35 : decode cJ5_ensureCapacityInternal_d00df 35 = .ok (.putfield 15, 3) := by decide +kernel
theorem dJ5_ensureCapacityInternal_d00df_38 : decode cJ5_ensureCapacityInternal_d00df 38 = .ok (.return_, 1) := by decide +kernel
theorem dJ5_newCapacity_0f7a4_0 : decode cJ5_newCapacity_0f7a4 0 = .ok (.aload_n 0, 1) := by decide +kernel
theorem dJ5_newCapacity_0f7a4_1 : decode cJ5_newCapacity_0f7a4 1 = .ok (.getfield 15, 3) := by decide +kernel
theorem dJ5_newCapacity_0f7a4_4 : decode cJ5_newCapacity_0f7a4 4 = .ok (.arraylength, 1) := by decide +kernel
theorem dJ5_newCapacity_0f7a4_5 : decode cJ5_newCapacity_0f7a4 5 = .ok (.istore_n 2, 1) := by decide +kernel
theorem dJ5_newCapacity_0f7a4_6 : decode cJ5_newCapacity_0f7a4 6 = .ok (.iload_n 1, 1) := by decide +kernel
theorem dJ5_newCapacity_0f7a4_7 : decode cJ5_newCapacity_0f7a4 7 = .ok (.aload_n 0, 1) := by decide +kernel
theorem dJ5_newCapacity_0f7a4_8 : decode cJ5_newCapacity_0f7a4 8 = .ok (.getfield 22, 3) := by decide +kernel
theorem dJ5_newCapacity_0f7a4_11 : decode cJ5_newCapacity_0f7a4 11 = .ok (.ishl, 1) := by decide +kernel
theorem dJ5_newCapacity_0f7a4_12 : decode cJ5_newCapacity_0f7a4 12 = .ok (.istore_n 3, 1) := by decide +kernel
theorem dJ5_newCapacity_0f7a4_13 : decode cJ5_newCapacity_0f7a4 13 = .ok (.iload_n 3, 1) := by decide +kernel
theorem dJ5_newCapacity_0f7a4_14 : decode cJ5_newCapacity_0f7a4 14 = .ok (.iload_n 2, 1) := by decide +kernel
theorem dJ5_newCapacity_0f7a4_15 : decode cJ5_newCapacity_0f7a4 15 = .ok (.isub, 1) := by decide +kernel
theorem dJ5_newCapacity_0f7a4_16 : decode cJ5_newCapacity_0f7a4 16 = .ok (.istore 4, 2) := by decide +kernel
theorem dJ5_newCapacity_0f7a4_18 : decode cJ5_newCapacity_0f7a4 18 = .ok (.iload_n 2, 1) := by decide +kernel
theorem dJ5_newCapacity_0f7a4_19 : decode cJ5_newCapacity_0f7a4 19 = .ok (.iload 4, 2) := by decide +kernel
theorem dJ5_newCapacity_0f7a4_21 : decode cJ5_newCapacity_0f7a4 21 = .ok (.iload_n 2, 1) := by decide +kernel
theorem dJ5_newCapacity_0f7a4_22 : decode cJ5_newCapacity_0f7a4 22 = .ok (.iconst 2, 1) := by decide +kernel
theorem dJ5_newCapacity_0f7a4_23 : decode cJ5_newCapacity_0f7a4 23 = .ok (.aload_n 0, 1) := by decide +kernel
theorem dJ5_newCapacity_0f7a4_24 : decode cJ5_newCapacity_0f7a4 24 = .ok (.getfield 22, 3) := by decide +kernel
theorem dJ5_newCapacity_0f7a4_27 : decode cJ5_newCapacity_0f7a4 27 = .ok (.ishl, 1) := by decide +kernel
theorem dJ5_newCapacity_0f7a4_28 : decode cJ5_newCapacity_0f7a4 28 = .ok (.iadd, 1) := by decide +kernel
theorem dJ5_newCapacity_0f7a4_29 : decode cJ5_newCapacity_0f7a4 29 = .ok (.invokestatic 114, 3) := by decide +kernel
theorem dJ5_newCapacity_0f7a4_32 : decode cJ5_newCapacity_0f7a4 32 = .ok (.istore 5, 2) := by decide +kernel
theorem dJ5_newCapacity_0f7a4_34 : decode cJ5_newCapacity_0f7a4 34 = .ok (.iload 5, 2) := by decide +kernel
theorem dJ5_newCapacity_0f7a4_36 : decode cJ5_newCapacity_0f7a4 36 = .ok (.ldc 39, 2) := by decide +kernel
theorem dJ5_newCapacity_0f7a4_38 : decode cJ5_newCapacity_0f7a4 38 = .ok (.if_icmp .ne 13, 3) := by decide +kernel
theorem dJ5_newCapacity_0f7a4_41 : decode cJ5_newCapacity_0f7a4 41 = .ok (.new 120, 3) := by decide +kernel
theorem dJ5_newCapacity_0f7a4_44 : decode cJ5_newCapacity_0f7a4 44 = .ok (.dup, 1) := by decide +kernel
theorem dJ5_newCapacity_0f7a4_45 : decode cJ5_newCapacity_0f7a4 45 = .ok (.ldc 122, 2) := by decide +kernel
theorem dJ5_newCapacity_0f7a4_47 : decode cJ5_newCapacity_0f7a4 47 = .ok (.invokespecial 124, 3) := by decide +kernel
theorem dJ5_newCapacity_0f7a4_50 : decode cJ5_newCapacity_0f7a4 50 = .ok (.athrow, 1) := by decide +kernel
theorem dJ5_newCapacity_0f7a4_51 : decode cJ5_newCapacity_0f7a4 51 = .ok (.iload 5, 2) := by decide +kernel
theorem dJ5_newCapacity_0f7a4_53 : decode cJ5_newCapacity_0f7a4 53 = .ok (.aload_n 0, 1) := by decide +kernel
theorem dJ5_newCapacity_0f7a4_54 : decode cJ5_newCapacity_0f7a4 54 = .ok (.getfield 22, 3) := by decide +kernel
theorem dJ5_newCapacity_0f7a4_57 : decode cJ5_newCapacity_0f7a4 57 = .ok (.ishr, 1) := by decide +kernel
theorem dJ5_newCapacity_0f7a4_58 : decode cJ5_newCapacity_0f7a4 58 = .ok (.ireturn, 1) := by decide +kernel
theorem dJ5_inflate_da8c8_0 : decode cJ5_inflate_da8c8 0 = .ok (.aload_n 0, 1) := by decide +kernel
theorem dJ5_inflate_da8c8_1 : decode cJ5_inflate_da8c8 1 = .ok (.invokevirtual 83, 3) := by decide +kernel
theorem dJ5_inflate_da8c8_4 : decode cJ5_inflate_da8c8 4 = .ok (.ifCond .ne 4, 3) := by decide +kernel
theorem dJ5_inflate_da8c8_7 : decode cJ5_inflate_da8c8 7 = .ok (.return_, 1) := by decide +kernel
theorem dJ5_inflate_da8c8_8 : decode cJ5_inflate_da8c8 8 = .ok (.aload_n 0, 1) := by decide +kernel
theorem dJ5_inflate_da8c8_9 : decode cJ5_inflate_da8c8 9 = .ok (.getfield 15, 3) := by decide +kernel
theorem dJ5_inflate_da8c8_12 : decode cJ5_inflate_da8c8 12 = .ok (.arraylength, 1) := by decide +kernel
theorem dJ5_inflate_da8c8_13 : decode cJ5_inflate_da8c8 13 = .ok (.invokestatic 26, 3) := by decide +kernel
theorem dJ5_inflate_da8c8_16 : decode cJ5_inflate_da8c8 16 = .ok (.astore_n 1, 1) := by decide +kernel
theorem dJ5_inflate_da8c8_17 : decode cJ5_inflate_da8c8 17 = .ok (.aload_n 0, 1) := by decide +kernel
theorem dJ5_inflate_da8c8_18 : decode cJ5_inflate_da8c8 18 = .ok (.getfield 15, 3) := by decide +kernel
theorem dJ5_inflate_da8c8_21 : decode cJ5_inflate_da8c8 21 = .ok (.iconst 0, 1) := by decide +kernel
theorem dJ5_inflate_da8c8_22 : decode cJ5_inflate_da8c8 22 = .ok (.aload_n 1, 1) := by decide +kernel
theorem dJ5_inflate_da8c8_23 : decode cJ5_inflate_da8c8 23 = .ok (.iconst 0, 1) := by decide +kernel
theorem dJ5_inflate_da8c8_24 : decode cJ5_inflate_da8c8 24 = .ok (.aload_n 0, 1) := by decide +kernel
theorem dJ5_inflate_da8c8_25 : decode cJ5_inflate_da8c8 25 = .ok (.getfield 79, 3) := by decide +kernel
theorem dJ5_inflate_da8c8_28 : decode cJ5_inflate_da8c8 28 = .ok (.invokestatic 125, 3) := by decide +kernel
theorem dJ5_inflate_da8c8_31 : decode cJ5_inflate_da8c8 31 = .ok (.aload_n 0, 1) := by decide +kernel
theorem dJ5_inflate_da8c8_32 : decode cJ5_inflate_da8c8 32 = .ok (.aload_n 1, 1) := by decide +kernel
theorem dJ5_inflate_da8c8_33 : decode cJ5_inflate_da8c8 33 = .ok (.putfield 15, 3) := by decide +kernel
theorem dJ5_inflate_da8c8_36 : decode cJ5_inflate_da8c8 36 = .ok (.aload_n 0, 1) := by decide +kernel
theorem dJ5_inflate_da8c8_37 : decode cJ5_inflate_da8c8 37 = .ok (.iconst 1, 1) := by decide +kernel
theorem dJ5_inflate_da8c8_38 : decode cJ5_inflate_da8c8 38 = .ok (.putfield 22, 3) := by decide +kernel
theorem dJ5_inflate_da8c8_41 : decode cJ5_inflate_da8c8 41 = .ok (.return_, 1) := by decide +kernel
theorem dJ5_append_cf1ce_0 : decode cJ5_append_cf1ce 0 = .ok (.aload_n 1, 1) := by decide +kernel
theorem dJ5_append_cf1ce_1 : decode cJ5_append_cf1ce 1 = .ok (.ifnonnull 8, 3) := by decide +kernel
theorem dJ5_append_cf1ce_4 : decode cJ5_append_cf1ce 4 = .ok (.aload_n 0, 1) := by decide +kernel
theorem dJ5_append_cf1ce_5 : decode cJ5_append_cf1ce 5 = .ok (.invokevirtual 204, 3) := by decide +kernel
theorem dJ5_append_cf1ce_8 : decode cJ5_append_cf1ce 8 = .ok (.areturn, 1) := by decide +kernel
theorem dJ5_append_cf1ce_9 : decode cJ5_append_cf1ce 9 = .ok (.aload_n 1, 1) := by decide +kernel
theorem dJ5_append_cf1ce_10 : decode cJ5_append_cf1ce 10 = .ok (.invokevirtual 32, 3) := by decide +kernel
theorem dJ5_append_cf1ce_13 : decode cJ5_append_cf1ce 13 = .ok (.istore_n 2, 1) := by decide +kernel
theorem dJ5_append_cf1ce_14 : decode cJ5_append_cf1ce 14 = .ok (.aload_n 0, 1) := by decide +kernel
theorem dJ5_append_cf1ce_15 : decode cJ5_append_cf1ce 15 = .ok (.aload_n 0, 1) := by decide +kernel
theorem dJ5_append_cf1ce_16 : decode cJ5_append_cf1ce 16 = .ok (.getfield 79, 3) := by decide +kernel
theorem dJ5_append_cf1ce_19 : decode cJ5_append_cf1ce 19 = .ok (.iload_n 2, 1) := by decide +kernel
theorem dJ5_append_cf1ce_20 : decode cJ5_append_cf1ce 20 = .ok (.iadd, 1) := by decide +kernel
theorem dJ5_append_cf1ce_21 : decode cJ5_append_cf1ce 21 = .ok (.invokevirtual 100, 3) := by decide +kernel
theorem dJ5_append_cf1ce_24 : decode cJ5_append_cf1ce 24 = .ok (.aload_n 0, 1) := by decide +kernel
theorem dJ5_append_cf1ce_25 : decode cJ5_append_cf1ce 25 = .ok (.aload_n 0, 1) := by decide +kernel
theorem dJ5_append_cf1ce_26 : decode cJ5_append_cf1ce 26 = .ok (.getfield 79, 3) := by decide +kernel
theorem dJ5_append_cf1ce_29 : decode cJ5_append_cf1ce 29 = .ok (.aload_n 1, 1) := by decide +kernel
theorem dJ5_append_cf1ce_30 : decode cJ5_append_cf1ce 30 = .ok (.invokevirtual 208, 3) := by decide +kernel
theorem dJ5_append_cf1ce_33 : decode cJ5_append_cf1ce 33 = .ok (.aload_n 0, 1) := by decide +kernel
theorem dJ5_append_cf1ce_34 : decode cJ5_append_cf1ce 34 = .ok (.dup, 1) := by decide +kernel
theorem dJ5_append_cf1ce_35 : decode cJ5_append_cf1ce 35 = .ok (.getfield 79, 3) := by decide +kernel
theorem dJ5_append_cf1ce_38 : decode cJ5_append_cf1ce 38 = .ok (.iload_n 2, 1) := by decide +kernel
theorem dJ5_append_cf1ce_39 : decode cJ5_append_cf1ce 39 = .ok (.iadd, 1) := by decide +kernel
theorem dJ5_append_cf1ce_40 : decode cJ5_append_cf1ce 40 = .ok (.putfield 79, 3) := by decide +kernel
theorem dJ5_append_cf1ce_43 : decode cJ5_append_cf1ce 43 = .ok (.aload_n 0, 1) := by decide +kernel
theorem dJ5_append_cf1ce_44 : decode cJ5_append_cf1ce 44 = .ok (.areturn, 1) := by decide +kernel
theorem dJ5_appendNull_278bc_0 : decode cJ5_appendNull_278bc 0 = .ok (.aload_n 0, 1) := by decide +kernel
theorem dJ5_appendNull_278bc_1 : decode cJ5_appendNull_278bc 1 = .ok (.aload_n 0, 1) := by decide +kernel
theorem dJ5_appendNull_278bc_2 : decode cJ5_appendNull_278bc 2 = .ok (.getfield 79, 3) := by decide +kernel
theorem dJ5_appendNull_278bc_5 : decode cJ5_appendNull_278bc 5 = .ok (.iconst 4, 1) := by decide +kernel
theorem dJ5_appendNull_278bc_6 : decode cJ5_appendNull_278bc 6 = .ok (.iadd, 1) := by decide +kernel
theorem dJ5_appendNull_278bc_7 : decode cJ5_appendNull_278bc 7 = .ok (.invokevirtual 100, 3) := by decide +kernel
theorem dJ5_appendNull_278bc_10 : decode cJ5_appendNull_278bc 10 = .ok (.aload_n 0, 1) := by decide +kernel
theorem dJ5_appendNull_278bc_11 : decode cJ5_appendNull_278bc 11 = .ok (.getfield 79, 3) := by decide +kernel
theorem dJ5_appendNull_278bc_14 : decode cJ5_appendNull_278bc 14 = .ok (.istore_n 1, 1) := by decide +kernel
theorem dJ5_appendNull_278bc_15 : decode cJ5_appendNull_278bc 15 = .ok (.aload_n 0, 1) := by decide +kernel
theorem dJ5_appendNull_278bc_16 : decode cJ5_appendNull_278bc 16 = .ok (.getfield 15, 3) := by decide +kernel
theorem dJ5_appendNull_278bc_19 : decode cJ5_appendNull_278bc 19 = .ok (.astore_n 2, 1) := by decide +kernel
theorem dJ5_appendNull_278bc_20 : decode cJ5_appendNull_278bc 20 = .ok (.aload_n 0, 1) := by decide +kernel
theorem dJ5_appendNull_278bc_21 : decode cJ5_appendNull_278bc 21 = .ok (.invokevirtual 83, 3) := by decide +kernel
theorem dJ5_appendNull_278bc_24 : decode cJ5_appendNull_278bc 24 = .ok (.ifCond .eq 38, 3) := by decide +kernel
theorem dJ5_appendNull_278bc_27 : decode cJ5_appendNull_278bc 27 = .ok (.aload_n 2, 1) := by decide +kernel
theorem dJ5_appendNull_278bc_28 : decode cJ5_appendNull_278bc 28 = .ok (.iload_n 1, 1) := by decide +kernel
theorem dJ5_appendNull_278bc_29 : decode cJ5_appendNull_278bc 29 = .ok (.iinc 1 1, 3) := by decide +kernel
theorem dJ5_appendNull_278bc_32 : decode cJ5_appendNull_278bc 32 = .ok (.bipush 110, 2) := by decide +kernel
theorem dJ5_appendNull_278bc_34 : decode cJ5_appendNull_278bc 34 = .ok (.bastore, 1) := by decide +kernel
theorem dJ5_appendNull_278bc_35 : decode cJ5_appendNull_278bc 35 = .ok (.aload_n 2, 1) := by decide +kernel
theorem dJ5_appendNull_278bc_36 : decode cJ5_appendNull_278bc 36 = .ok (.iload_n 1, 1) := by decide +kernel
theorem dJ5_appendNull_278bc_37 : decode cJ5_appendNull_278bc 37 = .ok (.iinc 1 1, 3) := by decide +kernel
theorem dJ5_appendNull_278bc_40 : decode cJ5_appendNull_278bc 40 = .ok (.bipush 117, 2) := by decide +kernel
theorem dJ5_appendNull_278bc_42 : decode cJ5_appendNull_278bc 42 = .ok (.bastore, 1) := by decide +kernel
theorem dJ5_appendNull_278bc_43 : decode cJ5_appendNull_278bc 43 = .ok (.aload_n 2, 1) := by decide +kernel
theorem dJ5_appendNull_278bc_44 : decode cJ5_appendNull_278bc 44 = .ok (.iload_n 1, 1) := by decide +kernel
theorem dJ5_appendNull_278bc_45 : decode cJ5_appendNull_278bc 45 = .ok (.iinc 1 1, 3) := by decide +kernel
theorem dJ5_appendNull_278bc_48 : decode cJ5_appendNull_278bc 48 = .ok (.bipush 108, 2) := by decide +kernel
theorem dJ5_appendNull_278bc_50 : decode cJ5_appendNull_278bc 50 = .ok (.bastore, 1) := by decide +kernel
theorem dJ5_appendNull_278bc_51 : decode cJ5_appendNull_278bc 51 = .ok (.aload_n 2, 1) := by decide +kernel
theorem dJ5_appendNull_278bc_52 : decode cJ5_appendNull_278bc 52 = .ok (.iload_n 1, 1) := by decide +kernel
theorem dJ5_appendNull_278bc_53 : decode cJ5_appendNull_278bc 53 = .ok (.iinc 1 1, 3) := by decide +kernel
theorem dJ5_appendNull_278bc_56 : decode cJ5_appendNull_278bc 56 = .ok (.bipush 108, 2) := by decide +kernel
theorem dJ5_appendNull_278bc_58 : decode cJ5_appendNull_278bc 58 = .ok (.bastore, 1) := by decide +kernel
theorem dJ5_appendNull_278bc_59 : decode cJ5_appendNull_278bc 59 = .ok (.goto 17, 3) := by decide +kernel
theorem dJ5_appendNull_278bc_62 : decode cJ5_appendNull_278bc 62 = .ok (.aload_n 2, 1) := by decide +kernel
theorem dJ5_appendNull_278bc_63 : decode cJ5_appendNull_278bc 63 = .ok (.iload_n 1, 1) := by decide +kernel
theorem dJ5_appendNull_278bc_64 : decode cJ5_appendNull_278bc 64 = .ok (.bipush 110, 2) := by decide +kernel
theorem dJ5_appendNull_278bc_66 : decode cJ5_appendNull_278bc 66 = .ok (.bipush 117, 2) := by decide +kernel
theorem dJ5_appendNull_278bc_68 : decode cJ5_appendNull_278bc 68 = .ok (.bipush 108, 2) := by decide +kernel
theorem dJ5_appendNull_278bc_70 : decode cJ5_appendNull_278bc 70 = .ok (.bipush 108, 2) := by decide +kernel
theorem dJ5_appendNull_278bc_72 : decode cJ5_appendNull_278bc 72 = .ok (.invokestatic 226, 3) := by decide +kernel
theorem dJ5_appendNull_278bc_75 : decode cJ5_appendNull_278bc 75 = .ok (.istore_n 1, 1) := by decide +kernel
theorem dJ5_appendNull_278bc_76 : decode cJ5_appendNull_278bc 76 = .ok (.aload_n 0, 1) := by decide +kernel
theorem dJ5_appendNull_278bc_77 : decode cJ5_appendNull_278bc 77 = .ok (.iload_n 1, 1) := by decide +kernel
theorem dJ5_appendNull_278bc_78 : decode cJ5_appendNull_278bc 78 = .ok (.putfield 79, 3) := by decide +kernel
theorem dJ5_appendNull_278bc_81 : decode cJ5_appendNull_278bc 81 = .ok (.aload_n 0, 1) := by decide +kernel
theorem dJ5_appendNull_278bc_82 : decode cJ5_appendNull_278bc 82 = .ok (.areturn, 1) := by decide +kernel
theorem dJ5_append_c97b9_0 : decode cJ5_append_c97b9 0 = .ok (.aload_n 0, 1) := by decide +kernel
theorem dJ5_append_c97b9_1 : decode cJ5_append_c97b9 1 = .ok (.getfield 79, 3) := by decide +kernel
theorem dJ5_append_c97b9_4 : decode cJ5_append_c97b9 4 = .ok (.istore_n 2, 1) := by decide +kernel
theorem dJ5_append_c97b9_5 : decode cJ5_append_c97b9 5 = .ok (.iload_n 2, 1) := by decide +kernel
theorem dJ5_append_c97b9_6 : decode cJ5_append_c97b9 6 = .ok (.iload_n 1, 1) := by decide +kernel
theorem dJ5_append_c97b9_7 : decode cJ5_append_c97b9 7 = .ok (.invokestatic 245, 3) := by decide +kernel
theorem dJ5_append_c97b9_10 : decode cJ5_append_c97b9 10 = .ok (.iadd, 1) := by decide +kernel
theorem dJ5_append_c97b9_11 : decode cJ5_append_c97b9 11 = .ok (.istore_n 3, 1) := by decide +kernel
theorem dJ5_append_c97b9_12 : decode cJ5_append_c97b9 12 = .ok (.aload_n 0, 1) := by decide +kernel
theorem dJ5_append_c97b9_13 : decode cJ5_append_c97b9 13 = .ok (.iload_n 3, 1) := by decide +kernel
theorem dJ5_append_c97b9_14 : decode cJ5_append_c97b9 14 = .ok (.invokevirtual 100, 3) := by decide +kernel
theorem dJ5_append_c97b9_17 : decode cJ5_append_c97b9 17 = .ok (.aload_n 0, 1) := by decide +kernel
theorem dJ5_append_c97b9_18 : decode cJ5_append_c97b9 18 = .ok (.invokevirtual 83, 3) := by decide +kernel
theorem dJ5_append_c97b9_21 : decode cJ5_append_c97b9 21 = .ok (.ifCond .eq 16, 3) := by decide +kernel
theorem dJ5_append_c97b9_24 : decode cJ5_append_c97b9 24 = .ok (.iload_n 1, 1) := by decide +kernel
theorem dJ5_append_c97b9_25 : decode cJ5_append_c97b9 25 = .ok (.iload_n 3, 1) := by decide +kernel
theorem dJ5_append_c97b9_26 : decode cJ5_append_c97b9 26 = .ok (.aload_n 0, 1) := by decide +kernel
theorem dJ5_append_c97b9_27 : decode cJ5_append_c97b9 27 = .ok (.getfield 15, 3) := by decide +kernel
theorem dJ5_append_c97b9_30 : decode cJ5_append_c97b9 30 = .ok (.invokestatic 248, 3) := by decide +kernel
theorem dJ5_append_c97b9_33 : decode cJ5_append_c97b9 33 = .ok (.pop, 1) := by decide +kernel
theorem dJ5_append_c97b9_34 : decode cJ5_append_c97b9 34 = .ok (.goto 14, 3) := by decide +kernel
theorem dJ5_append_c97b9_37 : decode cJ5_append_c97b9 37 = .ok (.iload_n 1, 1) := by decide +kernel
theorem dJ5_append_c97b9_38 : decode cJ5_append_c97b9 38 = .ok (.iload_n 2, 1) := by decide +kernel
theorem dJ5_append_c97b9_39 : decode cJ5_append_c97b9 39 = .ok (.iload_n 3, 1) := by decide +kernel
theorem dJ5_append_c97b9_40 : decode cJ5_append_c97b9 40 = .ok (.aload_n 0, 1) := by decide +kernel
theorem dJ5_append_c97b9_41 : decode cJ5_append_c97b9 41 = .ok (.getfield 15, 3) := by decide +kernel
theorem dJ5_append_c97b9_44 : decode cJ5_append_c97b9 44 = .ok (.invokestatic 251, 3) := by decide +kernel
theorem dJ5_append_c97b9_47 : decode cJ5_append_c97b9 47 = .ok (.pop, 1) := by decide +kernel
theorem dJ5_append_c97b9_48 : decode cJ5_append_c97b9 48 = .ok (.aload_n 0, 1) := by decide +kernel
theorem dJ5_append_c97b9_49 : decode cJ5_append_c97b9 49 = .ok (.iload_n 3, 1) := by decide +kernel
theorem dJ5_append_c97b9_50 : decode cJ5_append_c97b9 50 = .ok (.putfield 79, 3) := by decide +kernel
theorem dJ5_append_c97b9_53 : decode cJ5_append_c97b9 53 = .ok (.aload_n 0, 1) := by decide +kernel
theorem dJ5_append_c97b9_54 : decode cJ5_append_c97b9 54 = .ok (.areturn, 1) := by decide +kernel
theorem dJ5_getValue_6d5f1_0 : decode cJ5_getValue_6d5f1 0 = .ok (.aload_n 0, 1) := by decide +kernel
theorem dJ5_getValue_6d5f1_1 : decode cJ5_getValue_6d5f1 1 = .ok (.getfield 15, 3) := by decide +kernel
theorem dJ5_getValue_6d5f1_4 : decode cJ5_getValue_6d5f1 4 = .ok (.areturn, 1) := by decide +kernel
theorem dJ5_isLatin1_aae02_0 : decode cJ5_isLatin1_aae02 0 = .ok (.getstatic 18, 3) := by decide +kernel
theorem dJ5_isLatin1_aae02_3 : decode cJ5_isLatin1_aae02 3 = .ok (.ifCond .eq 14, 3) := by decide +kernel
theorem dJ5_isLatin1_aae02_6 : decode cJ5_isLatin1_aae02 6 = .ok (.aload_n 0, 1) := by decide +kernel
theorem dJ5_isLatin1_aae02_7 : decode cJ5_isLatin1_aae02 7 = .ok (.getfield 22, 3) := by decide +kernel
theorem dJ5_isLatin1_aae02_10 : decode cJ5_isLatin1_aae02 10 = .ok (.ifCond .ne 7, 3) := by decide +kernel
theorem dJ5_isLatin1_aae02_13 : decode cJ5_isLatin1_aae02 13 = .ok (.iconst 1, 1) := by decide +kernel
theorem dJ5_isLatin1_aae02_14 : decode cJ5_isLatin1_aae02 14 = .ok (.goto 4, 3) := by decide +kernel
theorem dJ5_isLatin1_aae02_17 : decode cJ5_isLatin1_aae02 17 = .ok (.iconst 0, 1) := by decide +kernel
theorem dJ5_isLatin1_aae02_18 : decode cJ5_isLatin1_aae02 18 = .ok (.ireturn, 1) := by decide +kernel
theorem dJ5_inflateIfNeededFor_a7421_0 : decode cJ5_inflateIfNeededFor_a7421 0 = .ok (.getstatic 18, 3) := by decide +kernel
theorem dJ5_inflateIfNeededFor_a7421_3 : decode cJ5_inflateIfNeededFor_a7421 3 = .ok (.ifCond .eq 18, 3) := by decide +kernel
theorem dJ5_inflateIfNeededFor_a7421_6 : decode cJ5_inflateIfNeededFor_a7421 6 = .ok (.aload_n 0, 1) := by decide +kernel
theorem dJ5_inflateIfNeededFor_a7421_7 : decode cJ5_inflateIfNeededFor_a7421 7 = .ok (.getfield 22, 3) := by decide +kernel
theorem dJ5_inflateIfNeededFor_a7421_10 : decode cJ5_inflateIfNeededFor_a7421 10 = .ok (.aload_n 1, 1) := by decide +kernel
theorem dJ5_inflateIfNeededFor_a7421_11 : decode cJ5_inflateIfNeededFor_a7421 11 = .ok (.invokevirtual 40, 3) := by decide +kernel
theorem dJ5_inflateIfNeededFor_a7421_14 : decode cJ5_inflateIfNeededFor_a7421 14 = .ok (.if_icmp .eq 7, 3) := by decide +kernel
theorem dJ5_inflateIfNeededFor_a7421_17 : decode cJ5_inflateIfNeededFor_a7421 17 = .ok (.aload_n 0, 1) := by decide +kernel
theorem dJ5_inflateIfNeededFor_a7421_18 : decode cJ5_inflateIfNeededFor_a7421 18 = .ok (.invokevirtual 195, 3) := by decide +kernel
theorem dJ5_inflateIfNeededFor_a7421_21 : decode cJ5_inflateIfNeededFor_a7421 21 = .ok (.return_, 1) := by decide +kernel
theorem dJ5_putStringAt_47b60_0 : decode cJ5_putStringAt_47b60 0 = .ok (.aload_n 0, 1) := by decide +kernel
theorem dJ5_putStringAt_47b60_1 : decode cJ5_putStringAt_47b60 1 = .ok (.aload_n 2, 1) := by decide +kernel
theorem dJ5_putStringAt_47b60_2 : decode cJ5_putStringAt_47b60 2 = .ok (.invokevirtual 397, 3) := by decide +kernel
theorem dJ5_putStringAt_47b60_5 : decode cJ5_putStringAt_47b60 5 = .ok (.aload_n 2, 1) := by decide +kernel
theorem dJ5_putStringAt_47b60_6 : decode cJ5_putStringAt_47b60 6 = .ok (.aload_n 0, 1) := by decide +kernel
theorem dJ5_putStringAt_47b60_7 : decode cJ5_putStringAt_47b60 7 = .ok (.getfield 15, 3) := by decide +kernel
theorem dJ5_putStringAt_47b60_10 : decode cJ5_putStringAt_47b60 10 = .ok (.iload_n 1, 1) := by decide +kernel
theorem dJ5_putStringAt_47b60_11 : decode cJ5_putStringAt_47b60 11 = .ok (.aload_n 0, 1) := by decide +kernel
theorem dJ5_putStringAt_47b60_12 : decode cJ5_putStringAt_47b60 12 = .ok (.getfield 22, 3) := by decide +kernel
theorem dJ5_putStringAt_47b60_15 : decode cJ5_putStringAt_47b60 15 = .ok (.invokevirtual 399, 3) := by decide +kernel
theorem dJ5_putStringAt_47b60_18 : decode cJ5_putStringAt_47b60 18 = .ok (.return_, 1) := by decide +kernel
theorem dJx29ce0_ordinal_8abf5_0 : decode cJx29ce0_ordinal_8abf5 0 = .ok (.aload_n 0, 1) := by decide +kernel
theorem dJx29ce0_ordinal_8abf5_1 : decode cJx29ce0_ordinal_8abf5 1 = .ok (.getfield 7, 3) := by decide +kernel
theorem dJx29ce0_ordinal_8abf5_4 : decode cJx29ce0_ordinal_8abf5 4 = .ok (.ireturn, 1) := by decide +kernel
theorem dJ6_getChars_ba4f3_0 : decode cJ6_getChars_ba4f3 0 = .ok (.iload_n 1, 1) := by decide +kernel
theorem dJ6_getChars_ba4f3_1 : decode cJ6_getChars_ba4f3 1 = .ok (.istore 5, 2) := by decide +kernel
theorem dJ6_getChars_ba4f3_3 : decode cJ6_getChars_ba4f3 3 = .ok (.iload_n 0, 1) := by decide +kernel
theorem dJ6_getChars_ba4f3_4 : decode cJ6_getChars_ba4f3 4 = .ok (.ifCond .ge 7, 3) := by decide +kernel
theorem dJ6_getChars_ba4f3_7 : decode cJ6_getChars_ba4f3 7 = .ok (.iconst 1, 1) := by decide +kernel
theorem dJ6_getChars_ba4f3_8 : decode cJ6_getChars_ba4f3 8 = .ok (.goto 4, 3) := by decide +kernel
theorem dJ6_getChars_ba4f3_11 : decode cJ6_getChars_ba4f3 11 = .ok (.iconst 0, 1) := by decide +kernel
theorem dJ6_getChars_ba4f3_12 : decode cJ6_getChars_ba4f3 12 = .ok (.istore 6, 2) := by decide +kernel
theorem dJ6_getChars_ba4f3_14 : decode cJ6_getChars_ba4f3 14 = .ok (.iload 6, 2) := by decide +kernel
theorem dJ6_getChars_ba4f3_16 : decode cJ6_getChars_ba4f3 16 = .ok (.ifCond .ne 6, 3) := by decide +kernel
theorem dJ6_getChars_ba4f3_19 : decode cJ6_getChars_ba4f3 19 = .ok (.iload_n 0, 1) := by decide +kernel
theorem dJ6_getChars_ba4f3_20 : decode cJ6_getChars_ba4f3 20 = .ok (.ineg, 1) := by decide +kernel
theorem dJ6_getChars_ba4f3_21 : decode cJ6_getChars_ba4f3 21 = .ok (.istore_n 0, 1) := by decide +kernel
theorem dJ6_getChars_ba4f3_22 : decode cJ6_getChars_ba4f3 22 = .ok (.iload_n 0, 1) := by decide +kernel
theorem dJ6_getChars_ba4f3_23 : decode cJ6_getChars_ba4f3 23 = .ok (.bipush (-100), 2) := by decide +kernel
theorem dJ6_getChars_ba4f3_25 : decode cJ6_getChars_ba4f3 25 = .ok (.if_icmp .gt 47, 3) := by decide +kernel
theorem dJ6_getChars_ba4f3_28 : decode cJ6_getChars_ba4f3 28 = .ok (.iload_n 0, 1) := by decide +kernel
theorem dJ6_getChars_ba4f3_29 : decode cJ6_getChars_ba4f3 29 = .ok (.bipush 100, 2) := by decide +kernel
theorem dJ6_getChars_ba4f3_31 : decode cJ6_getChars_ba4f3 31 = .ok (.idiv, 1) := by decide +kernel
theorem dJ6_getChars_ba4f3_32 : decode cJ6_getChars_ba4f3 32 = .ok (.istore_n 3, 1) := by decide +kernel
theorem dJ6_getChars_ba4f3_33 : decode cJ6_getChars_ba4f3 33 = .ok (.iload_n 3, 1) := by decide +kernel
theorem dJ6_getChars_ba4f3_34 : decode cJ6_getChars_ba4f3 34 = .ok (.bipush 100, 2) := by decide +kernel
theorem dJ6_getChars_ba4f3_36 : decode cJ6_getChars_ba4f3 36 = .ok (.imul, 1) := by decide +kernel
theorem dJ6_getChars_ba4f3_37 : decode cJ6_getChars_ba4f3 37 = .ok (.iload_n 0, 1) := by decide +kernel
theorem dJ6_getChars_ba4f3_38 : decode cJ6_getChars_ba4f3 38 = .ok (.isub, 1) := by decide +kernel
theorem dJ6_getChars_ba4f3_39 : decode cJ6_getChars_ba4f3 39 = .ok (.istore 4, 2) := by decide +kernel
theorem dJ6_getChars_ba4f3_41 : decode cJ6_getChars_ba4f3 41 = .ok (.iload_n 3, 1) := by decide +kernel
theorem dJ6_getChars_ba4f3_42 : decode cJ6_getChars_ba4f3 42 = .ok (.istore_n 0, 1) := by decide +kernel
theorem dJ6_getChars_ba4f3_43 : decode cJ6_getChars_ba4f3 43 = .ok (.aload_n 2, 1) := by decide +kernel
theorem dJ6_getChars_ba4f3_44 : decode cJ6_getChars_ba4f3 44 = .ok (.iinc 5 (-1), 3) := by decide +kernel
theorem dJ6_getChars_ba4f3_47 : decode cJ6_getChars_ba4f3 47 = .ok (.iload 5, 2) := by decide +kernel
theorem dJ6_getChars_ba4f3_49 : decode cJ6_getChars_ba4f3 49 = .ok (.getstatic 83, 3) := by decide +kernel
theorem dJ6_getChars_ba4f3_52 : decode cJ6_getChars_ba4f3 52 = .ok (.iload 4, 2) := by decide +kernel
theorem dJ6_getChars_ba4f3_54 : decode cJ6_getChars_ba4f3 54 = .ok (.baload, 1) := by decide +kernel
theorem dJ6_getChars_ba4f3_55 : decode cJ6_getChars_ba4f3 55 = .ok (.bastore, 1) := by decide +kernel
theorem dJ6_getChars_ba4f3_56 : decode cJ6_getChars_ba4f3 56 = .ok (.aload_n 2, 1) := by decide +kernel
theorem dJ6_getChars_ba4f3_57 : decode cJ6_getChars_ba4f3 57 = .ok (.iinc 5 (-1), 3) := by decide +kernel
theorem dJ6_getChars_ba4f3_60 : decode cJ6_getChars_ba4f3 60 = .ok (.iload 5, 2) := by decide +kernel
theorem dJ6_getChars_ba4f3_62 : decode cJ6_getChars_ba4f3 62 = .ok (.getstatic 87, 3) := by decide +kernel
theorem dJ6_getChars_ba4f3_65 : decode cJ6_getChars_ba4f3 65 = .ok (.iload 4, 2) := by decide +kernel
theorem dJ6_getChars_ba4f3_67 : decode cJ6_getChars_ba4f3 67 = .ok (.baload, 1) := by decide +kernel
theorem dJ6_getChars_ba4f3_68 : decode cJ6_getChars_ba4f3 68 = .ok (.bastore, 1) := by decide +kernel
theorem dJ6_getChars_ba4f3_69 : decode cJ6_getChars_ba4f3 69 = .ok (.goto (-47), 3) := by decide +kernel
theorem dJ6_getChars_ba4f3_72 : decode cJ6_getChars_ba4f3 72 = .ok (.aload_n 2, 1) := by decide +kernel
theorem dJ6_getChars_ba4f3_73 : decode cJ6_getChars_ba4f3 73 = .ok (.iinc 5 (-1), 3) := by decide +kernel
theorem dJ6_getChars_ba4f3_76 : decode cJ6_getChars_ba4f3 76 = .ok (.iload 5, 2) := by decide +kernel
theorem dJ6_getChars_ba4f3_78 : decode cJ6_getChars_ba4f3 78 = .ok (.getstatic 83, 3) := by decide +kernel
theorem dJ6_getChars_ba4f3_81 : decode cJ6_getChars_ba4f3 81 = .ok (.iload_n 0, 1) := by decide +kernel
theorem dJ6_getChars_ba4f3_82 : decode cJ6_getChars_ba4f3 82 = .ok (.ineg, 1) := by decide +kernel
theorem dJ6_getChars_ba4f3_83 : decode cJ6_getChars_ba4f3 83 = .ok (.baload, 1) := by decide +kernel
theorem dJ6_getChars_ba4f3_84 : decode cJ6_getChars_ba4f3 84 = .ok (.bastore, 1) := by decide +kernel
theorem dJ6_getChars_ba4f3_85 : decode cJ6_getChars_ba4f3 85 = .ok (.iload_n 0, 1) := by decide +kernel
theorem dJ6_getChars_ba4f3_86 : decode cJ6_getChars_ba4f3 86 = .ok (.bipush (-9), 2) := by decide +kernel
theorem dJ6_getChars_ba4f3_88 : decode cJ6_getChars_ba4f3 88 = .ok (.if_icmp .ge 16, 3) := by decide +kernel
theorem dJ6_getChars_ba4f3_91 : decode cJ6_getChars_ba4f3 91 = .ok (.aload_n 2, 1) := by decide +kernel
theorem dJ6_getChars_ba4f3_92 : decode cJ6_getChars_ba4f3 92 = .ok (.iinc 5 (-1), 3) := by decide +kernel
theorem dJ6_getChars_ba4f3_95 : decode cJ6_getChars_ba4f3 95 = .ok (.iload 5, 2) := by decide +kernel
theorem dJ6_getChars_ba4f3_97 : decode cJ6_getChars_ba4f3 97 = .ok (.getstatic 87, 3) := by decide +kernel
theorem dJ6_getChars_ba4f3_100 : decode cJ6_getChars_ba4f3 100 = .ok (.iload_n 0, 1) := by decide +kernel
theorem dJ6_getChars_ba4f3_101 : decode cJ6_getChars_ba4f3 101 = .ok (.ineg, 1) := by decide +kernel
theorem dJ6_getChars_ba4f3_102 : decode cJ6_getChars_ba4f3 102 = .ok (.baload, 1) := by decide +kernel
theorem dJ6_getChars_ba4f3_103 : decode cJ6_getChars_ba4f3 103 = .ok (.bastore, 1) := by decide +kernel
theorem dJ6_getChars_ba4f3_104 : decode cJ6_getChars_ba4f3 104 = .ok (.iload 6, 2) := by decide +kernel
theorem dJ6_getChars_ba4f3_106 : decode cJ6_getChars_ba4f3 106 = .ok (.ifCond .eq 12, 3) := by decide +kernel
theorem dJ6_getChars_ba4f3_109 : decode cJ6_getChars_ba4f3 109 = .ok (.aload_n 2, 1) := by decide +kernel
theorem dJ6_getChars_ba4f3_110 : decode cJ6_getChars_ba4f3 110 = .ok (.iinc 5 (-1), 3) := by decide +kernel
theorem dJ6_getChars_ba4f3_113 : decode cJ6_getChars_ba4f3 113 = .ok (.iload 5, 2) := by decide +kernel
theorem dJ6_getChars_ba4f3_115 : decode cJ6_getChars_ba4f3 115 = .ok (.bipush 45, 2) := by decide +kernel
theorem dJ6_getChars_ba4f3_117 : decode cJ6_getChars_ba4f3 117 = .ok (.bastore, 1) := by decide +kernel
theorem dJ6_getChars_ba4f3_118 : decode cJ6_getChars_ba4f3 118 = .ok (.iload 5, 2) := by decide +kernel
theorem dJ6_getChars_ba4f3_120 : decode cJ6_getChars_ba4f3 120 = .ok (.ireturn, 1) := by decide +kernel
theorem dJ6_stringSize_0f7a4_0 : decode cJ6_stringSize_0f7a4 0 = .ok (.iconst 1, 1) := by decide +kernel
theorem dJ6_stringSize_0f7a4_1 : decode cJ6_stringSize_0f7a4 1 = .ok (.istore_n 1, 1) := by decide +kernel
theorem dJ6_stringSize_0f7a4_2 : decode cJ6_stringSize_0f7a4 2 = .ok (.iload_n 0, 1) := by decide +kernel
theorem dJ6_stringSize_0f7a4_3 : decode cJ6_stringSize_0f7a4 3 = .ok (.ifCond .lt 8, 3) := by decide +kernel
theorem dJ6_stringSize_0f7a4_6 : decode cJ6_stringSize_0f7a4 6 = .ok (.iconst 0, 1) := by decide +kernel
theorem dJ6_stringSize_0f7a4_7 : decode cJ6_stringSize_0f7a4 7 = .ok (.istore_n 1, 1) := by decide +kernel
theorem dJ6_stringSize_0f7a4_8 : decode cJ6_stringSize_0f7a4 8 = .ok (.iload_n 0, 1) := by decide +kernel
theorem dJ6_stringSize_0f7a4_9 : decode cJ6_stringSize_0f7a4 9 = .ok (.ineg, 1) := by decide +kernel
theorem dJ6_stringSize_0f7a4_10 : decode cJ6_stringSize_0f7a4 10 = .ok (.istore_n 0, 1) := by decide +kernel
theorem dJ6_stringSize_0f7a4_11 : decode cJ6_stringSize_0f7a4 11 = .ok (.bipush (-10), 2) := by decide +kernel
theorem dJ6_stringSize_0f7a4_13 : decode cJ6_stringSize_0f7a4 13 = .ok (.istore_n 2, 1) := by decide +kernel
theorem dJ6_stringSize_0f7a4_14 : decode cJ6_stringSize_0f7a4 14 = .ok (.iconst 1, 1) := by decide +kernel
theorem dJ6_stringSize_0f7a4_15 : decode cJ6_stringSize_0f7a4 15 = .ok (.istore_n 3, 1) := by decide +kernel
theorem dJ6_stringSize_0f7a4_16 : decode cJ6_stringSize_0f7a4 16 = .ok (.iload_n 3, 1) := by decide +kernel
theorem dJ6_stringSize_0f7a4_17 : decode cJ6_stringSize_0f7a4 17 = .ok (.bipush 10, 2) := by decide +kernel
theorem dJ6_stringSize_0f7a4_19 : decode cJ6_stringSize_0f7a4 19 = .ok (.if_icmp .ge 23, 3) := by decide +kernel
theorem dJ6_stringSize_0f7a4_22 : decode cJ6_stringSize_0f7a4 22 = .ok (.iload_n 0, 1) := by decide +kernel
theorem dJ6_stringSize_0f7a4_23 : decode cJ6_stringSize_0f7a4 23 = .ok (.iload_n 2, 1) := by decide +kernel
theorem dJ6_stringSize_0f7a4_24 : decode cJ6_stringSize_0f7a4 24 = .ok (.if_icmp .le 7, 3) := by decide +kernel
theorem dJ6_stringSize_0f7a4_27 : decode cJ6_stringSize_0f7a4 27 = .ok (.iload_n 3, 1) := by decide +kernel
theorem dJ6_stringSize_0f7a4_28 : decode cJ6_stringSize_0f7a4 28 = .ok (.iload_n 1, 1) := by decide +kernel
theorem dJ6_stringSize_0f7a4_29 : decode cJ6_stringSize_0f7a4 29 = .ok (.iadd, 1) := by decide +kernel
theorem dJ6_stringSize_0f7a4_30 : decode cJ6_stringSize_0f7a4 30 = .ok (.ireturn, 1) := by decide +kernel
theorem dJ6_stringSize_0f7a4_31 : decode cJ6_stringSize_0f7a4 31 = .ok (.bipush 10, 2) := by decide +kernel
theorem dJ6_stringSize_0f7a4_33 : decode cJ6_stringSize_0f7a4 33 = .ok (.iload_n 2, 1) := by decide +kernel
theorem dJ6_stringSize_0f7a4_34 : decode cJ6_stringSize_0f7a4 34 = .ok (.imul, 1) := by decide +kernel
theorem dJ6_stringSize_0f7a4_35 : decode cJ6_stringSize_0f7a4 35 = .ok (.istore_n 2, 1) := by decide +kernel
theorem dJ6_stringSize_0f7a4_36 : decode cJ6_stringSize_0f7a4 36 = .ok (.iinc 3 1, 3) := by decide +kernel
theorem dJ6_stringSize_0f7a4_39 : decode cJ6_stringSize_0f7a4 39 = .ok (.goto (-23), 3) := by decide +kernel
theorem dJ6_stringSize_0f7a4_42 : decode cJ6_stringSize_0f7a4 42 = .ok (.bipush 10, 2) := by decide +kernel
theorem dJ6_stringSize_0f7a4_44 : decode cJ6_stringSize_0f7a4 44 = .ok (.iload_n 1, 1) := by decide +kernel
theorem dJ6_stringSize_0f7a4_45 : decode cJ6_stringSize_0f7a4 45 = .ok (.iadd, 1) := by decide +kernel
theorem dJ6_stringSize_0f7a4_46 : decode cJ6_stringSize_0f7a4 46 = .ok (.ireturn, 1) := by decide +kernel
theorem dJ6_bitCount_0f7a4_0 : decode cJ6_bitCount_0f7a4 0 = .ok (.iload_n 0, 1) := by decide +kernel
theorem dJ6_bitCount_0f7a4_1 : decode cJ6_bitCount_0f7a4 1 = .ok (.iload_n 0, 1) := by decide +kernel
theorem dJ6_bitCount_0f7a4_2 : decode cJ6_bitCount_0f7a4 2 = .ok (.iconst 1, 1) := by decide +kernel
theorem dJ6_bitCount_0f7a4_3 : decode cJ6_bitCount_0f7a4 3 = .ok (.iushr, 1) := by decide +kernel
theorem dJ6_bitCount_0f7a4_4 : decode cJ6_bitCount_0f7a4 4 = .ok (.ldc_w 265, 3) := by decide +kernel
theorem dJ6_bitCount_0f7a4_7 : decode cJ6_bitCount_0f7a4 7 = .ok (.iand, 1) := by decide +kernel
theorem dJ6_bitCount_0f7a4_8 : decode cJ6_bitCount_0f7a4 8 = .ok (.isub, 1) := by decide +kernel
theorem dJ6_bitCount_0f7a4_9 : decode cJ6_bitCount_0f7a4 9 = .ok (.istore_n 0, 1) := by decide +kernel
theorem dJ6_bitCount_0f7a4_10 : decode cJ6_bitCount_0f7a4 10 = .ok (.iload_n 0, 1) := by decide +kernel
theorem dJ6_bitCount_0f7a4_11 : decode cJ6_bitCount_0f7a4 11 = .ok (.ldc_w 266, 3) := by decide +kernel
theorem dJ6_bitCount_0f7a4_14 : decode cJ6_bitCount_0f7a4 14 = .ok (.iand, 1) := by decide +kernel
theorem dJ6_bitCount_0f7a4_15 : decode cJ6_bitCount_0f7a4 15 = .ok (.iload_n 0, 1) := by decide +kernel
theorem dJ6_bitCount_0f7a4_16 : decode cJ6_bitCount_0f7a4 16 = .ok (.iconst 2, 1) := by decide +kernel
theorem dJ6_bitCount_0f7a4_17 : decode cJ6_bitCount_0f7a4 17 = .ok (.iushr, 1) := by decide +kernel
theorem dJ6_bitCount_0f7a4_18 : decode cJ6_bitCount_0f7a4 18 = .ok (.ldc_w 266, 3) := by decide +kernel
theorem dJ6_bitCount_0f7a4_21 : decode cJ6_bitCount_0f7a4 21 = .ok (.iand, 1) := by decide +kernel
theorem dJ6_bitCount_0f7a4_22 : decode cJ6_bitCount_0f7a4 22 = .ok (.iadd, 1) := by decide +kernel
theorem dJ6_bitCount_0f7a4_23 : decode cJ6_bitCount_0f7a4 23 = .ok (.istore_n 0, 1) := by decide +kernel
theorem dJ6_bitCount_0f7a4_24 : decode cJ6_bitCount_0f7a4 24 = .ok (.iload_n 0, 1) := by decide +kernel
theorem dJ6_bitCount_0f7a4_25 : decode cJ6_bitCount_0f7a4 25 = .ok (.iload_n 0, 1) := by decide +kernel
theorem dJ6_bitCount_0f7a4_26 : decode cJ6_bitCount_0f7a4 26 = .ok (.iconst 4, 1) := by decide +kernel
theorem dJ6_bitCount_0f7a4_27 : decode cJ6_bitCount_0f7a4 27 = .ok (.iushr, 1) := by decide +kernel
theorem dJ6_bitCount_0f7a4_28 : decode cJ6_bitCount_0f7a4 28 = .ok (.iadd, 1) := by decide +kernel
theorem dJ6_bitCount_0f7a4_29 : decode cJ6_bitCount_0f7a4 29 = .ok (.ldc_w 267, 3) := by decide +kernel
theorem dJ6_bitCount_0f7a4_32 : decode cJ6_bitCount_0f7a4 32 = .ok (.iand, 1) := by decide +kernel
theorem dJ6_bitCount_0f7a4_33 : decode cJ6_bitCount_0f7a4 33 = .ok (.istore_n 0, 1) := by decide +kernel
theorem dJ6_bitCount_0f7a4_34 : decode cJ6_bitCount_0f7a4 34 = .ok (.iload_n 0, 1) := by decide +kernel
theorem dJ6_bitCount_0f7a4_35 : decode cJ6_bitCount_0f7a4 35 = .ok (.iload_n 0, 1) := by decide +kernel
theorem dJ6_bitCount_0f7a4_36 : decode cJ6_bitCount_0f7a4 36 = .ok (.bipush 8, 2) := by decide +kernel
theorem dJ6_bitCount_0f7a4_38 : decode cJ6_bitCount_0f7a4 38 = .ok (.iushr, 1) := by decide +kernel
theorem dJ6_bitCount_0f7a4_39 : decode cJ6_bitCount_0f7a4 39 = .ok (.iadd, 1) := by decide +kernel
theorem dJ6_bitCount_0f7a4_40 : decode cJ6_bitCount_0f7a4 40 = .ok (.istore_n 0, 1) := by decide +kernel
theorem dJ6_bitCount_0f7a4_41 : decode cJ6_bitCount_0f7a4 41 = .ok (.iload_n 0, 1) := by decide +kernel
theorem dJ6_bitCount_0f7a4_42 : decode cJ6_bitCount_0f7a4 42 = .ok (.iload_n 0, 1) := by decide +kernel
theorem dJ6_bitCount_0f7a4_43 : decode cJ6_bitCount_0f7a4 43 = .ok (.bipush 16, 2) := by decide +kernel
theorem dJ6_bitCount_0f7a4_45 : decode cJ6_bitCount_0f7a4 45 = .ok (.iushr, 1) := by decide +kernel
theorem dJ6_bitCount_0f7a4_46 : decode cJ6_bitCount_0f7a4 46 = .ok (.iadd, 1) := by decide +kernel
theorem dJ6_bitCount_0f7a4_47 : decode cJ6_bitCount_0f7a4 47 = .ok (.istore_n 0, 1) := by decide +kernel
theorem dJ6_bitCount_0f7a4_48 : decode cJ6_bitCount_0f7a4 48 = .ok (.iload_n 0, 1) := by decide +kernel
theorem dJ6_bitCount_0f7a4_49 : decode cJ6_bitCount_0f7a4 49 = .ok (.bipush 63, 2) := by decide +kernel
theorem dJ6_bitCount_0f7a4_51 : decode cJ6_bitCount_0f7a4 51 = .ok (.iand, 1) := by decide +kernel
theorem dJ6_bitCount_0f7a4_52 : decode cJ6_bitCount_0f7a4 52 = .ok (.ireturn, 1) := by decide +kernel
theorem dJ9_abs_0f7a4_0 : decode cJ9_abs_0f7a4 0 = .ok (.iload_n 0, 1) := by decide +kernel
theorem dJ9_abs_0f7a4_1 : decode cJ9_abs_0f7a4 1 = .ok (.ifCond .ge 8, 3) := by decide +kernel
theorem dJ9_abs_0f7a4_4 : decode cJ9_abs_0f7a4 4 = .ok (.iload_n 0, 1) := by decide +kernel
theorem dJ9_abs_0f7a4_5 : decode cJ9_abs_0f7a4 5 = .ok (.ineg, 1) := by decide +kernel
theorem dJ9_abs_0f7a4_6 : decode cJ9_abs_0f7a4 6 = .ok (.goto 4, 3) := by decide +kernel
theorem dJ9_abs_0f7a4_9 : decode cJ9_abs_0f7a4 9 = .ok (.iload_n 0, 1) := by decide +kernel
theorem dJ9_abs_0f7a4_10 : decode cJ9_abs_0f7a4 10 = .ok (.ireturn, 1) := by decide +kernel
theorem dJ9_max_7cf53_0 : decode cJ9_max_7cf53 0 = .ok (.iload_n 0, 1) := by decide +kernel
theorem dJ9_max_7cf53_1 : decode cJ9_max_7cf53 1 = .ok (.iload_n 1, 1) := by decide +kernel
theorem dJ9_max_7cf53_2 : decode cJ9_max_7cf53 2 = .ok (.if_icmp .lt 7, 3) := by decide +kernel
theorem dJ9_max_7cf53_5 : decode cJ9_max_7cf53 5 = .ok (.iload_n 0, 1) := by decide +kernel
theorem dJ9_max_7cf53_6 : decode cJ9_max_7cf53 6 = .ok (.goto 4, 3) := by decide +kernel
theorem dJ9_max_7cf53_9 : decode cJ9_max_7cf53 9 = .ok (.iload_n 1, 1) := by decide +kernel
theorem dJ9_max_7cf53_10 : decode cJ9_max_7cf53 10 = .ok (.ireturn, 1) := by decide +kernel
theorem dJ9_min_7cf53_0 : decode cJ9_min_7cf53 0 = .ok (.iload_n 0, 1) := by decide +kernel
theorem dJ9_min_7cf53_1 : decode cJ9_min_7cf53 1 = .ok (.iload_n 1, 1) := by decide +kernel
theorem dJ9_min_7cf53_2 : decode cJ9_min_7cf53 2 = .ok (.if_icmp .gt 7, 3) := by decide +kernel
theorem dJ9_min_7cf53_5 : decode cJ9_min_7cf53 5 = .ok (.iload_n 0, 1) := by decide +kernel
theorem dJ9_min_7cf53_6 : decode cJ9_min_7cf53 6 = .ok (.goto 4, 3) := by decide +kernel
theorem dJ9_min_7cf53_9 : decode cJ9_min_7cf53 9 = .ok (.iload_n 1, 1) := by decide +kernel
theorem dJ9_min_7cf53_10 : decode cJ9_min_7cf53 10 = .ok (.ireturn, 1) := by decide +kernel
theorem dJ0_init_81219_0 : decode cJ0_init_81219 0 = .ok (.aload_n 0, 1) := by decide +kernel
theorem dJ0_init_81219_1 : decode cJ0_init_81219 1 = .ok (.aload_n 1, 1) := by decide +kernel
theorem dJ0_init_81219_2 : decode cJ0_init_81219 2 = .ok (.aconst_null, 1) := by decide +kernel
theorem dJ0_init_81219_3 : decode cJ0_init_81219 3 = .ok (.invokespecial 489, 3) := by decide +kernel
theorem dJ0_init_81219_6 : decode cJ0_init_81219 6 = .ok (.return_, 1) := by decide +kernel
theorem dJ0_length_8abf5_0 : decode cJ0_length_8abf5 0 = .ok (.aload_n 0, 1) := by decide +kernel
theorem dJ0_length_8abf5_1 : decode cJ0_length_8abf5 1 = .ok (.getfield 9, 3) := by decide +kernel
theorem dJ0_length_8abf5_4 : decode cJ0_length_8abf5 4 = .ok (.arraylength, 1) := by decide +kernel
theorem dJ0_length_8abf5_5 : decode cJ0_length_8abf5 5 = .ok (.aload_n 0, 1) := by decide +kernel
theorem dJ0_length_8abf5_6 : decode cJ0_length_8abf5 6 = .ok (.invokevirtual 335, 3) := by decide +kernel
theorem dJ0_length_8abf5_9 : decode cJ0_length_8abf5 9 = .ok (.ishr, 1) := by decide +kernel
theorem dJ0_length_8abf5_10 : decode cJ0_length_8abf5 10 = .ok (.ireturn, 1) := by decide +kernel
theorem dJ0_charAt_5068e_0 : decode cJ0_charAt_5068e 0 = .ok (.aload_n 0, 1) := by decide +kernel
theorem dJ0_charAt_5068e_1 : decode cJ0_charAt_5068e 1 = .ok (.invokevirtual 492, 3) := by decide +kernel
theorem dJ0_charAt_5068e_4 : decode cJ0_charAt_5068e 4 = .ok (.ifCond .eq 12, 3) := by decide +kernel
theorem dJ0_charAt_5068e_7 : decode cJ0_charAt_5068e 7 = .ok (.aload_n 0, 1) := by decide +kernel
theorem dJ0_charAt_5068e_8 : decode cJ0_charAt_5068e 8 = .ok (.getfield 9, 3) := by decide +kernel
theorem dJ0_charAt_5068e_11 : decode cJ0_charAt_5068e 11 = .ok (.iload_n 1, 1) := by decide +kernel
theorem dJ0_charAt_5068e_12 : decode cJ0_charAt_5068e 12 = .ok (.invokestatic 495, 3) := by decide +kernel
theorem dJ0_charAt_5068e_15 : decode cJ0_charAt_5068e 15 = .ok (.ireturn, 1) := by decide +kernel
theorem dJ0_charAt_5068e_16 : decode cJ0_charAt_5068e 16 = .ok (.aload_n 0, 1) := by decide +kernel
theorem dJ0_charAt_5068e_17 : decode cJ0_charAt_5068e 17 = .ok (.getfield 9, 3) := by decide +kernel
theorem dJ0_charAt_5068e_20 : decode cJ0_charAt_5068e 20 = .ok (.iload_n 1, 1) := by decide +kernel
theorem dJ0_charAt_5068e_21 : decode cJ0_charAt_5068e 21 = .ok (.invokestatic 498, 3) := by decide +kernel
theorem dJ0_charAt_5068e_24 : decode cJ0_charAt_5068e 24 = .ok (.ireturn, 1) := by decide +kernel
theorem dJ0_getBytes_840e7_0 : decode cJ0_getBytes_840e7 0 = .ok (.aload_n 0, 1) := by decide +kernel
theorem dJ0_getBytes_840e7_1 : decode cJ0_getBytes_840e7 1 = .ok (.invokevirtual 335, 3) := by decide +kernel
theorem dJ0_getBytes_840e7_4 : decode cJ0_getBytes_840e7 4 = .ok (.iload_n 3, 1) := by decide +kernel
theorem dJ0_getBytes_840e7_5 : decode cJ0_getBytes_840e7 5 = .ok (.if_icmp .ne 23, 3) := by decide +kernel
theorem dJ0_getBytes_840e7_8 : decode cJ0_getBytes_840e7 8 = .ok (.aload_n 0, 1) := by decide +kernel
theorem dJ0_getBytes_840e7_9 : decode cJ0_getBytes_840e7 9 = .ok (.getfield 9, 3) := by decide +kernel
theorem dJ0_getBytes_840e7_12 : decode cJ0_getBytes_840e7 12 = .ok (.iconst 0, 1) := by decide +kernel
theorem dJ0_getBytes_840e7_13 : decode cJ0_getBytes_840e7 13 = .ok (.aload_n 1, 1) := by decide +kernel
theorem dJ0_getBytes_840e7_14 : decode cJ0_getBytes_840e7 14 = .ok (.iload_n 2, 1) := by decide +kernel
theorem dJ0_getBytes_840e7_15 : decode cJ0_getBytes_840e7 15 = .ok (.iload_n 3, 1) := by decide +kernel
theorem dJ0_getBytes_840e7_16 : decode cJ0_getBytes_840e7 16 = .ok (.ishl, 1) := by decide +kernel
theorem dJ0_getBytes_840e7_17 : decode cJ0_getBytes_840e7 17 = .ok (.aload_n 0, 1) := by decide +kernel
theorem dJ0_getBytes_840e7_18 : decode cJ0_getBytes_840e7 18 = .ok (.getfield 9, 3) := by decide +kernel
theorem dJ0_getBytes_840e7_21 : decode cJ0_getBytes_840e7 21 = .ok (.arraylength, 1) := by decide +kernel
theorem dJ0_getBytes_840e7_22 : decode cJ0_getBytes_840e7 22 = .ok (.invokestatic 212, 3) := by decide +kernel
theorem dJ0_getBytes_840e7_25 : decode cJ0_getBytes_840e7 25 = .ok (.goto 18, 3) := by decide +kernel
theorem dJ0_getBytes_840e7_28 : decode cJ0_getBytes_840e7 28 = .ok (.aload_n 0, 1) := by decide +kernel
theorem dJ0_getBytes_840e7_29 : decode cJ0_getBytes_840e7 29 = .ok (.getfield 9, 3) := by decide +kernel
theorem dJ0_getBytes_840e7_32 : decode cJ0_getBytes_840e7 32 = .ok (.iconst 0, 1) := by decide +kernel
theorem dJ0_getBytes_840e7_33 : decode cJ0_getBytes_840e7 33 = .ok (.aload_n 1, 1) := by decide +kernel
theorem dJ0_getBytes_840e7_34 : decode cJ0_getBytes_840e7 34 = .ok (.iload_n 2, 1) := by decide +kernel
theorem dJ0_getBytes_840e7_35 : decode cJ0_getBytes_840e7 35 = .ok (.aload_n 0, 1) := by decide +kernel
theorem dJ0_getBytes_840e7_36 : decode cJ0_getBytes_840e7 36 = .ok (.getfield 9, 3) := by decide +kernel
theorem dJ0_getBytes_840e7_39 : decode cJ0_getBytes_840e7 39 = .ok (.arraylength, 1) := by decide +kernel
theorem dJ0_getBytes_840e7_40 : decode cJ0_getBytes_840e7 40 = .ok (.invokestatic 106, 3) := by decide +kernel
theorem dJ0_getBytes_840e7_43 : decode cJ0_getBytes_840e7 43 = .ok (.return_, 1) := by decide +kernel
theorem dJ0_init_db425_0 : decode cJ0_init_db425 0 = .ok (.aload_n 0, 1) := by decide +kernel
theorem dJ0_init_db425_1 : decode cJ0_init_db425 1 = .ok (.invokespecial 1, 3) := by decide +kernel
theorem dJ0_init_db425_4 : decode cJ0_init_db425 4 = .ok (.aload_n 1, 1) := by decide +kernel
theorem dJ0_init_db425_5 : decode cJ0_init_db425 5 = .ok (.invokevirtual 552, 3) := by decide +kernel
theorem dJ0_init_db425_8 : decode cJ0_init_db425 8 = .ok (.astore_n 3, 1) := by decide +kernel
theorem dJ0_init_db425_9 : decode cJ0_init_db425 9 = .ok (.aload_n 1, 1) := by decide +kernel
theorem dJ0_init_db425_10 : decode cJ0_init_db425 10 = .ok (.invokevirtual 549, 3) := by decide +kernel
theorem dJ0_init_db425_13 : decode cJ0_init_db425 13 = .ok (.istore 4, 2) := by decide +kernel
theorem dJ0_init_db425_15 : decode cJ0_init_db425 15 = .ok (.aload_n 1, 1) := by decide +kernel
theorem dJ0_init_db425_16 : decode cJ0_init_db425 16 = .ok (.invokevirtual 1047, 3) := by decide +kernel
theorem dJ0_init_db425_19 : decode cJ0_init_db425 19 = .ok (.ifCond .eq 22, 3) := by decide +kernel
theorem dJ0_init_db425_22 : decode cJ0_init_db425 22 = .ok (.aload_n 0, 1) := by decide +kernel
theorem dJ0_init_db425_23 : decode cJ0_init_db425 23 = .ok (.iconst 0, 1) := by decide +kernel
theorem dJ0_init_db425_24 : decode cJ0_init_db425 24 = .ok (.putfield 15, 3) := by decide +kernel
theorem dJ0_init_db425_27 : decode cJ0_init_db425 27 = .ok (.aload_n 0, 1) := by decide +kernel
theorem dJ0_init_db425_28 : decode cJ0_init_db425 28 = .ok (.aload_n 3, 1) := by decide +kernel
theorem dJ0_init_db425_29 : decode cJ0_init_db425 29 = .ok (.iconst 0, 1) := by decide +kernel
theorem dJ0_init_db425_30 : decode cJ0_init_db425 30 = .ok (.iload 4, 2) := by decide +kernel
theorem dJ0_init_db425_32 : decode cJ0_init_db425 32 = .ok (.invokestatic 54, 3) := by decide +kernel
theorem dJ0_init_db425_35 : decode cJ0_init_db425 35 = .ok (.putfield 9, 3) := by decide +kernel
theorem dJ0_init_db425_38 : decode cJ0_init_db425 38 = .ok (.goto 59, 3) := by decide +kernel
theorem dJ0_init_db425_41 : decode cJ0_init_db425 41 = .ok (.getstatic 38, 3) := by decide +kernel
theorem dJ0_init_db425_44 : decode cJ0_init_db425 44 = .ok (.ifCond .eq 35, 3) := by decide +kernel
theorem dJ0_init_db425_47 : decode cJ0_init_db425 47 = .ok (.aload_n 1, 1) := by decide +kernel
theorem dJ0_init_db425_48 : decode cJ0_init_db425 48 = .ok (.getfield 1048, 3) := by decide +kernel
theorem dJ0_init_db425_51 : decode cJ0_init_db425 51 = .ok (.ifCond .eq 28, 3) := by decide +kernel
theorem dJ0_init_db425_54 : decode cJ0_init_db425 54 = .ok (.aload_n 0, 1) := by decide +kernel
theorem dJ0_init_db425_55 : decode cJ0_init_db425 55 = .ok (.aload_n 3, 1) := by decide +kernel
theorem dJ0_init_db425_56 : decode cJ0_init_db425 56 = .ok (.iconst 0, 1) := by decide +kernel
theorem dJ0_init_db425_57 : decode cJ0_init_db425 57 = .ok (.iload 4, 2) := by decide +kernel
theorem dJ0_init_db425_59 : decode cJ0_init_db425 59 = .ok (.invokestatic 1051, 3) := by decide +kernel
theorem dJ0_init_db425_62 : decode cJ0_init_db425 62 = .ok (.putfield 9, 3) := by decide +kernel
theorem dJ0_init_db425_65 : decode cJ0_init_db425 65 = .ok (.aload_n 0, 1) := by decide +kernel
theorem dJ0_init_db425_66 : decode cJ0_init_db425 66 = .ok (.aload_n 0, 1) := by decide +kernel
theorem dJ0_init_db425_67 : decode cJ0_init_db425 67 = .ok (.getfield 9, 3) := by decide +kernel
theorem dJ0_init_db425_70 : decode cJ0_init_db425 70 = .ok (.iload 4, 2) := by decide +kernel
theorem dJ0_init_db425_72 : decode cJ0_init_db425 72 = .ok (.invokestatic 47, 3) := by decide +kernel
theorem dJ0_init_db425_75 : decode cJ0_init_db425 75 = .ok (.putfield 15, 3) := by decide +kernel
theorem dJ0_init_db425_78 : decode cJ0_init_db425 78 = .ok (.return_, 1) := by decide +kernel
theorem dJ0_init_db425_79 : decode cJ0_init_db425 79 = .ok (.aload_n 0, 1) := by decide +kernel
theorem dJ0_init_db425_80 : decode cJ0_init_db425 80 = .ok (.iconst 1, 1) := by decide +kernel
theorem dJ0_init_db425_81 : decode cJ0_init_db425 81 = .ok (.putfield 15, 3) := by decide +kernel
theorem dJ0_init_db425_84 : decode cJ0_init_db425 84 = .ok (.aload_n 0, 1) := by decide +kernel
theorem dJ0_init_db425_85 : decode cJ0_init_db425 85 = .ok (.aload_n 3, 1) := by decide +kernel
theorem dJ0_init_db425_86 : decode cJ0_init_db425 86 = .ok (.iconst 0, 1) := by decide +kernel
theorem dJ0_init_db425_87 : decode cJ0_init_db425 87 = .ok (.iload 4, 2) := by decide +kernel
theorem dJ0_init_db425_89 : decode cJ0_init_db425 89 = .ok (.iconst 1, 1) := by decide +kernel
theorem dJ0_init_db425_90 : decode cJ0_init_db425 90 = .ok (.ishl, 1) := by decide +kernel
theorem dJ0_init_db425_91 : decode cJ0_init_db425 91 = .ok (.invokestatic 54, 3) := by decide +kernel
theorem dJ0_init_db425_94 : decode cJ0_init_db425 94 = .ok (.putfield 9, 3) := by decide +kernel
theorem dJ0_init_db425_97 : decode cJ0_init_db425 97 = .ok (.return_, 1) := by decide +kernel
theorem dJ0_coder_7d493_0 : decode cJ0_coder_7d493 0 = .ok (.getstatic 38, 3) := by decide +kernel
theorem dJ0_coder_7d493_3 : decode cJ0_coder_7d493 3 = .ok (.ifCond .eq 10, 3) := by decide +kernel
theorem dJ0_coder_7d493_6 : decode cJ0_coder_7d493 6 = .ok (.aload_n 0, 1) := by decide +kernel
theorem dJ0_coder_7d493_7 : decode cJ0_coder_7d493 7 = .ok (.getfield 15, 3) := by decide +kernel
theorem dJ0_coder_7d493_10 : decode cJ0_coder_7d493 10 = .ok (.goto 4, 3) := by decide +kernel
theorem dJ0_coder_7d493_13 : decode cJ0_coder_7d493 13 = .ok (.iconst 1, 1) := by decide +kernel
theorem dJ0_coder_7d493_14 : decode cJ0_coder_7d493 14 = .ok (.ireturn, 1) := by decide +kernel
theorem dJ0_isLatin1_aae02_0 : decode cJ0_isLatin1_aae02 0 = .ok (.getstatic 38, 3) := by decide +kernel
theorem dJ0_isLatin1_aae02_3 : decode cJ0_isLatin1_aae02 3 = .ok (.ifCond .eq 14, 3) := by decide +kernel
theorem dJ0_isLatin1_aae02_6 : decode cJ0_isLatin1_aae02 6 = .ok (.aload_n 0, 1) := by decide +kernel
theorem dJ0_isLatin1_aae02_7 : decode cJ0_isLatin1_aae02 7 = .ok (.getfield 15, 3) := by decide +kernel
theorem dJ0_isLatin1_aae02_10 : decode cJ0_isLatin1_aae02 10 = .ok (.ifCond .ne 7, 3) := by decide +kernel
theorem dJ0_isLatin1_aae02_13 : decode cJ0_isLatin1_aae02 13 = .ok (.iconst 1, 1) := by decide +kernel
theorem dJ0_isLatin1_aae02_14 : decode cJ0_isLatin1_aae02 14 = .ok (.goto 4, 3) := by decide +kernel
theorem dJ0_isLatin1_aae02_17 : decode cJ0_isLatin1_aae02 17 = .ok (.iconst 0, 1) := by decide +kernel
theorem dJ0_isLatin1_aae02_18 : decode cJ0_isLatin1_aae02 18 = .ok (.ireturn, 1) := by decide +kernel
theorem dJ0_checkIndex_df160_0 : decode cJ0_checkIndex_df160 0 = .ok (.iload_n 0, 1) := by decide +kernel
theorem dJ0_checkIndex_df160_1 : decode cJ0_checkIndex_df160 1 = .ok (.iload_n 1, 1) := by decide +kernel
theorem dJ0_checkIndex_df160_2 : decode cJ0_checkIndex_df160 2 = .ok (.getstatic 1053, 3) := by decide +kernel
theorem dJ0_checkIndex_df160_5 : decode cJ0_checkIndex_df160 5 = .ok (.invokestatic 1059, 3) := by decide +kernel
theorem dJ0_checkIndex_df160_8 : decode cJ0_checkIndex_df160 8 = .ok (.pop, 1) := by decide +kernel
theorem dJ0_checkIndex_df160_9 : decode cJ0_checkIndex_df160 9 = .ok (.return_, 1) := by decide +kernel
theorem dJ0_checkBoundsOffCount_cabcc_0 : decode cJ0_checkBoundsOffCount_cabcc 0 = .ok (.iload_n 0, 1) := by decide +kernel
theorem dJ0_checkBoundsOffCount_cabcc_1 : decode cJ0_checkBoundsOffCount_cabcc 1 = .ok (.iload_n 1, 1) := by decide +kernel
theorem dJ0_checkBoundsOffCount_cabcc_2 : decode cJ0_checkBoundsOffCount_cabcc 2 = .ok (.iload_n 2, 1) := by decide +kernel
theorem dJ0_checkBoundsOffCount_cabcc_3 : decode cJ0_checkBoundsOffCount_cabcc 3 = .ok (.getstatic 1053, 3) := by decide +kernel
theorem dJ0_checkBoundsOffCount_cabcc_6 : decode cJ0_checkBoundsOffCount_cabcc 6 = .ok (.invokestatic 1065, 3) := by decide +kernel
theorem dJ0_checkBoundsOffCount_cabcc_9 : decode cJ0_checkBoundsOffCount_cabcc 9 = .ok (.ireturn, 1) := by decide +kernel
theorem dJ0_checkBoundsBeginEnd_23922_0 : decode cJ0_checkBoundsBeginEnd_23922 0 = .ok (.iload_n 0, 1) := by decide +kernel
theorem dJ0_checkBoundsBeginEnd_23922_1 : decode cJ0_checkBoundsBeginEnd_23922 1 = .ok (.iload_n 1, 1) := by decide +kernel
theorem dJ0_checkBoundsBeginEnd_23922_2 : decode cJ0_checkBoundsBeginEnd_23922 2 = .ok (.iload_n 2, 1) := by decide +kernel
theorem dJ0_checkBoundsBeginEnd_23922_3 : decode cJ0_checkBoundsBeginEnd_23922 3 = .ok (.getstatic 1053, 3) := by decide +kernel
theorem dJ0_checkBoundsBeginEnd_23922_6 : decode cJ0_checkBoundsBeginEnd_23922 6 = .ok (.invokestatic 1062, 3) := by decide +kernel
theorem dJ0_checkBoundsBeginEnd_23922_9 : decode cJ0_checkBoundsBeginEnd_23922 9 = .ok (.pop, 1) := by decide +kernel
theorem dJ0_checkBoundsBeginEnd_23922_10 : decode cJ0_checkBoundsBeginEnd_23922 10 = .ok (.return_, 1) := by decide +kernel
theorem dJ4_init_da8c8_0 : decode cJ4_init_da8c8 0 = .ok (.aload_n 0, 1) := by decide +kernel
theorem dJ4_init_da8c8_1 : decode cJ4_init_da8c8 1 = .ok (.bipush 16, 2) := by decide +kernel
theorem dJ4_init_da8c8_3 : decode cJ4_init_da8c8 3 = .ok (.invokespecial 1, 3) := by decide +kernel
theorem dJ4_init_da8c8_6 : decode cJ4_init_da8c8 6 = .ok (.return_, 1) := by decide +kernel
theorem dJ4_init_a7421_0 : decode cJ4_init_a7421 0 = .ok (.aload_n 0, 1) := by decide +kernel
theorem dJ4_init_a7421_1 : decode cJ4_init_a7421 1 = .ok (.aload_n 1, 1) := by decide +kernel
theorem dJ4_init_a7421_2 : decode cJ4_init_a7421 2 = .ok (.invokespecial 7, 3) := by decide +kernel
theorem dJ4_init_a7421_5 : decode cJ4_init_a7421 5 = .ok (.return_, 1) := by decide +kernel
theorem dJ4_append_15ec4_0 : decode cJ4_append_15ec4 0 = .ok (.aload_n 0, 1) := by decide +kernel
theorem dJ4_append_15ec4_1 : decode cJ4_append_15ec4 1 = .ok (.aload_n 1, 1) := by decide +kernel
theorem dJ4_append_15ec4_2 : decode cJ4_append_15ec4 2 = .ok (.invokespecial 29, 3) := by decide +kernel
theorem dJ4_append_15ec4_5 : decode cJ4_append_15ec4 5 = .ok (.pop, 1) := by decide +kernel
theorem dJ4_append_15ec4_6 : decode cJ4_append_15ec4 6 = .ok (.aload_n 0, 1) := by decide +kernel
theorem dJ4_append_15ec4_7 : decode cJ4_append_15ec4 7 = .ok (.areturn, 1) := by decide +kernel
theorem dJ4_append_bf812_0 : decode cJ4_append_bf812 0 = .ok (.aload_n 0, 1) := by decide +kernel
theorem dJ4_append_bf812_1 : decode cJ4_append_bf812 1 = .ok (.iload_n 1, 1) := by decide +kernel
theorem dJ4_append_bf812_2 : decode cJ4_append_bf812 2 = .ok (.invokespecial 53, 3) := by decide +kernel
theorem dJ4_append_bf812_5 : decode cJ4_append_bf812 5 = .ok (.pop, 1) := by decide +kernel
theorem dJ4_append_bf812_6 : decode cJ4_append_bf812 6 = .ok (.aload_n 0, 1) := by decide +kernel
theorem dJ4_append_bf812_7 : decode cJ4_append_bf812 7 = .ok (.areturn, 1) := by decide +kernel
theorem dJ4_toString_0e30d_0 : decode cJ4_toString_0e30d 0 = .ok (.new 18, 3) := by decide +kernel
theorem dJ4_toString_0e30d_3 : decode cJ4_toString_0e30d 3 = .ok (.dup, 1) := by decide +kernel
theorem dJ4_toString_0e30d_4 : decode cJ4_toString_0e30d 4 = .ok (.aload_n 0, 1) := by decide +kernel
theorem dJ4_toString_0e30d_5 : decode cJ4_toString_0e30d 5 = .ok (.invokespecial 137, 3) := by decide +kernel
theorem dJ4_toString_0e30d_8 : decode cJ4_toString_0e30d 8 = .ok (.areturn, 1) := by decide +kernel
theorem dJ4_append_cf1ce_0 : decode cJ4_append_cf1ce 0 = .ok (.aload_n 0, 1) := by decide +kernel
theorem dJ4_append_cf1ce_1 : decode cJ4_append_cf1ce 1 = .ok (.aload_n 1, 1) := by decide +kernel
theorem dJ4_append_cf1ce_2 : decode cJ4_append_cf1ce 2 = .ok (.invokevirtual 23, 3) := by decide +kernel
theorem dJ4_append_cf1ce_5 : decode cJ4_append_cf1ce 5 = .ok (.areturn, 1) := by decide +kernel
theorem dJ4_length_8abf5_0 : decode cJ4_length_8abf5 0 = .ok (.aload_n 0, 1) := by decide +kernel
theorem dJ4_length_8abf5_1 : decode cJ4_length_8abf5 1 = .ok (.invokespecial 343, 3) := by decide +kernel
theorem dJ4_length_8abf5_4 : decode cJ4_length_8abf5 4 = .ok (.ireturn, 1) := by decide +kernel
theorem dJ1_charAt_3b067_0 : decode cJ1_charAt_3b067 0 = .ok (.iload_n 1, 1) := by decide +kernel
theorem dJ1_charAt_3b067_1 : decode cJ1_charAt_3b067 1 = .ok (.aload_n 0, 1) := by decide +kernel
theorem dJ1_charAt_3b067_2 : decode cJ1_charAt_3b067 2 = .ok (.arraylength, 1) := by decide +kernel
theorem dJ1_charAt_3b067_3 : decode cJ1_charAt_3b067 3 = .ok (.invokestatic 9, 3) := by decide +kernel
theorem dJ1_charAt_3b067_6 : decode cJ1_charAt_3b067 6 = .ok (.aload_n 0, 1) := by decide +kernel
theorem dJ1_charAt_3b067_7 : decode cJ1_charAt_3b067 7 = .ok (.iload_n 1, 1) := by decide +kernel
theorem dJ1_charAt_3b067_8 : decode cJ1_charAt_3b067 8 = .ok (.baload, 1) := by decide +kernel
theorem dJ1_charAt_3b067_9 : decode cJ1_charAt_3b067 9 = .ok (.sipush 255, 3) := by decide +kernel
theorem dJ1_charAt_3b067_12 : decode cJ1_charAt_3b067 12 = .ok (.iand, 1) := by decide +kernel
theorem dJ1_charAt_3b067_13 : decode cJ1_charAt_3b067 13 = .ok (.i2c, 1) := by decide +kernel
theorem dJ1_charAt_3b067_14 : decode cJ1_charAt_3b067 14 = .ok (.ireturn, 1) := by decide +kernel
theorem dJ1_inflate_0e8fd_0 : decode cJ1_inflate_0e8fd 0 = .ok (.aload_n 0, 1) := by decide +kernel
theorem dJ1_inflate_0e8fd_1 : decode cJ1_inflate_0e8fd 1 = .ok (.iload_n 1, 1) := by decide +kernel
theorem dJ1_inflate_0e8fd_2 : decode cJ1_inflate_0e8fd 2 = .ok (.aload_n 2, 1) := by decide +kernel
theorem dJ1_inflate_0e8fd_3 : decode cJ1_inflate_0e8fd 3 = .ok (.iload_n 3, 1) := by decide +kernel
theorem dJ1_inflate_0e8fd_4 : decode cJ1_inflate_0e8fd 4 = .ok (.iload 4, 2) := by decide +kernel
theorem dJ1_inflate_0e8fd_6 : decode cJ1_inflate_0e8fd 6 = .ok (.invokestatic 240, 3) := by decide +kernel
theorem dJ1_inflate_0e8fd_9 : decode cJ1_inflate_0e8fd 9 = .ok (.return_, 1) := by decide +kernel
theorem dJ2_newBytesFor_77867_0 : decode cJ2_newBytesFor_77867 0 = .ok (.iload_n 0, 1) := by decide +kernel
theorem dJ2_newBytesFor_77867_1 : decode cJ2_newBytesFor_77867 1 = .ok (.invokestatic 11, 3) := by decide +kernel
theorem dJ2_newBytesFor_77867_4 : decode cJ2_newBytesFor_77867 4 = .ok (.newarray .byte, 2) := by decide +kernel
theorem dJ2_newBytesFor_77867_6 : decode cJ2_newBytesFor_77867 6 = .ok (.areturn, 1) := by decide +kernel
theorem dJ2_newBytesLength_0f7a4_0 : decode cJ2_newBytesLength_0f7a4 0 = .ok (.iload_n 0, 1) := by decide +kernel
theorem dJ2_newBytesLength_0f7a4_1 : decode cJ2_newBytesLength_0f7a4 1 = .ok (.ifCond .ge 11, 3) := by decide +kernel
theorem dJ2_newBytesLength_0f7a4_4 : decode cJ2_newBytesLength_0f7a4 4 = .ok (.new 17, 3) := by decide +kernel
theorem dJ2_newBytesLength_0f7a4_7 : decode cJ2_newBytesLength_0f7a4 7 = .ok (.dup, 1) := by decide +kernel
theorem dJ2_newBytesLength_0f7a4_8 : decode cJ2_newBytesLength_0f7a4 8 = .ok (.invokespecial 19, 3) := by decide +kernel
theorem dJ2_newBytesLength_0f7a4_11 : decode cJ2_newBytesLength_0f7a4 11 = .ok (.athrow, 1) := by decide +kernel
theorem dJ2_newBytesLength_0f7a4_12 : decode cJ2_newBytesLength_0f7a4 12 = .ok (.iload_n 0, 1) := by decide +kernel
theorem dJ2_newBytesLength_0f7a4_13 : decode cJ2_newBytesLength_0f7a4 13 = .ok (.ldc 20, 2) := by decide +kernel
theorem dJ2_newBytesLength_0f7a4_15 : decode cJ2_newBytesLength_0f7a4 15 = .ok (.if_icmp .lt 40, 3) := by decide +kernel
theorem dJ2_newBytesLength_0f7a4_18 : decode cJ2_newBytesLength_0f7a4 18 = .ok (.new 21, 3) := by decide +kernel
theorem dJ2_newBytesLength_0f7a4_21 : decode cJ2_newBytesLength_0f7a4 21 = .ok (.dup, 1) := by decide +kernel
theorem dJ2_newBytesLength_0f7a4_22 : decode cJ2_newBytesLength_0f7a4 22 = .ok (.new 23, 3) := by decide +kernel
theorem dJ2_newBytesLength_0f7a4_25 : decode cJ2_newBytesLength_0f7a4 25 = .ok (.dup, 1) := by decide +kernel
theorem dJ2_newBytesLength_0f7a4_26 : decode cJ2_newBytesLength_0f7a4 26 = .ok (.invokespecial 25, 3) := by decide +kernel
theorem dJ2_newBytesLength_0f7a4_29 : decode cJ2_newBytesLength_0f7a4 29 = .ok (.ldc 26, 2) := by decide +kernel
theorem dJ2_newBytesLength_0f7a4_31 : decode cJ2_newBytesLength_0f7a4 31 = .ok (.invokevirtual 28, 3) := by decide +kernel
theorem dJ2_newBytesLength_0f7a4_34 : decode cJ2_newBytesLength_0f7a4 34 = .ok (.iload_n 0, 1) := by decide +kernel
theorem dJ2_newBytesLength_0f7a4_35 : decode cJ2_newBytesLength_0f7a4 35 = .ok (.invokevirtual 32, 3) := by decide +kernel
theorem dJ2_newBytesLength_0f7a4_38 : decode cJ2_newBytesLength_0f7a4 38 = .ok (.ldc 35, 2) := by decide +kernel
theorem dJ2_newBytesLength_0f7a4_40 : decode cJ2_newBytesLength_0f7a4 40 = .ok (.invokevirtual 28, 3) := by decide +kernel
theorem dJ2_newBytesLength_0f7a4_43 : decode cJ2_newBytesLength_0f7a4 43 = .ok (.ldc 20, 2) := by decide +kernel
theorem dJ2_newBytesLength_0f7a4_45 : decode cJ2_newBytesLength_0f7a4 45 = .ok (.invokevirtual 32, 3) := by decide +kernel
theorem dJ2_newBytesLength_0f7a4_48 : decode cJ2_newBytesLength_0f7a4 48 = .ok (.invokevirtual 37, 3) := by decide +kernel
theorem dJ2_newBytesLength_0f7a4_51 : decode cJ2_newBytesLength_0f7a4 51 = .ok (.invokespecial 41, 3) := by decide +kernel
theorem dJ2_newBytesLength_0f7a4_54 : decode cJ2_newBytesLength_0f7a4 54 = .ok (.athrow, 1) := by decide +kernel
theorem dJ2_newBytesLength_0f7a4_55 : decode cJ2_newBytesLength_0f7a4 55 = .ok (.iload_n 0, 1) := by decide +kernel
theorem dJ2_newBytesLength_0f7a4_56 : decode cJ2_newBytesLength_0f7a4 56 = .ok (.iconst 1, 1) := by decide +kernel
theorem dJ2_newBytesLength_0f7a4_57 : decode cJ2_newBytesLength_0f7a4 57 = .ok (.ishl, 1) := by decide +kernel
theorem dJ2_newBytesLength_0f7a4_58 : decode cJ2_newBytesLength_0f7a4 58 = .ok (.ireturn, 1) := by decide +kernel
theorem dJ2_putChar_b72d1_0 : decode cJ2_putChar_b72d1 0 = .ok (.getstatic 44, 3) := by decide +kernel
theorem dJ2_putChar_b72d1_3 : decode cJ2_putChar_b72d1 3 = .ok (.ifCond .ne 25, 3) := by decide +kernel
theorem dJ2_putChar_b72d1_6 : decode cJ2_putChar_b72d1 6 = .ok (.iload_n 1, 1) := by decide +kernel
theorem dJ2_putChar_b72d1_7 : decode cJ2_putChar_b72d1 7 = .ok (.ifCond .lt 11, 3) := by decide +kernel
theorem dJ2_putChar_b72d1_10 : decode cJ2_putChar_b72d1 10 = .ok (.iload_n 1, 1) := by decide +kernel
theorem dJ2_putChar_b72d1_11 : decode cJ2_putChar_b72d1 11 = .ok (.aload_n 0, 1) := by decide +kernel
theorem dJ2_putChar_b72d1_12 : decode cJ2_putChar_b72d1 12 = .ok (.invokestatic 48, 3) := by decide +kernel
theorem dJ2_putChar_b72d1_15 : decode cJ2_putChar_b72d1 15 = .ok (.if_icmp .lt 13, 3) := by decide +kernel
theorem dJ2_putChar_b72d1_18 : decode cJ2_putChar_b72d1 18 = .ok (.new 52, 3) := by decide +kernel
theorem dJ2_putChar_b72d1_21 : decode cJ2_putChar_b72d1 21 = .ok (.dup, 1) := by decide +kernel
theorem dJ2_putChar_b72d1_22 : decode cJ2_putChar_b72d1 22 = .ok (.ldc 54, 2) := by decide +kernel
theorem dJ2_putChar_b72d1_24 : decode cJ2_putChar_b72d1 24 = .ok (.invokespecial 56, 3) := by decide +kernel
theorem dJ2_putChar_b72d1_27 : decode cJ2_putChar_b72d1 27 = .ok (.athrow, 1) := by decide +kernel
theorem dJ2_putChar_b72d1_28 : decode cJ2_putChar_b72d1 28 = .ok (.iload_n 1, 1) := by decide +kernel
theorem dJ2_putChar_b72d1_29 : decode cJ2_putChar_b72d1 29 = .ok (.iconst 1, 1) := by decide +kernel
theorem dJ2_putChar_b72d1_30 : decode cJ2_putChar_b72d1 30 = .ok (.ishl, 1) := by decide +kernel
theorem dJ2_putChar_b72d1_31 : decode cJ2_putChar_b72d1 31 = .ok (.istore_n 1, 1) := by decide +kernel
theorem dJ2_putChar_b72d1_32 : decode cJ2_putChar_b72d1 32 = .ok (.aload_n 0, 1) := by decide +kernel
theorem dJ2_putChar_b72d1_33 : decode cJ2_putChar_b72d1 33 = .ok (.iload_n 1, 1) := by decide +kernel
theorem dJ2_putChar_b72d1_34 : decode cJ2_putChar_b72d1 34 = .ok (.iinc 1 1, 3) := by decide +kernel
theorem dJ2_putChar_b72d1_37 : decode cJ2_putChar_b72d1 37 = .ok (.iload_n 2, 1) := by decide +kernel
theorem dJ2_putChar_b72d1_38 : decode cJ2_putChar_b72d1 38 = .ok (.getstatic 59, 3) := by decide +kernel
theorem dJ2_putChar_b72d1_41 : decode cJ2_putChar_b72d1 41 = .ok (.ishr, 1) := by decide +kernel
theorem dJ2_putChar_b72d1_42 : decode cJ2_putChar_b72d1 42 = .ok (.i2b, 1) := by decide +kernel
theorem dJ2_putChar_b72d1_43 : decode cJ2_putChar_b72d1 43 = .ok (.bastore, 1) := by decide +kernel
theorem dJ2_putChar_b72d1_44 : decode cJ2_putChar_b72d1 44 = .ok (.aload_n 0, 1) := by decide +kernel
theorem dJ2_putChar_b72d1_45 : decode cJ2_putChar_b72d1 45 = .ok (.iload_n 1, 1) := by decide +kernel
theorem dJ2_putChar_b72d1_46 : decode cJ2_putChar_b72d1 46 = .ok (.iload_n 2, 1) := by decide +kernel
theorem dJ2_putChar_b72d1_47 : decode cJ2_putChar_b72d1 47 = .ok (.getstatic 63, 3) := by decide +kernel
theorem dJ2_putChar_b72d1_50 : decode cJ2_putChar_b72d1 50 = .ok (.ishr, 1) := by decide +kernel
theorem dJ2_putChar_b72d1_51 : decode cJ2_putChar_b72d1 51 = .ok (.i2b, 1) := by decide +kernel
theorem dJ2_putChar_b72d1_52 : decode cJ2_putChar_b72d1 52 = .ok (.bastore, 1) := by decide +kernel
theorem dJ2_putChar_b72d1_53 : decode cJ2_putChar_b72d1 53 = .ok (.return_, 1) := by decide +kernel
theorem dJ2_getChar_3b067_0 : decode cJ2_getChar_3b067 0 = .ok (.getstatic 44, 3) := by decide +kernel
theorem dJ2_getChar_3b067_3 : decode cJ2_getChar_3b067 3 = .ok (.ifCond .ne 25, 3) := by decide +kernel
theorem dJ2_getChar_3b067_6 : decode cJ2_getChar_3b067 6 = .ok (.iload_n 1, 1) := by decide +kernel
theorem dJ2_getChar_3b067_7 : decode cJ2_getChar_3b067 7 = .ok (.ifCond .lt 11, 3) := by decide +kernel
theorem dJ2_getChar_3b067_10 : decode cJ2_getChar_3b067 10 = .ok (.iload_n 1, 1) := by decide +kernel
theorem dJ2_getChar_3b067_11 : decode cJ2_getChar_3b067 11 = .ok (.aload_n 0, 1) := by decide +kernel
theorem dJ2_getChar_3b067_12 : decode cJ2_getChar_3b067 12 = .ok (.invokestatic 48, 3) := by decide +kernel
theorem dJ2_getChar_3b067_15 : decode cJ2_getChar_3b067 15 = .ok (.if_icmp .lt 13, 3) := by decide +kernel
theorem dJ2_getChar_3b067_18 : decode cJ2_getChar_3b067 18 = .ok (.new 52, 3) := by decide +kernel
theorem dJ2_getChar_3b067_21 : decode cJ2_getChar_3b067 21 = .ok (.dup, 1) := by decide +kernel
theorem dJ2_getChar_3b067_22 : decode cJ2_getChar_3b067 22 = .ok (.ldc 54, 2) := by decide +kernel
theorem dJ2_getChar_3b067_24 : decode cJ2_getChar_3b067 24 = .ok (.invokespecial 56, 3) := by decide +kernel
theorem dJ2_getChar_3b067_27 : decode cJ2_getChar_3b067 27 = .ok (.athrow, 1) := by decide +kernel
theorem dJ2_getChar_3b067_28 : decode cJ2_getChar_3b067 28 = .ok (.iload_n 1, 1) := by decide +kernel
theorem dJ2_getChar_3b067_29 : decode cJ2_getChar_3b067 29 = .ok (.iconst 1, 1) := by decide +kernel
theorem dJ2_getChar_3b067_30 : decode cJ2_getChar_3b067 30 = .ok (.ishl, 1) := by decide +kernel
theorem dJ2_getChar_3b067_31 : decode cJ2_getChar_3b067 31 = .ok (.istore_n 1, 1) := by decide +kernel
theorem dJ2_getChar_3b067_32 : decode cJ2_getChar_3b067 32 = .ok (.aload_n 0, 1) := by decide +kernel
theorem dJ2_getChar_3b067_33 : decode cJ2_getChar_3b067 33 = .ok (.iload_n 1, 1) := by decide +kernel
theorem dJ2_getChar_3b067_34 : decode cJ2_getChar_3b067 34 = .ok (.iinc 1 1, 3) := by decide +kernel
theorem dJ2_getChar_3b067_37 : decode cJ2_getChar_3b067 37 = .ok (.baload, 1) := by decide +kernel
theorem dJ2_getChar_3b067_38 : decode cJ2_getChar_3b067 38 = .ok (.sipush 255, 3) := by decide +kernel
theorem dJ2_getChar_3b067_41 : decode cJ2_getChar_3b067 41 = .ok (.iand, 1) := by decide +kernel
theorem dJ2_getChar_3b067_42 : decode cJ2_getChar_3b067 42 = .ok (.getstatic 59, 3) := by decide +kernel
theorem dJ2_getChar_3b067_45 : decode cJ2_getChar_3b067 45 = .ok (.ishl, 1) := by decide +kernel
theorem dJ2_getChar_3b067_46 : decode cJ2_getChar_3b067 46 = .ok (.aload_n 0, 1) := by decide +kernel
theorem dJ2_getChar_3b067_47 : decode cJ2_getChar_3b067 47 = .ok (.iload_n 1, 1) := by decide +kernel
theorem dJ2_getChar_3b067_48 : decode cJ2_getChar_3b067 48 = .ok (.baload, 1) := by decide +kernel
theorem dJ2_getChar_3b067_49 : decode cJ2_getChar_3b067 49 = .ok (.sipush 255, 3) := by decide +kernel
theorem dJ2_getChar_3b067_52 : decode cJ2_getChar_3b067 52 = .ok (.iand, 1) := by decide +kernel
theorem dJ2_getChar_3b067_53 : decode cJ2_getChar_3b067 53 = .ok (.getstatic 63, 3) := by decide +kernel
theorem dJ2_getChar_3b067_56 : decode cJ2_getChar_3b067 56 = .ok (.ishl, 1) := by decide +kernel
theorem dJ2_getChar_3b067_57 : decode cJ2_getChar_3b067 57 = .ok (.ior, 1) := by decide +kernel
theorem dJ2_getChar_3b067_58 : decode cJ2_getChar_3b067 58 = .ok (.i2c, 1) := by decide +kernel
theorem dJ2_getChar_3b067_59 : decode cJ2_getChar_3b067 59 = .ok (.ireturn, 1) := by decide +kernel
theorem dJ2_length_9d52b_0 : decode cJ2_length_9d52b 0 = .ok (.aload_n 0, 1) := by decide +kernel
theorem dJ2_length_9d52b_1 : decode cJ2_length_9d52b 1 = .ok (.arraylength, 1) := by decide +kernel
theorem dJ2_length_9d52b_2 : decode cJ2_length_9d52b 2 = .ok (.iconst 1, 1) := by decide +kernel
theorem dJ2_length_9d52b_3 : decode cJ2_length_9d52b 3 = .ok (.ishr, 1) := by decide +kernel
theorem dJ2_length_9d52b_4 : decode cJ2_length_9d52b 4 = .ok (.ireturn, 1) := by decide +kernel
theorem dJ2_coderFromArrayLen_85cad_0 : decode cJ2_coderFromArrayLen_85cad 0 = .ok (.iload_n 1, 1) := by decide +kernel
theorem dJ2_coderFromArrayLen_85cad_1 : decode cJ2_coderFromArrayLen_85cad 1 = .ok (.aload_n 0, 1) := by decide +kernel
theorem dJ2_coderFromArrayLen_85cad_2 : decode cJ2_coderFromArrayLen_85cad 2 = .ok (.arraylength, 1) := by decide +kernel
theorem dJ2_coderFromArrayLen_85cad_3 : decode cJ2_coderFromArrayLen_85cad 3 = .ok (.isub, 1) := by decide +kernel
theorem dJ2_coderFromArrayLen_85cad_4 : decode cJ2_coderFromArrayLen_85cad 4 = .ok (.bipush 31, 2) := by decide +kernel
theorem dJ2_coderFromArrayLen_85cad_6 : decode cJ2_coderFromArrayLen_85cad 6 = .ok (.iushr, 1) := by decide +kernel
theorem dJ2_coderFromArrayLen_85cad_7 : decode cJ2_coderFromArrayLen_85cad 7 = .ok (.i2b, 1) := by decide +kernel
theorem dJ2_coderFromArrayLen_85cad_8 : decode cJ2_coderFromArrayLen_85cad 8 = .ok (.ireturn, 1) := by decide +kernel
theorem dJ2_compress_39247_0 : decode cJ2_compress_39247 0 = .ok (.iload_n 2, 1) := by decide +kernel
theorem dJ2_compress_39247_1 : decode cJ2_compress_39247 1 = .ok (.newarray .byte, 2) := by decide +kernel
theorem dJ2_compress_39247_3 : decode cJ2_compress_39247 3 = .ok (.astore_n 3, 1) := by decide +kernel
theorem dJ2_compress_39247_4 : decode cJ2_compress_39247 4 = .ok (.aload_n 0, 1) := by decide +kernel
theorem dJ2_compress_39247_5 : decode cJ2_compress_39247 5 = .ok (.iload_n 1, 1) := by decide +kernel
theorem dJ2_compress_39247_6 : decode cJ2_compress_39247 6 = .ok (.aload_n 3, 1) := by decide +kernel
theorem dJ2_compress_39247_7 : decode cJ2_compress_39247 7 = .ok (.iconst 0, 1) := by decide +kernel
theorem dJ2_compress_39247_8 : decode cJ2_compress_39247 8 = .ok (.iload_n 2, 1) := by decide +kernel
theorem dJ2_compress_39247_9 : decode cJ2_compress_39247 9 = .ok (.invokestatic 123, 3) := by decide +kernel
theorem dJ2_compress_39247_12 : decode cJ2_compress_39247 12 = .ok (.istore 4, 2) := by decide +kernel
theorem dJ2_compress_39247_14 : decode cJ2_compress_39247 14 = .ok (.iload 4, 2) := by decide +kernel
theorem dJ2_compress_39247_16 : decode cJ2_compress_39247 16 = .ok (.iload_n 2, 1) := by decide +kernel
theorem dJ2_compress_39247_17 : decode cJ2_compress_39247 17 = .ok (.if_icmp .eq 47, 3) := by decide +kernel
theorem dJ2_compress_39247_20 : decode cJ2_compress_39247 20 = .ok (.aload_n 0, 1) := by decide +kernel
theorem dJ2_compress_39247_21 : decode cJ2_compress_39247 21 = .ok (.iload_n 1, 1) := by decide +kernel
theorem dJ2_compress_39247_22 : decode cJ2_compress_39247 22 = .ok (.iconst 1, 1) := by decide +kernel
theorem dJ2_compress_39247_23 : decode cJ2_compress_39247 23 = .ok (.ishl, 1) := by decide +kernel
theorem dJ2_compress_39247_24 : decode cJ2_compress_39247 24 = .ok (.iload_n 1, 1) := by decide +kernel
theorem dJ2_compress_39247_25 : decode cJ2_compress_39247 25 = .ok (.iload_n 2, 1) := by decide +kernel
theorem dJ2_compress_39247_26 : decode cJ2_compress_39247 26 = .ok (.iadd, 1) := by decide +kernel
theorem dJ2_compress_39247_27 : decode cJ2_compress_39247 27 = .ok (.invokestatic 11, 3) := by decide +kernel
theorem dJ2_compress_39247_30 : decode cJ2_compress_39247 30 = .ok (.invokestatic 126, 3) := by decide +kernel
theorem dJ2_compress_39247_33 : decode cJ2_compress_39247 33 = .ok (.astore 5, 2) := by decide +kernel
theorem dJ2_compress_39247_35 : decode cJ2_compress_39247 35 = .ok (.aload 5, 2) := by decide +kernel
theorem dJ2_compress_39247_37 : decode cJ2_compress_39247 37 = .ok (.iload 4, 2) := by decide +kernel
theorem dJ2_compress_39247_39 : decode cJ2_compress_39247 39 = .ok (.invokestatic 71, 3) := by decide +kernel
theorem dJ2_compress_39247_42 : decode cJ2_compress_39247 42 = .ok (.sipush 255, 3) := by decide +kernel
theorem dJ2_compress_39247_45 : decode cJ2_compress_39247 45 = .ok (.if_icmp .gt 16, 3) := by decide +kernel
theorem dJ2_compress_39247_48 : decode cJ2_compress_39247 48 = .ok (.aload 5, 2) := by decide +kernel
theorem dJ2_compress_39247_50 : decode cJ2_compress_39247 50 = .ok (.iconst 0, 1) := by decide +kernel
theorem dJ2_compress_39247_51 : decode cJ2_compress_39247 51 = .ok (.aload_n 3, 1) := by decide +kernel
theorem dJ2_compress_39247_52 : decode cJ2_compress_39247 52 = .ok (.iconst 0, 1) := by decide +kernel
theorem dJ2_compress_39247_53 : decode cJ2_compress_39247 53 = .ok (.iload_n 2, 1) := by decide +kernel
theorem dJ2_compress_39247_54 : decode cJ2_compress_39247 54 = .ok (.invokestatic 123, 3) := by decide +kernel
theorem dJ2_compress_39247_57 : decode cJ2_compress_39247 57 = .ok (.iload_n 2, 1) := by decide +kernel
theorem dJ2_compress_39247_58 : decode cJ2_compress_39247 58 = .ok (.if_icmp .eq 6, 3) := by decide +kernel
theorem dJ2_compress_39247_61 : decode cJ2_compress_39247 61 = .ok (.aload 5, 2) := by decide +kernel
theorem dJ2_compress_39247_63 : decode cJ2_compress_39247 63 = .ok (.areturn, 1) := by decide +kernel
theorem dJ2_compress_39247_64 : decode cJ2_compress_39247 64 = .ok (.aload_n 3, 1) := by decide +kernel
theorem dJ2_compress_39247_65 : decode cJ2_compress_39247 65 = .ok (.areturn, 1) := by decide +kernel
theorem dJ2_compress_5af95_0 : decode cJ2_compress_5af95 0 = .ok (.iload_n 1, 1) := by decide +kernel
theorem dJ2_compress_5af95_1 : decode cJ2_compress_5af95 1 = .ok (.iload 4, 2) := by decide +kernel
theorem dJ2_compress_5af95_3 : decode cJ2_compress_5af95 3 = .ok (.aload_n 0, 1) := by decide +kernel
theorem dJ2_compress_5af95_4 : decode cJ2_compress_5af95 4 = .ok (.invokestatic 173, 3) := by decide +kernel
theorem dJ2_compress_5af95_7 : decode cJ2_compress_5af95 7 = .ok (.iconst 0, 1) := by decide +kernel
theorem dJ2_compress_5af95_8 : decode cJ2_compress_5af95 8 = .ok (.istore 5, 2) := by decide +kernel
theorem dJ2_compress_5af95_10 : decode cJ2_compress_5af95 10 = .ok (.iload 5, 2) := by decide +kernel
theorem dJ2_compress_5af95_12 : decode cJ2_compress_5af95 12 = .ok (.iload 4, 2) := by decide +kernel
theorem dJ2_compress_5af95_14 : decode cJ2_compress_5af95 14 = .ok (.if_icmp .ge 39, 3) := by decide +kernel
theorem dJ2_compress_5af95_17 : decode cJ2_compress_5af95 17 = .ok (.aload_n 0, 1) := by decide +kernel
theorem dJ2_compress_5af95_18 : decode cJ2_compress_5af95 18 = .ok (.iload_n 1, 1) := by decide +kernel
theorem dJ2_compress_5af95_19 : decode cJ2_compress_5af95 19 = .ok (.invokestatic 71, 3) := by decide +kernel
theorem dJ2_compress_5af95_22 : decode cJ2_compress_5af95 22 = .ok (.istore 6, 2) := by decide +kernel
theorem dJ2_compress_5af95_24 : decode cJ2_compress_5af95 24 = .ok (.iload 6, 2) := by decide +kernel
theorem dJ2_compress_5af95_26 : decode cJ2_compress_5af95 26 = .ok (.sipush 255, 3) := by decide +kernel
theorem dJ2_compress_5af95_29 : decode cJ2_compress_5af95 29 = .ok (.if_icmp .le 6, 3) := by decide +kernel
theorem dJ2_compress_5af95_32 : decode cJ2_compress_5af95 32 = .ok (.iload 5, 2) := by decide +kernel
theorem dJ2_compress_5af95_34 : decode cJ2_compress_5af95 34 = .ok (.ireturn, 1) := by decide +kernel
theorem dJ2_compress_5af95_35 : decode cJ2_compress_5af95 35 = .ok (.aload_n 2, 1) := by decide +kernel
theorem dJ2_compress_5af95_36 : decode cJ2_compress_5af95 36 = .ok (.iload_n 3, 1) := by decide +kernel
theorem dJ2_compress_5af95_37 : decode cJ2_compress_5af95 37 = .ok (.iload 6, 2) := by decide +kernel
theorem dJ2_compress_5af95_39 : decode cJ2_compress_5af95 39 = .ok (.i2b, 1) := by decide +kernel
theorem dJ2_compress_5af95_40 : decode cJ2_compress_5af95 40 = .ok (.bastore, 1) := by decide +kernel
theorem dJ2_compress_5af95_41 : decode cJ2_compress_5af95 41 = .ok (.iinc 1 1, 3) := by decide +kernel
theorem dJ2_compress_5af95_44 : decode cJ2_compress_5af95 44 = .ok (.iinc 3 1, 3) := by decide +kernel
theorem dJ2_compress_5af95_47 : decode cJ2_compress_5af95 47 = .ok (.iinc 5 1, 3) := by decide +kernel
theorem dJ2_compress_5af95_50 : decode cJ2_compress_5af95 50 = .ok (.goto (-40), 3) := by decide +kernel
theorem dJ2_compress_5af95_53 : decode cJ2_compress_5af95 53 = .ok (.iload 4, 2) := by decide +kernel
theorem dJ2_compress_5af95_55 : decode cJ2_compress_5af95 55 = .ok (.ireturn, 1) := by decide +kernel
theorem dJ2_getChars_46870_0 : decode cJ2_getChars_46870 0 = .ok (.iload_n 1, 1) := by decide +kernel
theorem dJ2_getChars_46870_1 : decode cJ2_getChars_46870 1 = .ok (.iload_n 2, 1) := by decide +kernel
theorem dJ2_getChars_46870_2 : decode cJ2_getChars_46870 2 = .ok (.aload_n 3, 1) := by decide +kernel
theorem dJ2_getChars_46870_3 : decode cJ2_getChars_46870 3 = .ok (.invokestatic 96, 3) := by decide +kernel
theorem dJ2_getChars_46870_6 : decode cJ2_getChars_46870 6 = .ok (.iload_n 0, 1) := by decide +kernel
theorem dJ2_getChars_46870_7 : decode cJ2_getChars_46870 7 = .ok (.iload_n 2, 1) := by decide +kernel
theorem dJ2_getChars_46870_8 : decode cJ2_getChars_46870 8 = .ok (.aload_n 3, 1) := by decide +kernel
theorem dJ2_getChars_46870_9 : decode cJ2_getChars_46870 9 = .ok (.invokestatic 393, 3) := by decide +kernel
theorem dJ2_getChars_46870_12 : decode cJ2_getChars_46870 12 = .ok (.istore 4, 2) := by decide +kernel
theorem dJ2_getChars_46870_14 : decode cJ2_getChars_46870 14 = .ok (.getstatic 44, 3) := by decide +kernel
theorem dJ2_getChars_46870_17 : decode cJ2_getChars_46870 17 = .ok (.ifCond .ne 17, 3) := by decide +kernel
theorem dJ2_getChars_46870_20 : decode cJ2_getChars_46870 20 = .ok (.iload_n 1, 1) := by decide +kernel
theorem dJ2_getChars_46870_21 : decode cJ2_getChars_46870 21 = .ok (.iload 4, 2) := by decide +kernel
theorem dJ2_getChars_46870_23 : decode cJ2_getChars_46870 23 = .ok (.if_icmp .eq 11, 3) := by decide +kernel
theorem dJ2_getChars_46870_26 : decode cJ2_getChars_46870 26 = .ok (.new 52, 3) := by decide +kernel
theorem dJ2_getChars_46870_29 : decode cJ2_getChars_46870 29 = .ok (.dup, 1) := by decide +kernel
theorem dJ2_getChars_46870_30 : decode cJ2_getChars_46870 30 = .ok (.invokespecial 66, 3) := by decide +kernel
theorem dJ2_getChars_46870_33 : decode cJ2_getChars_46870 33 = .ok (.athrow, 1) := by decide +kernel
theorem dJ2_getChars_46870_34 : decode cJ2_getChars_46870 34 = .ok (.iload 4, 2) := by decide +kernel
theorem dJ2_getChars_46870_36 : decode cJ2_getChars_46870 36 = .ok (.ireturn, 1) := by decide +kernel
theorem dJ2_putCharsAt_cd4e5_0 : decode cJ2_putCharsAt_cd4e5 0 = .ok (.iload_n 1, 1) := by decide +kernel
theorem dJ2_putCharsAt_cd4e5_1 : decode cJ2_putCharsAt_cd4e5 1 = .ok (.iconst 4, 1) := by decide +kernel
theorem dJ2_putCharsAt_cd4e5_2 : decode cJ2_putCharsAt_cd4e5 2 = .ok (.iadd, 1) := by decide +kernel
theorem dJ2_putCharsAt_cd4e5_3 : decode cJ2_putCharsAt_cd4e5 3 = .ok (.istore 6, 2) := by decide +kernel
theorem dJ2_putCharsAt_cd4e5_5 : decode cJ2_putCharsAt_cd4e5 5 = .ok (.iload_n 1, 1) := by decide +kernel
theorem dJ2_putCharsAt_cd4e5_6 : decode cJ2_putCharsAt_cd4e5 6 = .ok (.iload 6, 2) := by decide +kernel
theorem dJ2_putCharsAt_cd4e5_8 : decode cJ2_putCharsAt_cd4e5 8 = .ok (.aload_n 0, 1) := by decide +kernel
theorem dJ2_putCharsAt_cd4e5_9 : decode cJ2_putCharsAt_cd4e5 9 = .ok (.invokestatic 96, 3) := by decide +kernel
theorem dJ2_putCharsAt_cd4e5_12 : decode cJ2_putCharsAt_cd4e5 12 = .ok (.aload_n 0, 1) := by decide +kernel
theorem dJ2_putCharsAt_cd4e5_13 : decode cJ2_putCharsAt_cd4e5 13 = .ok (.iload_n 1, 1) := by decide +kernel
theorem dJ2_putCharsAt_cd4e5_14 : decode cJ2_putCharsAt_cd4e5 14 = .ok (.iinc 1 1, 3) := by decide +kernel
theorem dJ2_putCharsAt_cd4e5_17 : decode cJ2_putCharsAt_cd4e5 17 = .ok (.iload_n 2, 1) := by decide +kernel
theorem dJ2_putCharsAt_cd4e5_18 : decode cJ2_putCharsAt_cd4e5 18 = .ok (.invokestatic 111, 3) := by decide +kernel
theorem dJ2_putCharsAt_cd4e5_21 : decode cJ2_putCharsAt_cd4e5 21 = .ok (.aload_n 0, 1) := by decide +kernel
theorem dJ2_putCharsAt_cd4e5_22 : decode cJ2_putCharsAt_cd4e5 22 = .ok (.iload_n 1, 1) := by decide +kernel
theorem dJ2_putCharsAt_cd4e5_23 : decode cJ2_putCharsAt_cd4e5 23 = .ok (.iinc 1 1, 3) := by decide +kernel
theorem dJ2_putCharsAt_cd4e5_26 : decode cJ2_putCharsAt_cd4e5 26 = .ok (.iload_n 3, 1) := by decide +kernel
theorem dJ2_putCharsAt_cd4e5_27 : decode cJ2_putCharsAt_cd4e5 27 = .ok (.invokestatic 111, 3) := by decide +kernel
theorem dJ2_putCharsAt_cd4e5_30 : decode cJ2_putCharsAt_cd4e5 30 = .ok (.aload_n 0, 1) := by decide +kernel
theorem dJ2_putCharsAt_cd4e5_31 : decode cJ2_putCharsAt_cd4e5 31 = .ok (.iload_n 1, 1) := by decide +kernel
theorem dJ2_putCharsAt_cd4e5_32 : decode cJ2_putCharsAt_cd4e5 32 = .ok (.iinc 1 1, 3) := by decide +kernel
theorem dJ2_putCharsAt_cd4e5_35 : decode cJ2_putCharsAt_cd4e5 35 = .ok (.iload 4, 2) := by decide +kernel
theorem dJ2_putCharsAt_cd4e5_37 : decode cJ2_putCharsAt_cd4e5 37 = .ok (.invokestatic 111, 3) := by decide +kernel
theorem dJ2_putCharsAt_cd4e5_40 : decode cJ2_putCharsAt_cd4e5 40 = .ok (.aload_n 0, 1) := by decide +kernel
theorem dJ2_putCharsAt_cd4e5_41 : decode cJ2_putCharsAt_cd4e5 41 = .ok (.iload_n 1, 1) := by decide +kernel
theorem dJ2_putCharsAt_cd4e5_42 : decode cJ2_putCharsAt_cd4e5 42 = .ok (.iinc 1 1, 3) := by decide +kernel
theorem dJ2_putCharsAt_cd4e5_45 : decode cJ2_putCharsAt_cd4e5 45 = .ok (.iload 5, 2) := by decide +kernel
theorem dJ2_putCharsAt_cd4e5_47 : decode cJ2_putCharsAt_cd4e5 47 = .ok (.invokestatic 111, 3) := by decide +kernel
theorem dJ2_putCharsAt_cd4e5_50 : decode cJ2_putCharsAt_cd4e5 50 = .ok (.getstatic 44, 3) := by decide +kernel
theorem dJ2_putCharsAt_cd4e5_53 : decode cJ2_putCharsAt_cd4e5 53 = .ok (.ifCond .ne 17, 3) := by decide +kernel
theorem dJ2_putCharsAt_cd4e5_56 : decode cJ2_putCharsAt_cd4e5 56 = .ok (.iload_n 1, 1) := by decide +kernel
theorem dJ2_putCharsAt_cd4e5_57 : decode cJ2_putCharsAt_cd4e5 57 = .ok (.iload 6, 2) := by decide +kernel
theorem dJ2_putCharsAt_cd4e5_59 : decode cJ2_putCharsAt_cd4e5 59 = .ok (.if_icmp .eq 11, 3) := by decide +kernel
theorem dJ2_putCharsAt_cd4e5_62 : decode cJ2_putCharsAt_cd4e5 62 = .ok (.new 52, 3) := by decide +kernel
theorem dJ2_putCharsAt_cd4e5_65 : decode cJ2_putCharsAt_cd4e5 65 = .ok (.dup, 1) := by decide +kernel
theorem dJ2_putCharsAt_cd4e5_66 : decode cJ2_putCharsAt_cd4e5 66 = .ok (.invokespecial 66, 3) := by decide +kernel
theorem dJ2_putCharsAt_cd4e5_69 : decode cJ2_putCharsAt_cd4e5 69 = .ok (.athrow, 1) := by decide +kernel
theorem dJ2_putCharsAt_cd4e5_70 : decode cJ2_putCharsAt_cd4e5 70 = .ok (.iload 6, 2) := by decide +kernel
theorem dJ2_putCharsAt_cd4e5_72 : decode cJ2_putCharsAt_cd4e5 72 = .ok (.ireturn, 1) := by decide +kernel
theorem dJ2_charAt_3b067_0 : decode cJ2_charAt_3b067 0 = .ok (.iload_n 1, 1) := by decide +kernel
theorem dJ2_charAt_3b067_1 : decode cJ2_charAt_3b067 1 = .ok (.aload_n 0, 1) := by decide +kernel
theorem dJ2_charAt_3b067_2 : decode cJ2_charAt_3b067 2 = .ok (.invokestatic 67, 3) := by decide +kernel
theorem dJ2_charAt_3b067_5 : decode cJ2_charAt_3b067 5 = .ok (.aload_n 0, 1) := by decide +kernel
theorem dJ2_charAt_3b067_6 : decode cJ2_charAt_3b067 6 = .ok (.iload_n 1, 1) := by decide +kernel
theorem dJ2_charAt_3b067_7 : decode cJ2_charAt_3b067 7 = .ok (.invokestatic 71, 3) := by decide +kernel
theorem dJ2_charAt_3b067_10 : decode cJ2_charAt_3b067 10 = .ok (.ireturn, 1) := by decide +kernel
theorem dJ2_inflate_0e8fd_0 : decode cJ2_inflate_0e8fd 0 = .ok (.iload_n 3, 1) := by decide +kernel
theorem dJ2_inflate_0e8fd_1 : decode cJ2_inflate_0e8fd 1 = .ok (.iload 4, 2) := by decide +kernel
theorem dJ2_inflate_0e8fd_3 : decode cJ2_inflate_0e8fd 3 = .ok (.aload_n 2, 1) := by decide +kernel
theorem dJ2_inflate_0e8fd_4 : decode cJ2_inflate_0e8fd 4 = .ok (.invokestatic 173, 3) := by decide +kernel
theorem dJ2_inflate_0e8fd_7 : decode cJ2_inflate_0e8fd 7 = .ok (.iconst 0, 1) := by decide +kernel
theorem dJ2_inflate_0e8fd_8 : decode cJ2_inflate_0e8fd 8 = .ok (.istore 5, 2) := by decide +kernel
theorem dJ2_inflate_0e8fd_10 : decode cJ2_inflate_0e8fd 10 = .ok (.iload 5, 2) := by decide +kernel
theorem dJ2_inflate_0e8fd_12 : decode cJ2_inflate_0e8fd 12 = .ok (.iload 4, 2) := by decide +kernel
theorem dJ2_inflate_0e8fd_14 : decode cJ2_inflate_0e8fd 14 = .ok (.if_icmp .ge 27, 3) := by decide +kernel
theorem dJ2_inflate_0e8fd_17 : decode cJ2_inflate_0e8fd 17 = .ok (.aload_n 2, 1) := by decide +kernel
theorem dJ2_inflate_0e8fd_18 : decode cJ2_inflate_0e8fd 18 = .ok (.iload_n 3, 1) := by decide +kernel
theorem dJ2_inflate_0e8fd_19 : decode cJ2_inflate_0e8fd 19 = .ok (.iinc 3 1, 3) := by decide +kernel
theorem dJ2_inflate_0e8fd_22 : decode cJ2_inflate_0e8fd 22 = .ok (.aload_n 0, 1) := by decide +kernel
theorem dJ2_inflate_0e8fd_23 : decode cJ2_inflate_0e8fd 23 = .ok (.iload_n 1, 1) := by decide +kernel
theorem dJ2_inflate_0e8fd_24 : decode cJ2_inflate_0e8fd 24 = .ok (.iinc 1 1, 3) := by decide +kernel
theorem dJ2_inflate_0e8fd_27 : decode cJ2_inflate_0e8fd 27 = .ok (.baload, 1) := by decide +kernel
theorem dJ2_inflate_0e8fd_28 : decode cJ2_inflate_0e8fd 28 = .ok (.sipush 255, 3) := by decide +kernel
theorem dJ2_inflate_0e8fd_31 : decode cJ2_inflate_0e8fd 31 = .ok (.iand, 1) := by decide +kernel
theorem dJ2_inflate_0e8fd_32 : decode cJ2_inflate_0e8fd 32 = .ok (.invokestatic 111, 3) := by decide +kernel
theorem dJ2_inflate_0e8fd_35 : decode cJ2_inflate_0e8fd 35 = .ok (.iinc 5 1, 3) := by decide +kernel
theorem dJ2_inflate_0e8fd_38 : decode cJ2_inflate_0e8fd 38 = .ok (.goto (-28), 3) := by decide +kernel
theorem dJ2_inflate_0e8fd_41 : decode cJ2_inflate_0e8fd 41 = .ok (.return_, 1) := by decide +kernel
theorem dJ2_getChars_ba4f3_0 : decode cJ2_getChars_ba4f3 0 = .ok (.iload_n 1, 1) := by decide +kernel
theorem dJ2_getChars_ba4f3_1 : decode cJ2_getChars_ba4f3 1 = .ok (.istore 5, 2) := by decide +kernel
theorem dJ2_getChars_ba4f3_3 : decode cJ2_getChars_ba4f3 3 = .ok (.iload_n 0, 1) := by decide +kernel
theorem dJ2_getChars_ba4f3_4 : decode cJ2_getChars_ba4f3 4 = .ok (.ifCond .ge 7, 3) := by decide +kernel
theorem dJ2_getChars_ba4f3_7 : decode cJ2_getChars_ba4f3 7 = .ok (.iconst 1, 1) := by decide +kernel
theorem dJ2_getChars_ba4f3_8 : decode cJ2_getChars_ba4f3 8 = .ok (.goto 4, 3) := by decide +kernel
theorem dJ2_getChars_ba4f3_11 : decode cJ2_getChars_ba4f3 11 = .ok (.iconst 0, 1) := by decide +kernel
theorem dJ2_getChars_ba4f3_12 : decode cJ2_getChars_ba4f3 12 = .ok (.istore 6, 2) := by decide +kernel
theorem dJ2_getChars_ba4f3_14 : decode cJ2_getChars_ba4f3 14 = .ok (.iload 6, 2) := by decide +kernel
theorem dJ2_getChars_ba4f3_16 : decode cJ2_getChars_ba4f3 16 = .ok (.ifCond .ne 6, 3) := by decide +kernel
theorem dJ2_getChars_ba4f3_19 : decode cJ2_getChars_ba4f3 19 = .ok (.iload_n 0, 1) := by decide +kernel
theorem dJ2_getChars_ba4f3_20 : decode cJ2_getChars_ba4f3 20 = .ok (.ineg, 1) := by decide +kernel
theorem dJ2_getChars_ba4f3_21 : decode cJ2_getChars_ba4f3 21 = .ok (.istore_n 0, 1) := by decide +kernel
theorem dJ2_getChars_ba4f3_22 : decode cJ2_getChars_ba4f3 22 = .ok (.iload_n 0, 1) := by decide +kernel
theorem dJ2_getChars_ba4f3_23 : decode cJ2_getChars_ba4f3 23 = .ok (.bipush (-100), 2) := by decide +kernel
theorem dJ2_getChars_ba4f3_25 : decode cJ2_getChars_ba4f3 25 = .ok (.if_icmp .gt 51, 3) := by decide +kernel
theorem dJ2_getChars_ba4f3_28 : decode cJ2_getChars_ba4f3 28 = .ok (.iload_n 0, 1) := by decide +kernel
theorem dJ2_getChars_ba4f3_29 : decode cJ2_getChars_ba4f3 29 = .ok (.bipush 100, 2) := by decide +kernel
theorem dJ2_getChars_ba4f3_31 : decode cJ2_getChars_ba4f3 31 = .ok (.idiv, 1) := by decide +kernel
theorem dJ2_getChars_ba4f3_32 : decode cJ2_getChars_ba4f3 32 = .ok (.istore_n 3, 1) := by decide +kernel
theorem dJ2_getChars_ba4f3_33 : decode cJ2_getChars_ba4f3 33 = .ok (.iload_n 3, 1) := by decide +kernel
theorem dJ2_getChars_ba4f3_34 : decode cJ2_getChars_ba4f3 34 = .ok (.bipush 100, 2) := by decide +kernel
theorem dJ2_getChars_ba4f3_36 : decode cJ2_getChars_ba4f3 36 = .ok (.imul, 1) := by decide +kernel
theorem dJ2_getChars_ba4f3_37 : decode cJ2_getChars_ba4f3 37 = .ok (.iload_n 0, 1) := by decide +kernel
theorem dJ2_getChars_ba4f3_38 : decode cJ2_getChars_ba4f3 38 = .ok (.isub, 1) := by decide +kernel
theorem dJ2_getChars_ba4f3_39 : decode cJ2_getChars_ba4f3 39 = .ok (.istore 4, 2) := by decide +kernel
theorem dJ2_getChars_ba4f3_41 : decode cJ2_getChars_ba4f3 41 = .ok (.iload_n 3, 1) := by decide +kernel
theorem dJ2_getChars_ba4f3_42 : decode cJ2_getChars_ba4f3 42 = .ok (.istore_n 0, 1) := by decide +kernel
theorem dJ2_getChars_ba4f3_43 : decode cJ2_getChars_ba4f3 43 = .ok (.aload_n 2, 1) := by decide +kernel
theorem dJ2_getChars_ba4f3_44 : decode cJ2_getChars_ba4f3 44 = .ok (.iinc 5 (-1), 3) := by decide +kernel
theorem dJ2_getChars_ba4f3_47 : decode cJ2_getChars_ba4f3 47 = .ok (.iload 5, 2) := by decide +kernel
theorem dJ2_getChars_ba4f3_49 : decode cJ2_getChars_ba4f3 49 = .ok (.getstatic 403, 3) := by decide +kernel
theorem dJ2_getChars_ba4f3_52 : decode cJ2_getChars_ba4f3 52 = .ok (.iload 4, 2) := by decide +kernel
theorem dJ2_getChars_ba4f3_54 : decode cJ2_getChars_ba4f3 54 = .ok (.baload, 1) := by decide +kernel
theorem dJ2_getChars_ba4f3_55 : decode cJ2_getChars_ba4f3 55 = .ok (.invokestatic 111, 3) := by decide +kernel
theorem dJ2_getChars_ba4f3_58 : decode cJ2_getChars_ba4f3 58 = .ok (.aload_n 2, 1) := by decide +kernel
theorem dJ2_getChars_ba4f3_59 : decode cJ2_getChars_ba4f3 59 = .ok (.iinc 5 (-1), 3) := by decide +kernel
theorem dJ2_getChars_ba4f3_62 : decode cJ2_getChars_ba4f3 62 = .ok (.iload 5, 2) := by decide +kernel
theorem dJ2_getChars_ba4f3_64 : decode cJ2_getChars_ba4f3 64 = .ok (.getstatic 407, 3) := by decide +kernel
theorem dJ2_getChars_ba4f3_67 : decode cJ2_getChars_ba4f3 67 = .ok (.iload 4, 2) := by decide +kernel
theorem dJ2_getChars_ba4f3_69 : decode cJ2_getChars_ba4f3 69 = .ok (.baload, 1) := by decide +kernel
theorem dJ2_getChars_ba4f3_70 : decode cJ2_getChars_ba4f3 70 = .ok (.invokestatic 111, 3) := by decide +kernel
theorem dJ2_getChars_ba4f3_73 : decode cJ2_getChars_ba4f3 73 = .ok (.goto (-51), 3) := by decide +kernel
theorem dJ2_getChars_ba4f3_76 : decode cJ2_getChars_ba4f3 76 = .ok (.aload_n 2, 1) := by decide +kernel
theorem dJ2_getChars_ba4f3_77 : decode cJ2_getChars_ba4f3 77 = .ok (.iinc 5 (-1), 3) := by decide +kernel
theorem dJ2_getChars_ba4f3_80 : decode cJ2_getChars_ba4f3 80 = .ok (.iload 5, 2) := by decide +kernel
theorem dJ2_getChars_ba4f3_82 : decode cJ2_getChars_ba4f3 82 = .ok (.getstatic 403, 3) := by decide +kernel
theorem dJ2_getChars_ba4f3_85 : decode cJ2_getChars_ba4f3 85 = .ok (.iload_n 0, 1) := by decide +kernel
theorem dJ2_getChars_ba4f3_86 : decode cJ2_getChars_ba4f3 86 = .ok (.ineg, 1) := by decide +kernel
theorem dJ2_getChars_ba4f3_87 : decode cJ2_getChars_ba4f3 87 = .ok (.baload, 1) := by decide +kernel
theorem dJ2_getChars_ba4f3_88 : decode cJ2_getChars_ba4f3 88 = .ok (.invokestatic 111, 3) := by decide +kernel
theorem dJ2_getChars_ba4f3_91 : decode cJ2_getChars_ba4f3 91 = .ok (.iload_n 0, 1) := by decide +kernel
theorem dJ2_getChars_ba4f3_92 : decode cJ2_getChars_ba4f3 92 = .ok (.bipush (-9), 2) := by decide +kernel
theorem dJ2_getChars_ba4f3_94 : decode cJ2_getChars_ba4f3 94 = .ok (.if_icmp .ge 18, 3) := by decide +kernel
theorem dJ2_getChars_ba4f3_97 : decode cJ2_getChars_ba4f3 97 = .ok (.aload_n 2, 1) := by decide +kernel
theorem dJ2_getChars_ba4f3_98 : decode cJ2_getChars_ba4f3 98 = .ok (.iinc 5 (-1), 3) := by decide +kernel
theorem dJ2_getChars_ba4f3_101 : decode cJ2_getChars_ba4f3 101 = .ok (.iload 5, 2) := by decide +kernel
theorem dJ2_getChars_ba4f3_103 : decode cJ2_getChars_ba4f3 103 = .ok (.getstatic 407, 3) := by decide +kernel
theorem dJ2_getChars_ba4f3_106 : decode cJ2_getChars_ba4f3 106 = .ok (.iload_n 0, 1) := by decide +kernel
theorem dJ2_getChars_ba4f3_107 : decode cJ2_getChars_ba4f3 107 = .ok (.ineg, 1) := by decide +kernel
theorem dJ2_getChars_ba4f3_108 : decode cJ2_getChars_ba4f3 108 = .ok (.baload, 1) := by decide +kernel
theorem dJ2_getChars_ba4f3_109 : decode cJ2_getChars_ba4f3 109 = .ok (.invokestatic 111, 3) := by decide +kernel
theorem dJ2_getChars_ba4f3_112 : decode cJ2_getChars_ba4f3 112 = .ok (.iload 6, 2) := by decide +kernel
theorem dJ2_getChars_ba4f3_114 : decode cJ2_getChars_ba4f3 114 = .ok (.ifCond .eq 14, 3) := by decide +kernel
theorem dJ2_getChars_ba4f3_117 : decode cJ2_getChars_ba4f3 117 = .ok (.aload_n 2, 1) := by decide +kernel
theorem dJ2_getChars_ba4f3_118 : decode cJ2_getChars_ba4f3 118 = .ok (.iinc 5 (-1), 3) := by decide +kernel
theorem dJ2_getChars_ba4f3_121 : decode cJ2_getChars_ba4f3 121 = .ok (.iload 5, 2) := by decide +kernel
theorem dJ2_getChars_ba4f3_123 : decode cJ2_getChars_ba4f3 123 = .ok (.bipush 45, 2) := by decide +kernel
theorem dJ2_getChars_ba4f3_125 : decode cJ2_getChars_ba4f3 125 = .ok (.invokestatic 111, 3) := by decide +kernel
theorem dJ2_getChars_ba4f3_128 : decode cJ2_getChars_ba4f3 128 = .ok (.iload 5, 2) := by decide +kernel
theorem dJ2_getChars_ba4f3_130 : decode cJ2_getChars_ba4f3 130 = .ok (.ireturn, 1) := by decide +kernel
theorem dJ2_checkIndex_2214a_0 : decode cJ2_checkIndex_2214a 0 = .ok (.iload_n 0, 1) := by decide +kernel
theorem dJ2_checkIndex_2214a_1 : decode cJ2_checkIndex_2214a 1 = .ok (.aload_n 1, 1) := by decide +kernel
theorem dJ2_checkIndex_2214a_2 : decode cJ2_checkIndex_2214a 2 = .ok (.invokestatic 48, 3) := by decide +kernel
theorem dJ2_checkIndex_2214a_5 : decode cJ2_checkIndex_2214a 5 = .ok (.invokestatic 414, 3) := by decide +kernel
theorem dJ2_checkIndex_2214a_8 : decode cJ2_checkIndex_2214a 8 = .ok (.return_, 1) := by decide +kernel
theorem dJ2_checkBoundsBeginEnd_d044e_0 : decode cJ2_checkBoundsBeginEnd_d044e 0 = .ok (.iload_n 0, 1) := by decide +kernel
theorem dJ2_checkBoundsBeginEnd_d044e_1 : decode cJ2_checkBoundsBeginEnd_d044e 1 = .ok (.iload_n 1, 1) := by decide +kernel
theorem dJ2_checkBoundsBeginEnd_d044e_2 : decode cJ2_checkBoundsBeginEnd_d044e 2 = .ok (.aload_n 2, 1) := by decide +kernel
theorem dJ2_checkBoundsBeginEnd_d044e_3 : decode cJ2_checkBoundsBeginEnd_d044e 3 = .ok (.invokestatic 48, 3) := by decide +kernel
theorem dJ2_checkBoundsBeginEnd_d044e_6 : decode cJ2_checkBoundsBeginEnd_d044e 6 = .ok (.invokestatic 241, 3) := by decide +kernel
theorem dJ2_checkBoundsBeginEnd_d044e_9 : decode cJ2_checkBoundsBeginEnd_d044e 9 = .ok (.return_, 1) := by decide +kernel
theorem dJ2_checkBoundsOffCount_d044e_0 : decode cJ2_checkBoundsOffCount_d044e 0 = .ok (.iload_n 0, 1) := by decide +kernel
theorem dJ2_checkBoundsOffCount_d044e_1 : decode cJ2_checkBoundsOffCount_d044e 1 = .ok (.iload_n 1, 1) := by decide +kernel
theorem dJ2_checkBoundsOffCount_d044e_2 : decode cJ2_checkBoundsOffCount_d044e 2 = .ok (.aload_n 2, 1) := by decide +kernel
theorem dJ2_checkBoundsOffCount_d044e_3 : decode cJ2_checkBoundsOffCount_d044e 3 = .ok (.invokestatic 48, 3) := by decide +kernel
theorem dJ2_checkBoundsOffCount_d044e_6 : decode cJ2_checkBoundsOffCount_d044e 6 = .ok (.invokestatic 419, 3) := by decide +kernel
theorem dJ2_checkBoundsOffCount_d044e_9 : decode cJ2_checkBoundsOffCount_d044e 9 = .ok (.pop, 1) := by decide +kernel
theorem dJ2_checkBoundsOffCount_d044e_10 : decode cJ2_checkBoundsOffCount_d044e 10 = .ok (.return_, 1) := by decide +kernel
theorem dJ7_fill_53178_0 : decode cJ7_fill_53178 0 = .ok (.iconst 0, 1) := by decide +kernel
theorem dJ7_fill_53178_1 : decode cJ7_fill_53178 1 = .ok (.istore_n 2, 1) := by decide +kernel
theorem dJ7_fill_53178_2 : decode cJ7_fill_53178 2 = .ok (.aload_n 0, 1) := by decide +kernel
theorem dJ7_fill_53178_3 : decode cJ7_fill_53178 3 = .ok (.arraylength, 1) := by decide +kernel
theorem dJ7_fill_53178_4 : decode cJ7_fill_53178 4 = .ok (.istore_n 3, 1) := by decide +kernel
theorem dJ7_fill_53178_5 : decode cJ7_fill_53178 5 = .ok (.iload_n 2, 1) := by decide +kernel
theorem dJ7_fill_53178_6 : decode cJ7_fill_53178 6 = .ok (.iload_n 3, 1) := by decide +kernel
theorem dJ7_fill_53178_7 : decode cJ7_fill_53178 7 = .ok (.if_icmp .ge 13, 3) := by decide +kernel
theorem dJ7_fill_53178_10 : decode cJ7_fill_53178 10 = .ok (.aload_n 0, 1) := by decide +kernel
theorem dJ7_fill_53178_11 : decode cJ7_fill_53178 11 = .ok (.iload_n 2, 1) := by decide +kernel
theorem dJ7_fill_53178_12 : decode cJ7_fill_53178 12 = .ok (.iload_n 1, 1) := by decide +kernel
theorem dJ7_fill_53178_13 : decode cJ7_fill_53178 13 = .ok (.iastore, 1) := by decide +kernel
theorem dJ7_fill_53178_14 : decode cJ7_fill_53178 14 = .ok (.iinc 2 1, 3) := by decide +kernel
theorem dJ7_fill_53178_17 : decode cJ7_fill_53178 17 = .ok (.goto (-12), 3) := by decide +kernel
theorem dJ7_fill_53178_20 : decode cJ7_fill_53178 20 = .ok (.return_, 1) := by decide +kernel
theorem dJ7_copyOf_9075b_0 : decode cJ7_copyOf_9075b 0 = .ok (.iload_n 1, 1) := by decide +kernel
theorem dJ7_copyOf_9075b_1 : decode cJ7_copyOf_9075b 1 = .ok (.aload_n 0, 1) := by decide +kernel
theorem dJ7_copyOf_9075b_2 : decode cJ7_copyOf_9075b 2 = .ok (.arraylength, 1) := by decide +kernel
theorem dJ7_copyOf_9075b_3 : decode cJ7_copyOf_9075b 3 = .ok (.if_icmp .ne 11, 3) := by decide +kernel
theorem dJ7_copyOf_9075b_6 : decode cJ7_copyOf_9075b 6 = .ok (.aload_n 0, 1) := by decide +kernel
theorem dJ7_copyOf_9075b_7 : decode cJ7_copyOf_9075b 7 = .ok (.invokevirtual 310, 3) := by decide +kernel
theorem dJ7_copyOf_9075b_10 : decode cJ7_copyOf_9075b 10 = .ok (.checkcast 311, 3) := by decide +kernel
theorem dJ7_copyOf_9075b_13 : decode cJ7_copyOf_9075b 13 = .ok (.areturn, 1) := by decide +kernel
theorem dJ7_copyOf_9075b_14 : decode cJ7_copyOf_9075b 14 = .ok (.iload_n 1, 1) := by decide +kernel
theorem dJ7_copyOf_9075b_15 : decode cJ7_copyOf_9075b 15 = .ok (.newarray .byte, 2) := by decide +kernel
theorem dJ7_copyOf_9075b_17 : decode cJ7_copyOf_9075b 17 = .ok (.astore_n 2, 1) := by decide +kernel
theorem dJ7_copyOf_9075b_18 : decode cJ7_copyOf_9075b 18 = .ok (.aload_n 0, 1) := by decide +kernel
theorem dJ7_copyOf_9075b_19 : decode cJ7_copyOf_9075b 19 = .ok (.iconst 0, 1) := by decide +kernel
theorem dJ7_copyOf_9075b_20 : decode cJ7_copyOf_9075b 20 = .ok (.aload_n 2, 1) := by decide +kernel
theorem dJ7_copyOf_9075b_21 : decode cJ7_copyOf_9075b 21 = .ok (.iconst 0, 1) := by decide +kernel
theorem dJ7_copyOf_9075b_22 : decode cJ7_copyOf_9075b 22 = .ok (.aload_n 0, 1) := by decide +kernel
theorem dJ7_copyOf_9075b_23 : decode cJ7_copyOf_9075b 23 = .ok (.arraylength, 1) := by decide +kernel
theorem dJ7_copyOf_9075b_24 : decode cJ7_copyOf_9075b 24 = .ok (.iload_n 1, 1) := by decide +kernel
theorem dJ7_copyOf_9075b_25 : decode cJ7_copyOf_9075b 25 = .ok (.invokestatic 304, 3) := by decide +kernel
theorem dJ7_copyOf_9075b_28 : decode cJ7_copyOf_9075b 28 = .ok (.invokestatic 150, 3) := by decide +kernel
theorem dJ7_copyOf_9075b_31 : decode cJ7_copyOf_9075b 31 = .ok (.aload_n 2, 1) := by decide +kernel
theorem dJ7_copyOf_9075b_32 : decode cJ7_copyOf_9075b 32 = .ok (.areturn, 1) := by decide +kernel
theorem dJ7_checkLength_df160_0 : decode cJ7_checkLength_df160 0 = .ok (.iload_n 1, 1) := by decide +kernel
theorem dJ7_checkLength_df160_1 : decode cJ7_checkLength_df160 1 = .ok (.iload_n 0, 1) := by decide +kernel
theorem dJ7_checkLength_df160_2 : decode cJ7_checkLength_df160 2 = .ok (.if_icmp .ge 35, 3) := by decide +kernel
theorem dJ7_checkLength_df160_5 : decode cJ7_checkLength_df160 5 = .ok (.new 43, 3) := by decide +kernel
theorem dJ7_checkLength_df160_8 : decode cJ7_checkLength_df160 8 = .ok (.dup, 1) := by decide +kernel
theorem dJ7_checkLength_df160_9 : decode cJ7_checkLength_df160 9 = .ok (.new 45, 3) := by decide +kernel
theorem dJ7_checkLength_df160_12 : decode cJ7_checkLength_df160 12 = .ok (.dup, 1) := by decide +kernel
theorem dJ7_checkLength_df160_13 : decode cJ7_checkLength_df160 13 = .ok (.invokespecial 47, 3) := by decide +kernel
theorem dJ7_checkLength_df160_16 : decode cJ7_checkLength_df160 16 = .ok (.iload_n 0, 1) := by decide +kernel
theorem dJ7_checkLength_df160_17 : decode cJ7_checkLength_df160 17 = .ok (.invokevirtual 54, 3) := by decide +kernel
theorem dJ7_checkLength_df160_20 : decode cJ7_checkLength_df160 20 = .ok (.ldc_w 337, 3) := by decide +kernel
theorem dJ7_checkLength_df160_23 : decode cJ7_checkLength_df160 23 = .ok (.invokevirtual 50, 3) := by decide +kernel
theorem dJ7_checkLength_df160_26 : decode cJ7_checkLength_df160 26 = .ok (.iload_n 1, 1) := by decide +kernel
theorem dJ7_checkLength_df160_27 : decode cJ7_checkLength_df160 27 = .ok (.invokevirtual 54, 3) := by decide +kernel
theorem dJ7_checkLength_df160_30 : decode cJ7_checkLength_df160 30 = .ok (.invokevirtual 61, 3) := by decide +kernel
theorem dJ7_checkLength_df160_33 : decode cJ7_checkLength_df160 33 = .ok (.invokespecial 65, 3) := by decide +kernel
theorem dJ7_checkLength_df160_36 : decode cJ7_checkLength_df160 36 = .ok (.athrow, 1) := by decide +kernel
theorem dJ7_checkLength_df160_37 : decode cJ7_checkLength_df160 37 = .ok (.return_, 1) := by decide +kernel
theorem dJ7_copyOfRange_39247_0 : decode cJ7_copyOfRange_39247 0 = .ok (.iload_n 1, 1) := by decide +kernel
theorem dJ7_copyOfRange_39247_1 : decode cJ7_copyOfRange_39247 1 = .ok (.ifCond .ne 9, 3) := by decide +kernel
theorem dJ7_copyOfRange_39247_4 : decode cJ7_copyOfRange_39247 4 = .ok (.iload_n 2, 1) := by decide +kernel
theorem dJ7_copyOfRange_39247_5 : decode cJ7_copyOfRange_39247 5 = .ok (.aload_n 0, 1) := by decide +kernel
theorem dJ7_copyOfRange_39247_6 : decode cJ7_copyOfRange_39247 6 = .ok (.arraylength, 1) := by decide +kernel
theorem dJ7_copyOfRange_39247_7 : decode cJ7_copyOfRange_39247 7 = .ok (.if_icmp .eq 10, 3) := by decide +kernel
theorem dJ7_copyOfRange_39247_10 : decode cJ7_copyOfRange_39247 10 = .ok (.aload_n 0, 1) := by decide +kernel
theorem dJ7_copyOfRange_39247_11 : decode cJ7_copyOfRange_39247 11 = .ok (.iload_n 1, 1) := by decide +kernel
theorem dJ7_copyOfRange_39247_12 : decode cJ7_copyOfRange_39247 12 = .ok (.iload_n 2, 1) := by decide +kernel
theorem dJ7_copyOfRange_39247_13 : decode cJ7_copyOfRange_39247 13 = .ok (.invokestatic 339, 3) := by decide +kernel
theorem dJ7_copyOfRange_39247_16 : decode cJ7_copyOfRange_39247 16 = .ok (.areturn, 1) := by decide +kernel
theorem dJ7_copyOfRange_39247_17 : decode cJ7_copyOfRange_39247 17 = .ok (.aload_n 0, 1) := by decide +kernel
theorem dJ7_copyOfRange_39247_18 : decode cJ7_copyOfRange_39247 18 = .ok (.invokevirtual 310, 3) := by decide +kernel
theorem dJ7_copyOfRange_39247_21 : decode cJ7_copyOfRange_39247 21 = .ok (.checkcast 311, 3) := by decide +kernel
theorem dJ7_copyOfRange_39247_24 : decode cJ7_copyOfRange_39247 24 = .ok (.areturn, 1) := by decide +kernel
theorem dJ7_copyOfRangeByte_39247_0 : decode cJ7_copyOfRangeByte_39247 0 = .ok (.iload_n 1, 1) := by decide +kernel
theorem dJ7_copyOfRangeByte_39247_1 : decode cJ7_copyOfRangeByte_39247 1 = .ok (.iload_n 2, 1) := by decide +kernel
theorem dJ7_copyOfRangeByte_39247_2 : decode cJ7_copyOfRangeByte_39247 2 = .ok (.invokestatic 343, 3) := by decide +kernel
theorem dJ7_copyOfRangeByte_39247_5 : decode cJ7_copyOfRangeByte_39247 5 = .ok (.iload_n 2, 1) := by decide +kernel
theorem dJ7_copyOfRangeByte_39247_6 : decode cJ7_copyOfRangeByte_39247 6 = .ok (.iload_n 1, 1) := by decide +kernel
theorem dJ7_copyOfRangeByte_39247_7 : decode cJ7_copyOfRangeByte_39247 7 = .ok (.isub, 1) := by decide +kernel
theorem dJ7_copyOfRangeByte_39247_8 : decode cJ7_copyOfRangeByte_39247 8 = .ok (.istore_n 3, 1) := by decide +kernel
theorem dJ7_copyOfRangeByte_39247_9 : decode cJ7_copyOfRangeByte_39247 9 = .ok (.iload_n 3, 1) := by decide +kernel
theorem dJ7_copyOfRangeByte_39247_10 : decode cJ7_copyOfRangeByte_39247 10 = .ok (.newarray .byte, 2) := by decide +kernel
theorem dJ7_copyOfRangeByte_39247_12 : decode cJ7_copyOfRangeByte_39247 12 = .ok (.astore 4, 2) := by decide +kernel
theorem dJ7_copyOfRangeByte_39247_14 : decode cJ7_copyOfRangeByte_39247 14 = .ok (.aload_n 0, 1) := by decide +kernel
theorem dJ7_copyOfRangeByte_39247_15 : decode cJ7_copyOfRangeByte_39247 15 = .ok (.iload_n 1, 1) := by decide +kernel
theorem dJ7_copyOfRangeByte_39247_16 : decode cJ7_copyOfRangeByte_39247 16 = .ok (.aload 4, 2) := by decide +kernel
theorem dJ7_copyOfRangeByte_39247_18 : decode cJ7_copyOfRangeByte_39247 18 = .ok (.iconst 0, 1) := by decide +kernel
theorem dJ7_copyOfRangeByte_39247_19 : decode cJ7_copyOfRangeByte_39247 19 = .ok (.aload_n 0, 1) := by decide +kernel
theorem dJ7_copyOfRangeByte_39247_20 : decode cJ7_copyOfRangeByte_39247 20 = .ok (.arraylength, 1) := by decide +kernel
theorem dJ7_copyOfRangeByte_39247_21 : decode cJ7_copyOfRangeByte_39247 21 = .ok (.iload_n 1, 1) := by decide +kernel
theorem dJ7_copyOfRangeByte_39247_22 : decode cJ7_copyOfRangeByte_39247 22 = .ok (.isub, 1) := by decide +kernel
theorem dJ7_copyOfRangeByte_39247_23 : decode cJ7_copyOfRangeByte_39247 23 = .ok (.iload_n 3, 1) := by decide +kernel
theorem dJ7_copyOfRangeByte_39247_24 : decode cJ7_copyOfRangeByte_39247 24 = .ok (.invokestatic 304, 3) := by decide +kernel
theorem dJ7_copyOfRangeByte_39247_27 : decode cJ7_copyOfRangeByte_39247 27 = .ok (.invokestatic 150, 3) := by decide +kernel
theorem dJ7_copyOfRangeByte_39247_30 : decode cJ7_copyOfRangeByte_39247 30 = .ok (.aload 4, 2) := by decide +kernel
theorem dJ7_copyOfRangeByte_39247_32 : decode cJ7_copyOfRangeByte_39247 32 = .ok (.areturn, 1) := by decide +kernel
theorem dJ8_newLength_cabcc_0 : decode cJ8_newLength_cabcc 0 = .ok (.iload_n 0, 1) := by decide +kernel
theorem dJ8_newLength_cabcc_1 : decode cJ8_newLength_cabcc 1 = .ok (.iload_n 1, 1) := by decide +kernel
theorem dJ8_newLength_cabcc_2 : decode cJ8_newLength_cabcc 2 = .ok (.iload_n 2, 1) := by decide +kernel
theorem dJ8_newLength_cabcc_3 : decode cJ8_newLength_cabcc 3 = .ok (.invokestatic 194, 3) := by decide +kernel
theorem dJ8_newLength_cabcc_6 : decode cJ8_newLength_cabcc 6 = .ok (.iadd, 1) := by decide +kernel
theorem dJ8_newLength_cabcc_7 : decode cJ8_newLength_cabcc 7 = .ok (.istore_n 3, 1) := by decide +kernel
theorem dJ8_newLength_cabcc_8 : decode cJ8_newLength_cabcc 8 = .ok (.iconst 0, 1) := by decide +kernel
theorem dJ8_newLength_cabcc_9 : decode cJ8_newLength_cabcc 9 = .ok (.iload_n 3, 1) := by decide +kernel
theorem dJ8_newLength_cabcc_10 : decode cJ8_newLength_cabcc 10 = .ok (.if_icmp .ge 11, 3) := by decide +kernel
theorem dJ8_newLength_cabcc_13 : decode cJ8_newLength_cabcc 13 = .ok (.iload_n 3, 1) := by decide +kernel
theorem dJ8_newLength_cabcc_14 : decode cJ8_newLength_cabcc 14 = .ok (.ldc 200, 2) := by decide +kernel
theorem dJ8_newLength_cabcc_16 : decode cJ8_newLength_cabcc 16 = .ok (.if_icmp .gt 5, 3) := by decide +kernel
theorem dJ8_newLength_cabcc_19 : decode cJ8_newLength_cabcc 19 = .ok (.iload_n 3, 1) := by decide +kernel
theorem dJ8_newLength_cabcc_20 : decode cJ8_newLength_cabcc 20 = .ok (.ireturn, 1) := by decide +kernel
theorem dJ8_newLength_cabcc_21 : decode cJ8_newLength_cabcc 21 = .ok (.iload_n 0, 1) := by decide +kernel
theorem dJ8_newLength_cabcc_22 : decode cJ8_newLength_cabcc 22 = .ok (.iload_n 1, 1) := by decide +kernel
theorem dJ8_newLength_cabcc_23 : decode cJ8_newLength_cabcc 23 = .ok (.invokestatic 201, 3) := by decide +kernel
theorem dJ8_newLength_cabcc_26 : decode cJ8_newLength_cabcc 26 = .ok (.ireturn, 1) := by decide +kernel
theorem dJ8_hugeLength_7cf53_0 : decode cJ8_hugeLength_7cf53 0 = .ok (.iload_n 0, 1) := by decide +kernel
theorem dJ8_hugeLength_7cf53_1 : decode cJ8_hugeLength_7cf53 1 = .ok (.iload_n 1, 1) := by decide +kernel
theorem dJ8_hugeLength_7cf53_2 : decode cJ8_hugeLength_7cf53 2 = .ok (.iadd, 1) := by decide +kernel
theorem dJ8_hugeLength_7cf53_3 : decode cJ8_hugeLength_7cf53 3 = .ok (.istore_n 2, 1) := by decide +kernel
theorem dJ8_hugeLength_7cf53_4 : decode cJ8_hugeLength_7cf53 4 = .ok (.iload_n 2, 1) := by decide +kernel
theorem dJ8_hugeLength_7cf53_5 : decode cJ8_hugeLength_7cf53 5 = .ok (.ifCond .ge 44, 3) := by decide +kernel
theorem dJ8_hugeLength_7cf53_8 : decode cJ8_hugeLength_7cf53 8 = .ok (.new 204, 3) := by decide +kernel
theorem dJ8_hugeLength_7cf53_11 : decode cJ8_hugeLength_7cf53 11 = .ok (.dup, 1) := by decide +kernel
theorem dJ8_hugeLength_7cf53_12 : decode cJ8_hugeLength_7cf53 12 = .ok (.new 89, 3) := by decide +kernel
theorem dJ8_hugeLength_7cf53_15 : decode cJ8_hugeLength_7cf53 15 = .ok (.dup, 1) := by decide +kernel
theorem dJ8_hugeLength_7cf53_16 : decode cJ8_hugeLength_7cf53 16 = .ok (.invokespecial 91, 3) := by decide +kernel
theorem dJ8_hugeLength_7cf53_19 : decode cJ8_hugeLength_7cf53 19 = .ok (.ldc 206, 2) := by decide +kernel
theorem dJ8_hugeLength_7cf53_21 : decode cJ8_hugeLength_7cf53 21 = .ok (.invokevirtual 94, 3) := by decide +kernel
theorem dJ8_hugeLength_7cf53_24 : decode cJ8_hugeLength_7cf53 24 = .ok (.iload_n 0, 1) := by decide +kernel
theorem dJ8_hugeLength_7cf53_25 : decode cJ8_hugeLength_7cf53 25 = .ok (.invokevirtual 98, 3) := by decide +kernel
theorem dJ8_hugeLength_7cf53_28 : decode cJ8_hugeLength_7cf53 28 = .ok (.ldc 208, 2) := by decide +kernel
theorem dJ8_hugeLength_7cf53_30 : decode cJ8_hugeLength_7cf53 30 = .ok (.invokevirtual 94, 3) := by decide +kernel
theorem dJ8_hugeLength_7cf53_33 : decode cJ8_hugeLength_7cf53 33 = .ok (.iload_n 1, 1) := by decide +kernel
theorem dJ8_hugeLength_7cf53_34 : decode cJ8_hugeLength_7cf53 34 = .ok (.invokevirtual 98, 3) := by decide +kernel
theorem dJ8_hugeLength_7cf53_37 : decode cJ8_hugeLength_7cf53 37 = .ok (.ldc 210, 2) := by decide +kernel
theorem dJ8_hugeLength_7cf53_39 : decode cJ8_hugeLength_7cf53 39 = .ok (.invokevirtual 94, 3) := by decide +kernel
theorem dJ8_hugeLength_7cf53_42 : decode cJ8_hugeLength_7cf53 42 = .ok (.invokevirtual 101, 3) := by decide +kernel
theorem dJ8_hugeLength_7cf53_45 : decode cJ8_hugeLength_7cf53 45 = .ok (.invokespecial 212, 3) := by decide +kernel
theorem dJ8_hugeLength_7cf53_48 : decode cJ8_hugeLength_7cf53 48 = .ok (.athrow, 1) := by decide +kernel
theorem dJ8_hugeLength_7cf53_49 : decode cJ8_hugeLength_7cf53 49 = .ok (.iload_n 2, 1) := by decide +kernel
theorem dJ8_hugeLength_7cf53_50 : decode cJ8_hugeLength_7cf53 50 = .ok (.ldc 200, 2) := by decide +kernel
theorem dJ8_hugeLength_7cf53_52 : decode cJ8_hugeLength_7cf53 52 = .ok (.if_icmp .gt 6, 3) := by decide +kernel
theorem dJ8_hugeLength_7cf53_55 : decode cJ8_hugeLength_7cf53 55 = .ok (.ldc 200, 2) := by decide +kernel
theorem dJ8_hugeLength_7cf53_57 : decode cJ8_hugeLength_7cf53 57 = .ok (.ireturn, 1) := by decide +kernel
theorem dJ8_hugeLength_7cf53_58 : decode cJ8_hugeLength_7cf53 58 = .ok (.iload_n 2, 1) := by decide +kernel
theorem dJ8_hugeLength_7cf53_59 : decode cJ8_hugeLength_7cf53 59 = .ok (.ireturn, 1) := by decide +kernel
theorem dJ3_checkIndex_8e157_0 : decode cJ3_checkIndex_8e157 0 = .ok (.iload_n 0, 1) := by decide +kernel
theorem dJ3_checkIndex_8e157_1 : decode cJ3_checkIndex_8e157 1 = .ok (.ifCond .lt 8, 3) := by decide +kernel
theorem dJ3_checkIndex_8e157_4 : decode cJ3_checkIndex_8e157 4 = .ok (.iload_n 0, 1) := by decide +kernel
theorem dJ3_checkIndex_8e157_5 : decode cJ3_checkIndex_8e157 5 = .ok (.iload_n 1, 1) := by decide +kernel
theorem dJ3_checkIndex_8e157_6 : decode cJ3_checkIndex_8e157 6 = .ok (.if_icmp .lt 10, 3) := by decide +kernel
theorem dJ3_checkIndex_8e157_9 : decode cJ3_checkIndex_8e157 9 = .ok (.aload_n 2, 1) := by decide +kernel
theorem dJ3_checkIndex_8e157_10 : decode cJ3_checkIndex_8e157 10 = .ok (.iload_n 0, 1) := by decide +kernel
theorem dJ3_checkIndex_8e157_11 : decode cJ3_checkIndex_8e157 11 = .ok (.iload_n 1, 1) := by decide +kernel
theorem dJ3_checkIndex_8e157_12 : decode cJ3_checkIndex_8e157 12 = .ok (.invokestatic 95, 3) := by decide +kernel
theorem dJ3_checkIndex_8e157_15 : decode cJ3_checkIndex_8e157 15 = .ok (.athrow, 1) := by decide +kernel
theorem dJ3_checkIndex_8e157_16 : decode cJ3_checkIndex_8e157 16 = .ok (.iload_n 0, 1) := by decide +kernel
theorem dJ3_checkIndex_8e157_17 : decode cJ3_checkIndex_8e157 17 = .ok (.ireturn, 1) := by decide +kernel
theorem dJ3_checkFromToIndex_8c36e_0 : decode cJ3_checkFromToIndex_8c36e 0 = .ok (.iload_n 0, 1) := by decide +kernel
theorem dJ3_checkFromToIndex_8c36e_1 : decode cJ3_checkFromToIndex_8c36e 1 = .ok (.ifCond .lt 13, 3) := by decide +kernel
theorem dJ3_checkFromToIndex_8c36e_4 : decode cJ3_checkFromToIndex_8c36e 4 = .ok (.iload_n 0, 1) := by decide +kernel
theorem dJ3_checkFromToIndex_8c36e_5 : decode cJ3_checkFromToIndex_8c36e 5 = .ok (.iload_n 1, 1) := by decide +kernel
theorem dJ3_checkFromToIndex_8c36e_6 : decode cJ3_checkFromToIndex_8c36e 6 = .ok (.if_icmp .gt 8, 3) := by decide +kernel
theorem dJ3_checkFromToIndex_8c36e_9 : decode cJ3_checkFromToIndex_8c36e 9 = .ok (.iload_n 1, 1) := by decide +kernel
theorem dJ3_checkFromToIndex_8c36e_10 : decode cJ3_checkFromToIndex_8c36e 10 = .ok (.iload_n 2, 1) := by decide +kernel
theorem dJ3_checkFromToIndex_8c36e_11 : decode cJ3_checkFromToIndex_8c36e 11 = .ok (.if_icmp .le 11, 3) := by decide +kernel
theorem dJ3_checkFromToIndex_8c36e_14 : decode cJ3_checkFromToIndex_8c36e 14 = .ok (.aload_n 3, 1) := by decide +kernel
theorem dJ3_checkFromToIndex_8c36e_15 : decode cJ3_checkFromToIndex_8c36e 15 = .ok (.iload_n 0, 1) := by decide +kernel
theorem dJ3_checkFromToIndex_8c36e_16 : decode cJ3_checkFromToIndex_8c36e 16 = .ok (.iload_n 1, 1) := by decide +kernel
theorem dJ3_checkFromToIndex_8c36e_17 : decode cJ3_checkFromToIndex_8c36e 17 = .ok (.iload_n 2, 1) := by decide +kernel
theorem dJ3_checkFromToIndex_8c36e_18 : decode cJ3_checkFromToIndex_8c36e 18 = .ok (.invokestatic 99, 3) := by decide +kernel
theorem dJ3_checkFromToIndex_8c36e_21 : decode cJ3_checkFromToIndex_8c36e 21 = .ok (.athrow, 1) := by decide +kernel
theorem dJ3_checkFromToIndex_8c36e_22 : decode cJ3_checkFromToIndex_8c36e 22 = .ok (.iload_n 0, 1) := by decide +kernel
theorem dJ3_checkFromToIndex_8c36e_23 : decode cJ3_checkFromToIndex_8c36e 23 = .ok (.ireturn, 1) := by decide +kernel
theorem dJ3_checkFromIndexSize_8c36e_0 : decode cJ3_checkFromIndexSize_8c36e 0 = .ok (.iload_n 2, 1) := by decide +kernel
theorem dJ3_checkFromIndexSize_8c36e_1 : decode cJ3_checkFromIndexSize_8c36e 1 = .ok (.iload_n 0, 1) := by decide +kernel
theorem dJ3_checkFromIndexSize_8c36e_2 : decode cJ3_checkFromIndexSize_8c36e 2 = .ok (.ior, 1) := by decide +kernel
theorem dJ3_checkFromIndexSize_8c36e_3 : decode cJ3_checkFromIndexSize_8c36e 3 = .ok (.iload_n 1, 1) := by decide +kernel
theorem dJ3_checkFromIndexSize_8c36e_4 : decode cJ3_checkFromIndexSize_8c36e 4 = .ok (.ior, 1) := by decide +kernel
theorem dJ3_checkFromIndexSize_8c36e_5 : decode cJ3_checkFromIndexSize_8c36e 5 = .ok (.ifCond .lt 10, 3) := by decide +kernel
theorem dJ3_checkFromIndexSize_8c36e_8 : decode cJ3_checkFromIndexSize_8c36e 8 = .ok (.iload_n 1, 1) := by decide +kernel
theorem dJ3_checkFromIndexSize_8c36e_9 : decode cJ3_checkFromIndexSize_8c36e 9 = .ok (.iload_n 2, 1) := by decide +kernel
theorem dJ3_checkFromIndexSize_8c36e_10 : decode cJ3_checkFromIndexSize_8c36e 10 = .ok (.iload_n 0, 1) := by decide +kernel
theorem dJ3_checkFromIndexSize_8c36e_11 : decode cJ3_checkFromIndexSize_8c36e 11 = .ok (.isub, 1) := by decide +kernel
theorem dJ3_checkFromIndexSize_8c36e_12 : decode cJ3_checkFromIndexSize_8c36e 12 = .ok (.if_icmp .le 11, 3) := by decide +kernel
theorem dJ3_checkFromIndexSize_8c36e_15 : decode cJ3_checkFromIndexSize_8c36e 15 = .ok (.aload_n 3, 1) := by decide +kernel
theorem dJ3_checkFromIndexSize_8c36e_16 : decode cJ3_checkFromIndexSize_8c36e 16 = .ok (.iload_n 0, 1) := by decide +kernel
theorem dJ3_checkFromIndexSize_8c36e_17 : decode cJ3_checkFromIndexSize_8c36e 17 = .ok (.iload_n 1, 1) := by decide +kernel
theorem dJ3_checkFromIndexSize_8c36e_18 : decode cJ3_checkFromIndexSize_8c36e 18 = .ok (.iload_n 2, 1) := by decide +kernel
theorem dJ3_checkFromIndexSize_8c36e_19 : decode cJ3_checkFromIndexSize_8c36e 19 = .ok (.invokestatic 103, 3) := by decide +kernel
theorem dJ3_checkFromIndexSize_8c36e_22 : decode cJ3_checkFromIndexSize_8c36e 22 = .ok (.athrow, 1) := by decide +kernel
theorem dJ3_checkFromIndexSize_8c36e_23 : decode cJ3_checkFromIndexSize_8c36e 23 = .ok (.iload_n 0, 1) := by decide +kernel
theorem dJ3_checkFromIndexSize_8c36e_24 : decode cJ3_checkFromIndexSize_8c36e 24 = .ok (.ireturn, 1) := by decide +kernel
theorem dL_cell_0 : decode cL_cell 0 = .ok (.iload_n 1, 1) := by decide +kernel
theorem dL_cell_1 : decode cL_cell 1 = .ok (.aload_n 0, 1) := by decide +kernel
theorem dL_cell_2 : decode cL_cell 2 = .ok (.arraylength, 1) := by decide +kernel
theorem dL_cell_3 : decode cL_cell 3 = .ok (.if_icmp .ge 9, 3) := by decide +kernel
theorem dL_cell_6 : decode cL_cell 6 = .ok (.aload_n 0, 1) := by decide +kernel
theorem dL_cell_7 : decode cL_cell 7 = .ok (.iload_n 1, 1) := by decide +kernel
theorem dL_cell_8 : decode cL_cell 8 = .ok (.iaload, 1) := by decide +kernel
theorem dL_cell_9 : decode cL_cell 9 = .ok (.goto 10, 3) := by decide +kernel
theorem dL_cell_12 : decode cL_cell 12 = .ok (.ldc 7, 2) := by decide +kernel
theorem dL_cell_14 : decode cL_cell 14 = .ok (.iload_n 1, 1) := by decide +kernel
theorem dL_cell_15 : decode cL_cell 15 = .ok (.imul, 1) := by decide +kernel
theorem dL_cell_16 : decode cL_cell 16 = .ok (.ldc 8, 2) := by decide +kernel
theorem dL_cell_18 : decode cL_cell 18 = .ok (.iadd, 1) := by decide +kernel
theorem dL_cell_19 : decode cL_cell 19 = .ok (.ireturn, 1) := by decide +kernel
theorem dL_between_0 : decode cL_between 0 = .ok (.iload_n 1, 1) := by decide +kernel
theorem dL_between_1 : decode cL_between 1 = .ok (.iload_n 0, 1) := by decide +kernel
theorem dL_between_2 : decode cL_between 2 = .ok (.ldc 9, 2) := by decide +kernel
theorem dL_between_4 : decode cL_between 4 = .ok (.iand, 1) := by decide +kernel
theorem dL_between_5 : decode cL_between 5 = .ok (.iload_n 2, 1) := by decide +kernel
theorem dL_between_6 : decode cL_between 6 = .ok (.iload_n 1, 1) := by decide +kernel
theorem dL_between_7 : decode cL_between 7 = .ok (.isub, 1) := by decide +kernel
theorem dL_between_8 : decode cL_between 8 = .ok (.iconst 1, 1) := by decide +kernel
theorem dL_between_9 : decode cL_between 9 = .ok (.iadd, 1) := by decide +kernel
theorem dL_between_10 : decode cL_between 10 = .ok (.irem, 1) := by decide +kernel
theorem dL_between_11 : decode cL_between 11 = .ok (.iadd, 1) := by decide +kernel
theorem dL_between_12 : decode cL_between 12 = .ok (.ireturn, 1) := by decide +kernel
theorem dL_text_0 : decode cL_text 0 = .ok (.iconst 0, 1) := by decide +kernel
theorem dL_text_1 : decode cL_text 1 = .ok (.istore_n 2, 1) := by decide +kernel
theorem dL_text_2 : decode cL_text 2 = .ok (.iload_n 2, 1) := by decide +kernel
theorem dL_text_3 : decode cL_text 3 = .ok (.aload_n 1, 1) := by decide +kernel
theorem dL_text_4 : decode cL_text 4 = .ok (.invokevirtual 10, 3) := by decide +kernel
theorem dL_text_7 : decode cL_text 7 = .ok (.if_icmp .ge 93, 3) := by decide +kernel
theorem dL_text_10 : decode cL_text 10 = .ok (.iconst 5, 1) := by decide +kernel
theorem dL_text_11 : decode cL_text 11 = .ok (.newarray .int, 2) := by decide +kernel
theorem dL_text_13 : decode cL_text 13 = .ok (.astore_n 3, 1) := by decide +kernel
theorem dL_text_14 : decode cL_text 14 = .ok (.iconst 0, 1) := by decide +kernel
theorem dL_text_15 : decode cL_text 15 = .ok (.istore 4, 2) := by decide +kernel
theorem dL_text_17 : decode cL_text 17 = .ok (.iload 4, 2) := by decide +kernel
theorem dL_text_19 : decode cL_text 19 = .ok (.bipush 20, 2) := by decide +kernel
theorem dL_text_21 : decode cL_text 21 = .ok (.if_icmp .ge 53, 3) := by decide +kernel
theorem dL_text_24 : decode cL_text 24 = .ok (.aload_n 3, 1) := by decide +kernel
theorem dL_text_25 : decode cL_text 25 = .ok (.iload 4, 2) := by decide +kernel
theorem dL_text_27 : decode cL_text 27 = .ok (.iconst 4, 1) := by decide +kernel
theorem dL_text_28 : decode cL_text 28 = .ok (.idiv, 1) := by decide +kernel
theorem dL_text_29 : decode cL_text 29 = .ok (.dup2, 1) := by decide +kernel
theorem dL_text_30 : decode cL_text 30 = .ok (.iaload, 1) := by decide +kernel
theorem dL_text_31 : decode cL_text 31 = .ok (.iload_n 2, 1) := by decide +kernel
theorem dL_text_32 : decode cL_text 32 = .ok (.iload 4, 2) := by decide +kernel
theorem dL_text_34 : decode cL_text 34 = .ok (.iadd, 1) := by decide +kernel
theorem dL_text_35 : decode cL_text 35 = .ok (.aload_n 1, 1) := by decide +kernel
theorem dL_text_36 : decode cL_text 36 = .ok (.invokevirtual 10, 3) := by decide +kernel
theorem dL_text_39 : decode cL_text 39 = .ok (.if_icmp .ge 14, 3) := by decide +kernel
theorem dL_text_42 : decode cL_text 42 = .ok (.aload_n 1, 1) := by decide +kernel
theorem dL_text_43 : decode cL_text 43 = .ok (.iload_n 2, 1) := by decide +kernel
theorem dL_text_44 : decode cL_text 44 = .ok (.iload 4, 2) := by decide +kernel
theorem dL_text_46 : decode cL_text 46 = .ok (.iadd, 1) := by decide +kernel
theorem dL_text_47 : decode cL_text 47 = .ok (.invokevirtual 16, 3) := by decide +kernel
theorem dL_text_50 : decode cL_text 50 = .ok (.goto 5, 3) := by decide +kernel
theorem dL_text_53 : decode cL_text 53 = .ok (.bipush 32, 2) := by decide +kernel
theorem dL_text_55 : decode cL_text 55 = .ok (.bipush 24, 2) := by decide +kernel
theorem dL_text_57 : decode cL_text 57 = .ok (.bipush 8, 2) := by decide +kernel
theorem dL_text_59 : decode cL_text 59 = .ok (.iload 4, 2) := by decide +kernel
theorem dL_text_61 : decode cL_text 61 = .ok (.iconst 4, 1) := by decide +kernel
theorem dL_text_62 : decode cL_text 62 = .ok (.irem, 1) := by decide +kernel
theorem dL_text_63 : decode cL_text 63 = .ok (.imul, 1) := by decide +kernel
theorem dL_text_64 : decode cL_text 64 = .ok (.isub, 1) := by decide +kernel
theorem dL_text_65 : decode cL_text 65 = .ok (.ishl, 1) := by decide +kernel
theorem dL_text_66 : decode cL_text 66 = .ok (.ior, 1) := by decide +kernel
theorem dL_text_67 : decode cL_text 67 = .ok (.iastore, 1) := by decide +kernel
theorem dL_text_68 : decode cL_text 68 = .ok (.iinc 4 1, 3) := by decide +kernel
theorem dL_text_71 : decode cL_text 71 = .ok (.goto (-54), 3) := by decide +kernel
theorem dL_text_74 : decode cL_text 74 = .ok (.aload_n 0, 1) := by decide +kernel
theorem dL_text_75 : decode cL_text 75 = .ok (.aload_n 3, 1) := by decide +kernel
theorem dL_text_76 : decode cL_text 76 = .ok (.iconst 0, 1) := by decide +kernel
theorem dL_text_77 : decode cL_text 77 = .ok (.iaload, 1) := by decide +kernel
theorem dL_text_78 : decode cL_text 78 = .ok (.aload_n 3, 1) := by decide +kernel
theorem dL_text_79 : decode cL_text 79 = .ok (.iconst 1, 1) := by decide +kernel
theorem dL_text_80 : decode cL_text 80 = .ok (.iaload, 1) := by decide +kernel
theorem dL_text_81 : decode cL_text 81 = .ok (.aload_n 3, 1) := by decide +kernel
theorem dL_text_82 : decode cL_text 82 = .ok (.iconst 2, 1) := by decide +kernel
theorem dL_text_83 : decode cL_text 83 = .ok (.iaload, 1) := by decide +kernel
theorem dL_text_84 : decode cL_text 84 = .ok (.aload_n 3, 1) := by decide +kernel
theorem dL_text_85 : decode cL_text 85 = .ok (.iconst 3, 1) := by decide +kernel
theorem dL_text_86 : decode cL_text 86 = .ok (.iaload, 1) := by decide +kernel
theorem dL_text_87 : decode cL_text 87 = .ok (.aload_n 3, 1) := by decide +kernel
theorem dL_text_88 : decode cL_text 88 = .ok (.iconst 4, 1) := by decide +kernel
theorem dL_text_89 : decode cL_text 89 = .ok (.iaload, 1) := by decide +kernel
theorem dL_text_90 : decode cL_text 90 = .ok (.invokevirtual 20, 3) := by decide +kernel
theorem dL_text_93 : decode cL_text 93 = .ok (.pop, 1) := by decide +kernel
theorem dL_text_94 : decode cL_text 94 = .ok (.iinc 2 20, 3) := by decide +kernel
theorem dL_text_97 : decode cL_text 97 = .ok (.goto (-95), 3) := by decide +kernel
theorem dL_text_100 : decode cL_text 100 = .ok (.aload_n 0, 1) := by decide +kernel
theorem dL_text_101 : decode cL_text 101 = .ok (.aload_n 1, 1) := by decide +kernel
theorem dL_text_102 : decode cL_text 102 = .ok (.invokevirtual 10, 3) := by decide +kernel
theorem dL_text_105 : decode cL_text 105 = .ok (.invokevirtual 26, 3) := by decide +kernel
theorem dL_text_108 : decode cL_text 108 = .ok (.pop, 1) := by decide +kernel
theorem dL_text_109 : decode cL_text 109 = .ok (.return_, 1) := by decide +kernel
theorem dL_parsed_0 : decode cL_parsed 0 = .ok (.aload_n 0, 1) := by decide +kernel
theorem dL_parsed_1 : decode cL_parsed 1 = .ok (.aload_n 1, 1) := by decide +kernel
theorem dL_parsed_2 : decode cL_parsed 2 = .ok (.invokestatic 30, 3) := by decide +kernel
theorem dL_parsed_5 : decode cL_parsed 5 = .ok (.aload_n 0, 1) := by decide +kernel
theorem dL_parsed_6 : decode cL_parsed 6 = .ok (.invokevirtual 36, 3) := by decide +kernel
theorem dL_parsed_9 : decode cL_parsed 9 = .ok (.ireturn, 1) := by decide +kernel
theorem dL_law_0 : decode cL_law 0 = .ok (.new 21, 3) := by decide +kernel
theorem dL_law_3 : decode cL_law 3 = .ok (.dup, 1) := by decide +kernel
theorem dL_law_4 : decode cL_law 4 = .ok (.invokespecial 39, 3) := by decide +kernel
theorem dL_law_7 : decode cL_law 7 = .ok (.astore_n 1, 1) := by decide +kernel
theorem dL_law_8 : decode cL_law 8 = .ok (.aload_n 1, 1) := by decide +kernel
theorem dL_law_9 : decode cL_law 9 = .ok (.invokevirtual 40, 3) := by decide +kernel
theorem dL_law_12 : decode cL_law 12 = .ok (.bipush (-2), 2) := by decide +kernel
theorem dL_law_14 : decode cL_law 14 = .ok (.if_icmp .ne 61, 3) := by decide +kernel
theorem dL_law_17 : decode cL_law 17 = .ok (.aload_n 1, 1) := by decide +kernel
theorem dL_law_18 : decode cL_law 18 = .ok (.invokevirtual 43, 3) := by decide +kernel
theorem dL_law_21 : decode cL_law 21 = .ok (.ifCond .ne 54, 3) := by decide +kernel
theorem dL_law_24 : decode cL_law 24 = .ok (.aload_n 1, 1) := by decide +kernel
theorem dL_law_25 : decode cL_law 25 = .ok (.invokevirtual 46, 3) := by decide +kernel
theorem dL_law_28 : decode cL_law 28 = .ok (.iconst (-1), 1) := by decide +kernel
theorem dL_law_29 : decode cL_law 29 = .ok (.if_icmp .ne 46, 3) := by decide +kernel
theorem dL_law_32 : decode cL_law 32 = .ok (.aload_n 1, 1) := by decide +kernel
theorem dL_law_33 : decode cL_law 33 = .ok (.bipush 7, 2) := by decide +kernel
theorem dL_law_35 : decode cL_law 35 = .ok (.invokevirtual 49, 3) := by decide +kernel
theorem dL_law_38 : decode cL_law 38 = .ok (.bipush 7, 2) := by decide +kernel
theorem dL_law_40 : decode cL_law 40 = .ok (.if_icmp .ne 35, 3) := by decide +kernel
theorem dL_law_43 : decode cL_law 43 = .ok (.aload_n 1, 1) := by decide +kernel
theorem dL_law_44 : decode cL_law 44 = .ok (.invokevirtual 53, 3) := by decide +kernel
theorem dL_law_47 : decode cL_law 47 = .ok (.ifCond .ne 28, 3) := by decide +kernel
theorem dL_law_50 : decode cL_law 50 = .ok (.aload_n 1, 1) := by decide +kernel
theorem dL_law_51 : decode cL_law 51 = .ok (.invokevirtual 56, 3) := by decide +kernel
theorem dL_law_54 : decode cL_law 54 = .ok (.sipush 1439, 3) := by decide +kernel
theorem dL_law_57 : decode cL_law 57 = .ok (.if_icmp .ne 18, 3) := by decide +kernel
theorem dL_law_60 : decode cL_law 60 = .ok (.aload_n 1, 1) := by decide +kernel
theorem dL_law_61 : decode cL_law 61 = .ok (.iconst 0, 1) := by decide +kernel
theorem dL_law_62 : decode cL_law 62 = .ok (.invokevirtual 59, 3) := by decide +kernel
theorem dL_law_65 : decode cL_law 65 = .ok (.ifCond .ne 10, 3) := by decide +kernel
theorem dL_law_68 : decode cL_law 68 = .ok (.aload_n 1, 1) := by decide +kernel
theorem dL_law_69 : decode cL_law 69 = .ok (.invokevirtual 62, 3) := by decide +kernel
theorem dL_law_72 : decode cL_law 72 = .ok (.ifCond .eq 5, 3) := by decide +kernel
theorem dL_law_75 : decode cL_law 75 = .ok (.iconst 0, 1) := by decide +kernel
theorem dL_law_76 : decode cL_law 76 = .ok (.ireturn, 1) := by decide +kernel
theorem dL_law_77 : decode cL_law 77 = .ok (.iconst 0, 1) := by decide +kernel
theorem dL_law_78 : decode cL_law 78 = .ok (.istore_n 2, 1) := by decide +kernel
theorem dL_law_79 : decode cL_law 79 = .ok (.iload_n 2, 1) := by decide +kernel
theorem dL_law_80 : decode cL_law 80 = .ok (.iconst 2, 1) := by decide +kernel
theorem dL_law_81 : decode cL_law 81 = .ok (.if_icmp .ge 106, 3) := by decide +kernel
theorem dL_law_84 : decode cL_law 84 = .ok (.bipush 20, 2) := by decide +kernel
theorem dL_law_86 : decode cL_law 86 = .ok (.iload_n 2, 1) := by decide +kernel
theorem dL_law_87 : decode cL_law 87 = .ok (.imul, 1) := by decide +kernel
theorem dL_law_88 : decode cL_law 88 = .ok (.istore_n 3, 1) := by decide +kernel
theorem dL_law_89 : decode cL_law 89 = .ok (.aload_n 1, 1) := by decide +kernel
theorem dL_law_90 : decode cL_law 90 = .ok (.aload_n 0, 1) := by decide +kernel
theorem dL_law_91 : decode cL_law 91 = .ok (.iload_n 3, 1) := by decide +kernel
theorem dL_law_92 : decode cL_law 92 = .ok (.invokestatic 65, 3) := by decide +kernel
theorem dL_law_95 : decode cL_law 95 = .ok (.invokestatic 69, 3) := by decide +kernel
theorem dL_law_98 : decode cL_law 98 = .ok (.bipush 14, 2) := by decide +kernel
theorem dL_law_100 : decode cL_law 100 = .ok (.if_icmp .ne 11, 3) := by decide +kernel
theorem dL_law_103 : decode cL_law 103 = .ok (.aload_n 1, 1) := by decide +kernel
theorem dL_law_104 : decode cL_law 104 = .ok (.invokevirtual 73, 3) := by decide +kernel
theorem dL_law_107 : decode cL_law 107 = .ok (.iconst 4, 1) := by decide +kernel
theorem dL_law_108 : decode cL_law 108 = .ok (.if_icmp .eq 5, 3) := by decide +kernel
theorem dL_law_111 : decode cL_law 111 = .ok (.iconst 0, 1) := by decide +kernel
theorem dL_law_112 : decode cL_law 112 = .ok (.ireturn, 1) := by decide +kernel
theorem dL_law_113 : decode cL_law 113 = .ok (.aload_n 0, 1) := by decide +kernel
theorem dL_law_114 : decode cL_law 114 = .ok (.iload_n 3, 1) := by decide +kernel
theorem dL_law_115 : decode cL_law 115 = .ok (.bipush 12, 2) := by decide +kernel
theorem dL_law_117 : decode cL_law 117 = .ok (.iadd, 1) := by decide +kernel
theorem dL_law_118 : decode cL_law 118 = .ok (.invokestatic 76, 3) := by decide +kernel
theorem dL_law_121 : decode cL_law 121 = .ok (.iconst 0, 1) := by decide +kernel
theorem dL_law_122 : decode cL_law 122 = .ok (.sipush 900, 3) := by decide +kernel
theorem dL_law_125 : decode cL_law 125 = .ok (.invokestatic 80, 3) := by decide +kernel
theorem dL_law_128 : decode cL_law 128 = .ok (.istore 4, 2) := by decide +kernel
theorem dL_law_130 : decode cL_law 130 = .ok (.aload_n 1, 1) := by decide +kernel
theorem dL_law_131 : decode cL_law 131 = .ok (.invokevirtual 43, 3) := by decide +kernel
theorem dL_law_134 : decode cL_law 134 = .ok (.ifCond .le 14, 3) := by decide +kernel
theorem dL_law_137 : decode cL_law 137 = .ok (.aload_n 1, 1) := by decide +kernel
theorem dL_law_138 : decode cL_law 138 = .ok (.iload 4, 2) := by decide +kernel
theorem dL_law_140 : decode cL_law 140 = .ok (.invokestatic 84, 3) := by decide +kernel
theorem dL_law_143 : decode cL_law 143 = .ok (.ifCond .ne 5, 3) := by decide +kernel
theorem dL_law_146 : decode cL_law 146 = .ok (.iconst 0, 1) := by decide +kernel
theorem dL_law_147 : decode cL_law 147 = .ok (.ireturn, 1) := by decide +kernel
theorem dL_law_148 : decode cL_law 148 = .ok (.aload_n 1, 1) := by decide +kernel
theorem dL_law_149 : decode cL_law 149 = .ok (.iload 4, 2) := by decide +kernel
theorem dL_law_151 : decode cL_law 151 = .ok (.invokestatic 88, 3) := by decide +kernel
theorem dL_law_154 : decode cL_law 154 = .ok (.ifCond .eq 25, 3) := by decide +kernel
theorem dL_law_157 : decode cL_law 157 = .ok (.aload_n 1, 1) := by decide +kernel
theorem dL_law_158 : decode cL_law 158 = .ok (.invokestatic 91, 3) := by decide +kernel
theorem dL_law_161 : decode cL_law 161 = .ok (.ifCond .eq 18, 3) := by decide +kernel
theorem dL_law_164 : decode cL_law 164 = .ok (.aload_n 1, 1) := by decide +kernel
theorem dL_law_165 : decode cL_law 165 = .ok (.aload_n 0, 1) := by decide +kernel
theorem dL_law_166 : decode cL_law 166 = .ok (.iload_n 3, 1) := by decide +kernel
theorem dL_law_167 : decode cL_law 167 = .ok (.bipush 13, 2) := by decide +kernel
theorem dL_law_169 : decode cL_law 169 = .ok (.iadd, 1) := by decide +kernel
theorem dL_law_170 : decode cL_law 170 = .ok (.invokestatic 76, 3) := by decide +kernel
theorem dL_law_173 : decode cL_law 173 = .ok (.invokestatic 95, 3) := by decide +kernel
theorem dL_law_176 : decode cL_law 176 = .ok (.ifCond .ne 5, 3) := by decide +kernel
theorem dL_law_179 : decode cL_law 179 = .ok (.iconst 0, 1) := by decide +kernel
theorem dL_law_180 : decode cL_law 180 = .ok (.ireturn, 1) := by decide +kernel
theorem dL_law_181 : decode cL_law 181 = .ok (.iinc 2 1, 3) := by decide +kernel
theorem dL_law_184 : decode cL_law 184 = .ok (.goto (-105), 3) := by decide +kernel
theorem dL_law_187 : decode cL_law 187 = .ok (.iconst 1, 1) := by decide +kernel
theorem dL_law_188 : decode cL_law 188 = .ok (.ireturn, 1) := by decide +kernel
theorem dL_bakery_0 : decode cL_bakery 0 = .ok (.new 98, 3) := by decide +kernel
theorem dL_bakery_3 : decode cL_bakery 3 = .ok (.dup, 1) := by decide +kernel
theorem dL_bakery_4 : decode cL_bakery 4 = .ok (.new 98, 3) := by decide +kernel
theorem dL_bakery_7 : decode cL_bakery 7 = .ok (.dup, 1) := by decide +kernel
theorem dL_bakery_8 : decode cL_bakery 8 = .ok (.invokespecial 100, 3) := by decide +kernel
theorem dL_bakery_11 : decode cL_bakery 11 = .ok (.ldc 101, 2) := by decide +kernel
theorem dL_bakery_13 : decode cL_bakery 13 = .ok (.invokevirtual 103, 3) := by decide +kernel
theorem dL_bakery_16 : decode cL_bakery 16 = .ok (.aload_n 0, 1) := by decide +kernel
theorem dL_bakery_17 : decode cL_bakery 17 = .ok (.iload_n 1, 1) := by decide +kernel
theorem dL_bakery_18 : decode cL_bakery 18 = .ok (.invokestatic 76, 3) := by decide +kernel
theorem dL_bakery_21 : decode cL_bakery 21 = .ok (.iconst 1, 1) := by decide +kernel
theorem dL_bakery_22 : decode cL_bakery 22 = .ok (.iconst 2, 1) := by decide +kernel
theorem dL_bakery_23 : decode cL_bakery 23 = .ok (.invokestatic 80, 3) := by decide +kernel
theorem dL_bakery_26 : decode cL_bakery 26 = .ok (.invokevirtual 107, 3) := by decide +kernel
theorem dL_bakery_29 : decode cL_bakery 29 = .ok (.ldc 110, 2) := by decide +kernel
theorem dL_bakery_31 : decode cL_bakery 31 = .ok (.invokevirtual 103, 3) := by decide +kernel
theorem dL_bakery_34 : decode cL_bakery 34 = .ok (.aload_n 0, 1) := by decide +kernel
theorem dL_bakery_35 : decode cL_bakery 35 = .ok (.iload_n 1, 1) := by decide +kernel
theorem dL_bakery_36 : decode cL_bakery 36 = .ok (.iconst 1, 1) := by decide +kernel
theorem dL_bakery_37 : decode cL_bakery 37 = .ok (.iadd, 1) := by decide +kernel
theorem dL_bakery_38 : decode cL_bakery 38 = .ok (.invokestatic 76, 3) := by decide +kernel
theorem dL_bakery_41 : decode cL_bakery 41 = .ok (.invokestatic 112, 3) := by decide +kernel
theorem dL_bakery_44 : decode cL_bakery 44 = .ok (.invokevirtual 103, 3) := by decide +kernel
theorem dL_bakery_47 : decode cL_bakery 47 = .ok (.ldc 116, 2) := by decide +kernel
theorem dL_bakery_49 : decode cL_bakery 49 = .ok (.invokevirtual 103, 3) := by decide +kernel
theorem dL_bakery_52 : decode cL_bakery 52 = .ok (.aload_n 0, 1) := by decide +kernel
theorem dL_bakery_53 : decode cL_bakery 53 = .ok (.iload_n 1, 1) := by decide +kernel
theorem dL_bakery_54 : decode cL_bakery 54 = .ok (.iconst 2, 1) := by decide +kernel
theorem dL_bakery_55 : decode cL_bakery 55 = .ok (.iadd, 1) := by decide +kernel
theorem dL_bakery_56 : decode cL_bakery 56 = .ok (.invokestatic 76, 3) := by decide +kernel
theorem dL_bakery_59 : decode cL_bakery 59 = .ok (.invokestatic 112, 3) := by decide +kernel
theorem dL_bakery_62 : decode cL_bakery 62 = .ok (.invokevirtual 103, 3) := by decide +kernel
theorem dL_bakery_65 : decode cL_bakery 65 = .ok (.ldc 118, 2) := by decide +kernel
theorem dL_bakery_67 : decode cL_bakery 67 = .ok (.invokevirtual 103, 3) := by decide +kernel
theorem dL_bakery_70 : decode cL_bakery 70 = .ok (.invokevirtual 120, 3) := by decide +kernel
theorem dL_bakery_73 : decode cL_bakery 73 = .ok (.invokespecial 124, 3) := by decide +kernel
theorem dL_bakery_76 : decode cL_bakery 76 = .ok (.astore_n 2, 1) := by decide +kernel
theorem dL_bakery_77 : decode cL_bakery 77 = .ok (.aload_n 0, 1) := by decide +kernel
theorem dL_bakery_78 : decode cL_bakery 78 = .ok (.iload_n 1, 1) := by decide +kernel
theorem dL_bakery_79 : decode cL_bakery 79 = .ok (.iconst 3, 1) := by decide +kernel
theorem dL_bakery_80 : decode cL_bakery 80 = .ok (.iadd, 1) := by decide +kernel
theorem dL_bakery_81 : decode cL_bakery 81 = .ok (.invokestatic 76, 3) := by decide +kernel
theorem dL_bakery_84 : decode cL_bakery 84 = .ok (.istore_n 3, 1) := by decide +kernel
theorem dL_bakery_85 : decode cL_bakery 85 = .ok (.aload_n 2, 1) := by decide +kernel
theorem dL_bakery_86 : decode cL_bakery 86 = .ok (.ldc 127, 2) := by decide +kernel
theorem dL_bakery_88 : decode cL_bakery 88 = .ok (.invokevirtual 103, 3) := by decide +kernel
theorem dL_bakery_91 : decode cL_bakery 91 = .ok (.iload_n 3, 1) := by decide +kernel
theorem dL_bakery_92 : decode cL_bakery 92 = .ok (.iconst 1, 1) := by decide +kernel
theorem dL_bakery_93 : decode cL_bakery 93 = .ok (.iconst 3, 1) := by decide +kernel
theorem dL_bakery_94 : decode cL_bakery 94 = .ok (.invokestatic 80, 3) := by decide +kernel
theorem dL_bakery_97 : decode cL_bakery 97 = .ok (.invokevirtual 107, 3) := by decide +kernel
theorem dL_bakery_100 : decode cL_bakery 100 = .ok (.ldc 129, 2) := by decide +kernel
theorem dL_bakery_102 : decode cL_bakery 102 = .ok (.invokevirtual 103, 3) := by decide +kernel
theorem dL_bakery_105 : decode cL_bakery 105 = .ok (.iload_n 3, 1) := by decide +kernel
theorem dL_bakery_106 : decode cL_bakery 106 = .ok (.iconst 3, 1) := by decide +kernel
theorem dL_bakery_107 : decode cL_bakery 107 = .ok (.ishr, 1) := by decide +kernel
theorem dL_bakery_108 : decode cL_bakery 108 = .ok (.bipush 20, 2) := by decide +kernel
theorem dL_bakery_110 : decode cL_bakery 110 = .ok (.sipush 240, 3) := by decide +kernel
theorem dL_bakery_113 : decode cL_bakery 113 = .ok (.invokestatic 80, 3) := by decide +kernel
theorem dL_bakery_116 : decode cL_bakery 116 = .ok (.invokevirtual 107, 3) := by decide +kernel
theorem dL_bakery_119 : decode cL_bakery 119 = .ok (.ldc 131, 2) := by decide +kernel
theorem dL_bakery_121 : decode cL_bakery 121 = .ok (.invokevirtual 103, 3) := by decide +kernel
theorem dL_bakery_124 : decode cL_bakery 124 = .ok (.iload_n 3, 1) := by decide +kernel
theorem dL_bakery_125 : decode cL_bakery 125 = .ok (.bipush 12, 2) := by decide +kernel
theorem dL_bakery_127 : decode cL_bakery 127 = .ok (.ishr, 1) := by decide +kernel
theorem dL_bakery_128 : decode cL_bakery 128 = .ok (.iconst 5, 1) := by decide +kernel
theorem dL_bakery_129 : decode cL_bakery 129 = .ok (.bipush 30, 2) := by decide +kernel
theorem dL_bakery_131 : decode cL_bakery 131 = .ok (.invokestatic 80, 3) := by decide +kernel
theorem dL_bakery_134 : decode cL_bakery 134 = .ok (.invokevirtual 107, 3) := by decide +kernel
theorem dL_bakery_137 : decode cL_bakery 137 = .ok (.ldc 118, 2) := by decide +kernel
theorem dL_bakery_139 : decode cL_bakery 139 = .ok (.invokevirtual 103, 3) := by decide +kernel
theorem dL_bakery_142 : decode cL_bakery 142 = .ok (.pop, 1) := by decide +kernel
theorem dL_bakery_143 : decode cL_bakery 143 = .ok (.aload_n 2, 1) := by decide +kernel
theorem dL_bakery_144 : decode cL_bakery 144 = .ok (.ldc 133, 2) := by decide +kernel
theorem dL_bakery_146 : decode cL_bakery 146 = .ok (.invokevirtual 103, 3) := by decide +kernel
theorem dL_bakery_149 : decode cL_bakery 149 = .ok (.pop, 1) := by decide +kernel
theorem dL_bakery_150 : decode cL_bakery 150 = .ok (.aload_n 0, 1) := by decide +kernel
theorem dL_bakery_151 : decode cL_bakery 151 = .ok (.iload_n 1, 1) := by decide +kernel
theorem dL_bakery_152 : decode cL_bakery 152 = .ok (.iconst 4, 1) := by decide +kernel
theorem dL_bakery_153 : decode cL_bakery 153 = .ok (.iadd, 1) := by decide +kernel
theorem dL_bakery_154 : decode cL_bakery 154 = .ok (.invokestatic 76, 3) := by decide +kernel
theorem dL_bakery_157 : decode cL_bakery 157 = .ok (.istore 4, 2) := by decide +kernel
theorem dL_bakery_159 : decode cL_bakery 159 = .ok (.aload_n 2, 1) := by decide +kernel
theorem dL_bakery_160 : decode cL_bakery 160 = .ok (.ldc 135, 2) := by decide +kernel
theorem dL_bakery_162 : decode cL_bakery 162 = .ok (.invokevirtual 103, 3) := by decide +kernel
theorem dL_bakery_165 : decode cL_bakery 165 = .ok (.iload 4, 2) := by decide +kernel
theorem dL_bakery_167 : decode cL_bakery 167 = .ok (.iconst 1, 1) := by decide +kernel
theorem dL_bakery_168 : decode cL_bakery 168 = .ok (.bipush 40, 2) := by decide +kernel
theorem dL_bakery_170 : decode cL_bakery 170 = .ok (.invokestatic 80, 3) := by decide +kernel
theorem dL_bakery_173 : decode cL_bakery 173 = .ok (.invokevirtual 107, 3) := by decide +kernel
theorem dL_bakery_176 : decode cL_bakery 176 = .ok (.ldc 137, 2) := by decide +kernel
theorem dL_bakery_178 : decode cL_bakery 178 = .ok (.invokevirtual 103, 3) := by decide +kernel
theorem dL_bakery_181 : decode cL_bakery 181 = .ok (.iload 4, 2) := by decide +kernel
theorem dL_bakery_183 : decode cL_bakery 183 = .ok (.bipush 8, 2) := by decide +kernel
theorem dL_bakery_185 : decode cL_bakery 185 = .ok (.ishr, 1) := by decide +kernel
theorem dL_bakery_186 : decode cL_bakery 186 = .ok (.iconst 1, 1) := by decide +kernel
theorem dL_bakery_187 : decode cL_bakery 187 = .ok (.bipush 40, 2) := by decide +kernel
theorem dL_bakery_189 : decode cL_bakery 189 = .ok (.invokestatic 80, 3) := by decide +kernel
theorem dL_bakery_192 : decode cL_bakery 192 = .ok (.invokevirtual 107, 3) := by decide +kernel
theorem dL_bakery_195 : decode cL_bakery 195 = .ok (.ldc 139, 2) := by decide +kernel
theorem dL_bakery_197 : decode cL_bakery 197 = .ok (.invokevirtual 103, 3) := by decide +kernel
theorem dL_bakery_200 : decode cL_bakery 200 = .ok (.iload 4, 2) := by decide +kernel
theorem dL_bakery_202 : decode cL_bakery 202 = .ok (.bipush 16, 2) := by decide +kernel
theorem dL_bakery_204 : decode cL_bakery 204 = .ok (.ishr, 1) := by decide +kernel
theorem dL_bakery_205 : decode cL_bakery 205 = .ok (.iconst 1, 1) := by decide +kernel
theorem dL_bakery_206 : decode cL_bakery 206 = .ok (.bipush 40, 2) := by decide +kernel
theorem dL_bakery_208 : decode cL_bakery 208 = .ok (.invokestatic 80, 3) := by decide +kernel
theorem dL_bakery_211 : decode cL_bakery 211 = .ok (.invokevirtual 107, 3) := by decide +kernel
theorem dL_bakery_214 : decode cL_bakery 214 = .ok (.ldc 118, 2) := by decide +kernel
theorem dL_bakery_216 : decode cL_bakery 216 = .ok (.invokevirtual 103, 3) := by decide +kernel
theorem dL_bakery_219 : decode cL_bakery 219 = .ok (.pop, 1) := by decide +kernel
theorem dL_bakery_220 : decode cL_bakery 220 = .ok (.aload_n 2, 1) := by decide +kernel
theorem dL_bakery_221 : decode cL_bakery 221 = .ok (.ldc 141, 2) := by decide +kernel
theorem dL_bakery_223 : decode cL_bakery 223 = .ok (.invokevirtual 103, 3) := by decide +kernel
theorem dL_bakery_226 : decode cL_bakery 226 = .ok (.aload_n 0, 1) := by decide +kernel
theorem dL_bakery_227 : decode cL_bakery 227 = .ok (.iload_n 1, 1) := by decide +kernel
theorem dL_bakery_228 : decode cL_bakery 228 = .ok (.iconst 5, 1) := by decide +kernel
theorem dL_bakery_229 : decode cL_bakery 229 = .ok (.iadd, 1) := by decide +kernel
theorem dL_bakery_230 : decode cL_bakery 230 = .ok (.invokestatic 76, 3) := by decide +kernel
theorem dL_bakery_233 : decode cL_bakery 233 = .ok (.bipush 30, 2) := by decide +kernel
theorem dL_bakery_235 : decode cL_bakery 235 = .ok (.sipush 200, 3) := by decide +kernel
theorem dL_bakery_238 : decode cL_bakery 238 = .ok (.invokestatic 80, 3) := by decide +kernel
theorem dL_bakery_241 : decode cL_bakery 241 = .ok (.invokevirtual 107, 3) := by decide +kernel
theorem dL_bakery_244 : decode cL_bakery 244 = .ok (.ldc 118, 2) := by decide +kernel
theorem dL_bakery_246 : decode cL_bakery 246 = .ok (.invokevirtual 103, 3) := by decide +kernel
theorem dL_bakery_249 : decode cL_bakery 249 = .ok (.pop, 1) := by decide +kernel
theorem dL_bakery_250 : decode cL_bakery 250 = .ok (.iconst 0, 1) := by decide +kernel
theorem dL_bakery_251 : decode cL_bakery 251 = .ok (.istore 5, 2) := by decide +kernel
theorem dL_bakery_253 : decode cL_bakery 253 = .ok (.iload 5, 2) := by decide +kernel
theorem dL_bakery_255 : decode cL_bakery 255 = .ok (.iconst 4, 1) := by decide +kernel
theorem dL_bakery_256 : decode cL_bakery 256 = .ok (.if_icmp .ge 103, 3) := by decide +kernel
theorem dL_bakery_259 : decode cL_bakery 259 = .ok (.aload_n 0, 1) := by decide +kernel
theorem dL_bakery_260 : decode cL_bakery 260 = .ok (.iload_n 1, 1) := by decide +kernel
theorem dL_bakery_261 : decode cL_bakery 261 = .ok (.bipush 6, 2) := by decide +kernel
theorem dL_bakery_263 : decode cL_bakery 263 = .ok (.iadd, 1) := by decide +kernel
theorem dL_bakery_264 : decode cL_bakery 264 = .ok (.iload 5, 2) := by decide +kernel
theorem dL_bakery_266 : decode cL_bakery 266 = .ok (.iadd, 1) := by decide +kernel
theorem dL_bakery_267 : decode cL_bakery 267 = .ok (.invokestatic 76, 3) := by decide +kernel
theorem dL_bakery_270 : decode cL_bakery 270 = .ok (.istore 6, 2) := by decide +kernel
theorem dL_bakery_272 : decode cL_bakery 272 = .ok (.aload_n 2, 1) := by decide +kernel
theorem dL_bakery_273 : decode cL_bakery 273 = .ok (.ldc 143, 2) := by decide +kernel
theorem dL_bakery_275 : decode cL_bakery 275 = .ok (.invokevirtual 103, 3) := by decide +kernel
theorem dL_bakery_278 : decode cL_bakery 278 = .ok (.iload 6, 2) := by decide +kernel
theorem dL_bakery_280 : decode cL_bakery 280 = .ok (.iconst 1, 1) := by decide +kernel
theorem dL_bakery_281 : decode cL_bakery 281 = .ok (.iand, 1) := by decide +kernel
theorem dL_bakery_282 : decode cL_bakery 282 = .ok (.ifCond .ne 8, 3) := by decide +kernel
theorem dL_bakery_285 : decode cL_bakery 285 = .ok (.ldc 145, 2) := by decide +kernel
theorem dL_bakery_287 : decode cL_bakery 287 = .ok (.goto 5, 3) := by decide +kernel
theorem dL_bakery_290 : decode cL_bakery 290 = .ok (.ldc 147, 2) := by decide +kernel
theorem dL_bakery_292 : decode cL_bakery 292 = .ok (.invokevirtual 103, 3) := by decide +kernel
theorem dL_bakery_295 : decode cL_bakery 295 = .ok (.iload 6, 2) := by decide +kernel
theorem dL_bakery_297 : decode cL_bakery 297 = .ok (.iconst 2, 1) := by decide +kernel
theorem dL_bakery_298 : decode cL_bakery 298 = .ok (.iand, 1) := by decide +kernel
theorem dL_bakery_299 : decode cL_bakery 299 = .ok (.ifCond .ne 8, 3) := by decide +kernel
theorem dL_bakery_302 : decode cL_bakery 302 = .ok (.ldc 149, 2) := by decide +kernel
theorem dL_bakery_304 : decode cL_bakery 304 = .ok (.goto 5, 3) := by decide +kernel
theorem dL_bakery_307 : decode cL_bakery 307 = .ok (.ldc 151, 2) := by decide +kernel
theorem dL_bakery_309 : decode cL_bakery 309 = .ok (.invokevirtual 103, 3) := by decide +kernel
theorem dL_bakery_312 : decode cL_bakery 312 = .ok (.iload 6, 2) := by decide +kernel
theorem dL_bakery_314 : decode cL_bakery 314 = .ok (.iconst 2, 1) := by decide +kernel
theorem dL_bakery_315 : decode cL_bakery 315 = .ok (.ishr, 1) := by decide +kernel
theorem dL_bakery_316 : decode cL_bakery 316 = .ok (.iconst 1, 1) := by decide +kernel
theorem dL_bakery_317 : decode cL_bakery 317 = .ok (.bipush 40, 2) := by decide +kernel
theorem dL_bakery_319 : decode cL_bakery 319 = .ok (.invokestatic 80, 3) := by decide +kernel
theorem dL_bakery_322 : decode cL_bakery 322 = .ok (.invokevirtual 107, 3) := by decide +kernel
theorem dL_bakery_325 : decode cL_bakery 325 = .ok (.ldc 153, 2) := by decide +kernel
theorem dL_bakery_327 : decode cL_bakery 327 = .ok (.invokevirtual 103, 3) := by decide +kernel
theorem dL_bakery_330 : decode cL_bakery 330 = .ok (.iload 6, 2) := by decide +kernel
theorem dL_bakery_332 : decode cL_bakery 332 = .ok (.bipush 8, 2) := by decide +kernel
theorem dL_bakery_334 : decode cL_bakery 334 = .ok (.ishr, 1) := by decide +kernel
theorem dL_bakery_335 : decode cL_bakery 335 = .ok (.sipush 200, 3) := by decide +kernel
theorem dL_bakery_338 : decode cL_bakery 338 = .ok (.sipush 1400, 3) := by decide +kernel
theorem dL_bakery_341 : decode cL_bakery 341 = .ok (.invokestatic 80, 3) := by decide +kernel
theorem dL_bakery_344 : decode cL_bakery 344 = .ok (.invokevirtual 107, 3) := by decide +kernel
theorem dL_bakery_347 : decode cL_bakery 347 = .ok (.ldc 118, 2) := by decide +kernel
theorem dL_bakery_349 : decode cL_bakery 349 = .ok (.invokevirtual 103, 3) := by decide +kernel
theorem dL_bakery_352 : decode cL_bakery 352 = .ok (.pop, 1) := by decide +kernel
theorem dL_bakery_353 : decode cL_bakery 353 = .ok (.iinc 5 1, 3) := by decide +kernel
theorem dL_bakery_356 : decode cL_bakery 356 = .ok (.goto (-103), 3) := by decide +kernel
theorem dL_bakery_359 : decode cL_bakery 359 = .ok (.aload_n 2, 1) := by decide +kernel
theorem dL_bakery_360 : decode cL_bakery 360 = .ok (.invokevirtual 120, 3) := by decide +kernel
theorem dL_bakery_363 : decode cL_bakery 363 = .ok (.areturn, 1) := by decide +kernel
theorem dL_dough_0 : decode cL_dough 0 = .ok (.new 98, 3) := by decide +kernel
theorem dL_dough_3 : decode cL_dough 3 = .ok (.dup, 1) := by decide +kernel
theorem dL_dough_4 : decode cL_dough 4 = .ok (.invokespecial 100, 3) := by decide +kernel
theorem dL_dough_7 : decode cL_dough 7 = .ok (.ldc 155, 2) := by decide +kernel
theorem dL_dough_9 : decode cL_dough 9 = .ok (.invokevirtual 103, 3) := by decide +kernel
theorem dL_dough_12 : decode cL_dough 12 = .ok (.iload_n 0, 1) := by decide +kernel
theorem dL_dough_13 : decode cL_dough 13 = .ok (.iconst 1, 1) := by decide +kernel
theorem dL_dough_14 : decode cL_dough 14 = .ok (.bipush 15, 2) := by decide +kernel
theorem dL_dough_16 : decode cL_dough 16 = .ok (.invokestatic 80, 3) := by decide +kernel
theorem dL_dough_19 : decode cL_dough 19 = .ok (.invokevirtual 107, 3) := by decide +kernel
theorem dL_dough_22 : decode cL_dough 22 = .ok (.ldc 157, 2) := by decide +kernel
theorem dL_dough_24 : decode cL_dough 24 = .ok (.invokevirtual 103, 3) := by decide +kernel
theorem dL_dough_27 : decode cL_dough 27 = .ok (.iload_n 0, 1) := by decide +kernel
theorem dL_dough_28 : decode cL_dough 28 = .ok (.iconst 4, 1) := by decide +kernel
theorem dL_dough_29 : decode cL_dough 29 = .ok (.ishr, 1) := by decide +kernel
theorem dL_dough_30 : decode cL_dough 30 = .ok (.iconst 0, 1) := by decide +kernel
theorem dL_dough_31 : decode cL_dough 31 = .ok (.bipush 60, 2) := by decide +kernel
theorem dL_dough_33 : decode cL_dough 33 = .ok (.invokestatic 80, 3) := by decide +kernel
theorem dL_dough_36 : decode cL_dough 36 = .ok (.invokevirtual 107, 3) := by decide +kernel
theorem dL_dough_39 : decode cL_dough 39 = .ok (.ldc 159, 2) := by decide +kernel
theorem dL_dough_41 : decode cL_dough 41 = .ok (.invokevirtual 103, 3) := by decide +kernel
theorem dL_dough_44 : decode cL_dough 44 = .ok (.iload_n 0, 1) := by decide +kernel
theorem dL_dough_45 : decode cL_dough 45 = .ok (.bipush 9, 2) := by decide +kernel
theorem dL_dough_47 : decode cL_dough 47 = .ok (.ishr, 1) := by decide +kernel
theorem dL_dough_48 : decode cL_dough 48 = .ok (.iconst 1, 1) := by decide +kernel
theorem dL_dough_49 : decode cL_dough 49 = .ok (.bipush 10, 2) := by decide +kernel
theorem dL_dough_51 : decode cL_dough 51 = .ok (.invokestatic 80, 3) := by decide +kernel
theorem dL_dough_54 : decode cL_dough 54 = .ok (.invokevirtual 107, 3) := by decide +kernel
theorem dL_dough_57 : decode cL_dough 57 = .ok (.ldc 161, 2) := by decide +kernel
theorem dL_dough_59 : decode cL_dough 59 = .ok (.invokevirtual 103, 3) := by decide +kernel
theorem dL_dough_62 : decode cL_dough 62 = .ok (.iload_n 0, 1) := by decide +kernel
theorem dL_dough_63 : decode cL_dough 63 = .ok (.bipush 12, 2) := by decide +kernel
theorem dL_dough_65 : decode cL_dough 65 = .ok (.ishr, 1) := by decide +kernel
theorem dL_dough_66 : decode cL_dough 66 = .ok (.iconst 0, 1) := by decide +kernel
theorem dL_dough_67 : decode cL_dough 67 = .ok (.bipush 40, 2) := by decide +kernel
theorem dL_dough_69 : decode cL_dough 69 = .ok (.invokestatic 80, 3) := by decide +kernel
theorem dL_dough_72 : decode cL_dough 72 = .ok (.invokevirtual 107, 3) := by decide +kernel
theorem dL_dough_75 : decode cL_dough 75 = .ok (.ldc 163, 2) := by decide +kernel
theorem dL_dough_77 : decode cL_dough 77 = .ok (.invokevirtual 103, 3) := by decide +kernel
theorem dL_dough_80 : decode cL_dough 80 = .ok (.iload_n 0, 1) := by decide +kernel
theorem dL_dough_81 : decode cL_dough 81 = .ok (.bipush 16, 2) := by decide +kernel
theorem dL_dough_83 : decode cL_dough 83 = .ok (.ishr, 1) := by decide +kernel
theorem dL_dough_84 : decode cL_dough 84 = .ok (.iconst 0, 1) := by decide +kernel
theorem dL_dough_85 : decode cL_dough 85 = .ok (.bipush 120, 2) := by decide +kernel
theorem dL_dough_87 : decode cL_dough 87 = .ok (.invokestatic 80, 3) := by decide +kernel
theorem dL_dough_90 : decode cL_dough 90 = .ok (.invokevirtual 107, 3) := by decide +kernel
theorem dL_dough_93 : decode cL_dough 93 = .ok (.ldc 165, 2) := by decide +kernel
theorem dL_dough_95 : decode cL_dough 95 = .ok (.invokevirtual 103, 3) := by decide +kernel
theorem dL_dough_98 : decode cL_dough 98 = .ok (.iload_n 0, 1) := by decide +kernel
theorem dL_dough_99 : decode cL_dough 99 = .ok (.bipush 20, 2) := by decide +kernel
theorem dL_dough_101 : decode cL_dough 101 = .ok (.ishr, 1) := by decide +kernel
theorem dL_dough_102 : decode cL_dough 102 = .ok (.bipush 10, 2) := by decide +kernel
theorem dL_dough_104 : decode cL_dough 104 = .ok (.bipush 40, 2) := by decide +kernel
theorem dL_dough_106 : decode cL_dough 106 = .ok (.invokestatic 80, 3) := by decide +kernel
theorem dL_dough_109 : decode cL_dough 109 = .ok (.invokevirtual 107, 3) := by decide +kernel
theorem dL_dough_112 : decode cL_dough 112 = .ok (.ldc 129, 2) := by decide +kernel
theorem dL_dough_114 : decode cL_dough 114 = .ok (.invokevirtual 103, 3) := by decide +kernel
theorem dL_dough_117 : decode cL_dough 117 = .ok (.iload_n 0, 1) := by decide +kernel
theorem dL_dough_118 : decode cL_dough 118 = .ok (.iconst 5, 1) := by decide +kernel
theorem dL_dough_119 : decode cL_dough 119 = .ok (.ishr, 1) := by decide +kernel
theorem dL_dough_120 : decode cL_dough 120 = .ok (.sipush 180, 3) := by decide +kernel
theorem dL_dough_123 : decode cL_dough 123 = .ok (.sipush 240, 3) := by decide +kernel
theorem dL_dough_126 : decode cL_dough 126 = .ok (.invokestatic 80, 3) := by decide +kernel
theorem dL_dough_129 : decode cL_dough 129 = .ok (.invokevirtual 107, 3) := by decide +kernel
theorem dL_dough_132 : decode cL_dough 132 = .ok (.ldc 167, 2) := by decide +kernel
theorem dL_dough_134 : decode cL_dough 134 = .ok (.invokevirtual 103, 3) := by decide +kernel
theorem dL_dough_137 : decode cL_dough 137 = .ok (.iload_n 0, 1) := by decide +kernel
theorem dL_dough_138 : decode cL_dough 138 = .ok (.bipush 14, 2) := by decide +kernel
theorem dL_dough_140 : decode cL_dough 140 = .ok (.ishr, 1) := by decide +kernel
theorem dL_dough_141 : decode cL_dough 141 = .ok (.iconst 5, 1) := by decide +kernel
theorem dL_dough_142 : decode cL_dough 142 = .ok (.bipush 30, 2) := by decide +kernel
theorem dL_dough_144 : decode cL_dough 144 = .ok (.invokestatic 80, 3) := by decide +kernel
theorem dL_dough_147 : decode cL_dough 147 = .ok (.invokevirtual 107, 3) := by decide +kernel
theorem dL_dough_150 : decode cL_dough 150 = .ok (.ldc 169, 2) := by decide +kernel
theorem dL_dough_152 : decode cL_dough 152 = .ok (.invokevirtual 103, 3) := by decide +kernel
theorem dL_dough_155 : decode cL_dough 155 = .ok (.iload_n 0, 1) := by decide +kernel
theorem dL_dough_156 : decode cL_dough 156 = .ok (.bipush 7, 2) := by decide +kernel
theorem dL_dough_158 : decode cL_dough 158 = .ok (.ishr, 1) := by decide +kernel
theorem dL_dough_159 : decode cL_dough 159 = .ok (.bipush 60, 2) := by decide +kernel
theorem dL_dough_161 : decode cL_dough 161 = .ok (.sipush 400, 3) := by decide +kernel
theorem dL_dough_164 : decode cL_dough 164 = .ok (.invokestatic 80, 3) := by decide +kernel
theorem dL_dough_167 : decode cL_dough 167 = .ok (.invokevirtual 107, 3) := by decide +kernel
theorem dL_dough_170 : decode cL_dough 170 = .ok (.ldc 171, 2) := by decide +kernel
theorem dL_dough_172 : decode cL_dough 172 = .ok (.invokevirtual 103, 3) := by decide +kernel
theorem dL_dough_175 : decode cL_dough 175 = .ok (.iload_n 0, 1) := by decide +kernel
theorem dL_dough_176 : decode cL_dough 176 = .ok (.bipush 11, 2) := by decide +kernel
theorem dL_dough_178 : decode cL_dough 178 = .ok (.ishr, 1) := by decide +kernel
theorem dL_dough_179 : decode cL_dough 179 = .ok (.iconst 0, 1) := by decide +kernel
theorem dL_dough_180 : decode cL_dough 180 = .ok (.sipush 200, 3) := by decide +kernel
theorem dL_dough_183 : decode cL_dough 183 = .ok (.invokestatic 80, 3) := by decide +kernel
theorem dL_dough_186 : decode cL_dough 186 = .ok (.invokevirtual 107, 3) := by decide +kernel
theorem dL_dough_189 : decode cL_dough 189 = .ok (.invokevirtual 120, 3) := by decide +kernel
theorem dL_dough_192 : decode cL_dough 192 = .ok (.areturn, 1) := by decide +kernel
theorem dL_isNight_0 : decode cL_isNight 0 = .ok (.aload_n 0, 1) := by decide +kernel
theorem dL_isNight_1 : decode cL_isNight 1 = .ok (.iload_n 1, 1) := by decide +kernel
theorem dL_isNight_2 : decode cL_isNight 2 = .ok (.invokevirtual 49, 3) := by decide +kernel
theorem dL_isNight_5 : decode cL_isNight 5 = .ok (.istore_n 2, 1) := by decide +kernel
theorem dL_isNight_6 : decode cL_isNight 6 = .ok (.iconst 0, 1) := by decide +kernel
theorem dL_isNight_7 : decode cL_isNight 7 = .ok (.istore_n 3, 1) := by decide +kernel
theorem dL_isNight_8 : decode cL_isNight 8 = .ok (.iconst 0, 1) := by decide +kernel
theorem dL_isNight_9 : decode cL_isNight 9 = .ok (.istore 4, 2) := by decide +kernel
theorem dL_isNight_11 : decode cL_isNight 11 = .ok (.iconst 0, 1) := by decide +kernel
theorem dL_isNight_12 : decode cL_isNight 12 = .ok (.istore 5, 2) := by decide +kernel
theorem dL_isNight_14 : decode cL_isNight 14 = .ok (.iload 5, 2) := by decide +kernel
theorem dL_isNight_16 : decode cL_isNight 16 = .ok (.aload_n 0, 1) := by decide +kernel
theorem dL_isNight_17 : decode cL_isNight 17 = .ok (.invokevirtual 43, 3) := by decide +kernel
theorem dL_isNight_20 : decode cL_isNight 20 = .ok (.if_icmp .ge 185, 3) := by decide +kernel
theorem dL_isNight_23 : decode cL_isNight 23 = .ok (.iload_n 1, 1) := by decide +kernel
theorem dL_isNight_24 : decode cL_isNight 24 = .ok (.istore 6, 2) := by decide +kernel
theorem dL_isNight_26 : decode cL_isNight 26 = .ok (.iconst 0, 1) := by decide +kernel
theorem dL_isNight_27 : decode cL_isNight 27 = .ok (.istore 7, 2) := by decide +kernel
theorem dL_isNight_29 : decode cL_isNight 29 = .ok (.iload 7, 2) := by decide +kernel
theorem dL_isNight_31 : decode cL_isNight 31 = .ok (.iconst 4, 1) := by decide +kernel
theorem dL_isNight_32 : decode cL_isNight 32 = .ok (.if_icmp .ge 34, 3) := by decide +kernel
theorem dL_isNight_35 : decode cL_isNight 35 = .ok (.aload_n 0, 1) := by decide +kernel
theorem dL_isNight_36 : decode cL_isNight 36 = .ok (.iload 5, 2) := by decide +kernel
theorem dL_isNight_38 : decode cL_isNight 38 = .ok (.iload 7, 2) := by decide +kernel
theorem dL_isNight_40 : decode cL_isNight 40 = .ok (.invokevirtual 173, 3) := by decide +kernel
theorem dL_isNight_43 : decode cL_isNight 43 = .ok (.iload 6, 2) := by decide +kernel
theorem dL_isNight_45 : decode cL_isNight 45 = .ok (.if_icmp .ge 5, 3) := by decide +kernel
theorem dL_isNight_48 : decode cL_isNight 48 = .ok (.iconst 0, 1) := by decide +kernel
theorem dL_isNight_49 : decode cL_isNight 49 = .ok (.ireturn, 1) := by decide +kernel
theorem dL_isNight_50 : decode cL_isNight 50 = .ok (.aload_n 0, 1) := by decide +kernel
theorem dL_isNight_51 : decode cL_isNight 51 = .ok (.iload 5, 2) := by decide +kernel
theorem dL_isNight_53 : decode cL_isNight 53 = .ok (.iload 7, 2) := by decide +kernel
theorem dL_isNight_55 : decode cL_isNight 55 = .ok (.invokevirtual 173, 3) := by decide +kernel
theorem dL_isNight_58 : decode cL_isNight 58 = .ok (.istore 6, 2) := by decide +kernel
theorem dL_isNight_60 : decode cL_isNight 60 = .ok (.iinc 7 1, 3) := by decide +kernel
theorem dL_isNight_63 : decode cL_isNight 63 = .ok (.goto (-34), 3) := by decide +kernel
theorem dL_isNight_66 : decode cL_isNight 66 = .ok (.aload_n 0, 1) := by decide +kernel
theorem dL_isNight_67 : decode cL_isNight 67 = .ok (.iload 5, 2) := by decide +kernel
theorem dL_isNight_69 : decode cL_isNight 69 = .ok (.invokevirtual 177, 3) := by decide +kernel
theorem dL_isNight_72 : decode cL_isNight 72 = .ok (.ifCond .ne 7, 3) := by decide +kernel
theorem dL_isNight_75 : decode cL_isNight 75 = .ok (.iconst 1, 1) := by decide +kernel
theorem dL_isNight_76 : decode cL_isNight 76 = .ok (.goto 4, 3) := by decide +kernel
theorem dL_isNight_79 : decode cL_isNight 79 = .ok (.iconst 0, 1) := by decide +kernel
theorem dL_isNight_80 : decode cL_isNight 80 = .ok (.istore 7, 2) := by decide +kernel
theorem dL_isNight_82 : decode cL_isNight 82 = .ok (.aload_n 0, 1) := by decide +kernel
theorem dL_isNight_83 : decode cL_isNight 83 = .ok (.iload 5, 2) := by decide +kernel
theorem dL_isNight_85 : decode cL_isNight 85 = .ok (.iconst 5, 1) := by decide +kernel
theorem dL_isNight_86 : decode cL_isNight 86 = .ok (.invokevirtual 173, 3) := by decide +kernel
theorem dL_isNight_89 : decode cL_isNight 89 = .ok (.istore 8, 2) := by decide +kernel
theorem dL_isNight_91 : decode cL_isNight 91 = .ok (.iload 7, 2) := by decide +kernel
theorem dL_isNight_93 : decode cL_isNight 93 = .ok (.iload 8, 2) := by decide +kernel
theorem dL_isNight_95 : decode cL_isNight 95 = .ok (.ifCond .lt 7, 3) := by decide +kernel
theorem dL_isNight_98 : decode cL_isNight 98 = .ok (.iconst 1, 1) := by decide +kernel
theorem dL_isNight_99 : decode cL_isNight 99 = .ok (.goto 4, 3) := by decide +kernel
theorem dL_isNight_102 : decode cL_isNight 102 = .ok (.iconst 0, 1) := by decide +kernel
theorem dL_isNight_103 : decode cL_isNight 103 = .ok (.if_icmp .ne 31, 3) := by decide +kernel
theorem dL_isNight_106 : decode cL_isNight 106 = .ok (.iload 7, 2) := by decide +kernel
theorem dL_isNight_108 : decode cL_isNight 108 = .ok (.aload_n 0, 1) := by decide +kernel
theorem dL_isNight_109 : decode cL_isNight 109 = .ok (.iload 5, 2) := by decide +kernel
theorem dL_isNight_111 : decode cL_isNight 111 = .ok (.iconst 4, 1) := by decide +kernel
theorem dL_isNight_112 : decode cL_isNight 112 = .ok (.invokevirtual 173, 3) := by decide +kernel
theorem dL_isNight_115 : decode cL_isNight 115 = .ok (.iload 6, 2) := by decide +kernel
theorem dL_isNight_117 : decode cL_isNight 117 = .ok (.if_icmp .lt 7, 3) := by decide +kernel
theorem dL_isNight_120 : decode cL_isNight 120 = .ok (.iconst 1, 1) := by decide +kernel
theorem dL_isNight_121 : decode cL_isNight 121 = .ok (.goto 4, 3) := by decide +kernel
theorem dL_isNight_124 : decode cL_isNight 124 = .ok (.iconst 0, 1) := by decide +kernel
theorem dL_isNight_125 : decode cL_isNight 125 = .ok (.if_icmp .ne 9, 3) := by decide +kernel
theorem dL_isNight_128 : decode cL_isNight 128 = .ok (.iload 8, 2) := by decide +kernel
theorem dL_isNight_130 : decode cL_isNight 130 = .ok (.iload_n 2, 1) := by decide +kernel
theorem dL_isNight_131 : decode cL_isNight 131 = .ok (.if_icmp .le 5, 3) := by decide +kernel
theorem dL_isNight_134 : decode cL_isNight 134 = .ok (.iconst 0, 1) := by decide +kernel
theorem dL_isNight_135 : decode cL_isNight 135 = .ok (.ireturn, 1) := by decide +kernel
theorem dL_isNight_136 : decode cL_isNight 136 = .ok (.iload_n 3, 1) := by decide +kernel
theorem dL_isNight_137 : decode cL_isNight 137 = .ok (.iload 7, 2) := by decide +kernel
theorem dL_isNight_139 : decode cL_isNight 139 = .ok (.ifCond .eq 7, 3) := by decide +kernel
theorem dL_isNight_142 : decode cL_isNight 142 = .ok (.iconst 0, 1) := by decide +kernel
theorem dL_isNight_143 : decode cL_isNight 143 = .ok (.goto 4, 3) := by decide +kernel
theorem dL_isNight_146 : decode cL_isNight 146 = .ok (.iconst 1, 1) := by decide +kernel
theorem dL_isNight_147 : decode cL_isNight 147 = .ok (.iadd, 1) := by decide +kernel
theorem dL_isNight_148 : decode cL_isNight 148 = .ok (.istore_n 3, 1) := by decide +kernel
theorem dL_isNight_149 : decode cL_isNight 149 = .ok (.iload 4, 2) := by decide +kernel
theorem dL_isNight_151 : decode cL_isNight 151 = .ok (.iload 7, 2) := by decide +kernel
theorem dL_isNight_153 : decode cL_isNight 153 = .ok (.ifCond .eq 16, 3) := by decide +kernel
theorem dL_isNight_156 : decode cL_isNight 156 = .ok (.iload 8, 2) := by decide +kernel
theorem dL_isNight_158 : decode cL_isNight 158 = .ok (.aload_n 0, 1) := by decide +kernel
theorem dL_isNight_159 : decode cL_isNight 159 = .ok (.iload 5, 2) := by decide +kernel
theorem dL_isNight_161 : decode cL_isNight 161 = .ok (.iconst 4, 1) := by decide +kernel
theorem dL_isNight_162 : decode cL_isNight 162 = .ok (.invokevirtual 173, 3) := by decide +kernel
theorem dL_isNight_165 : decode cL_isNight 165 = .ok (.isub, 1) := by decide +kernel
theorem dL_isNight_166 : decode cL_isNight 166 = .ok (.goto 4, 3) := by decide +kernel
theorem dL_isNight_169 : decode cL_isNight 169 = .ok (.iconst 0, 1) := by decide +kernel
theorem dL_isNight_170 : decode cL_isNight 170 = .ok (.iadd, 1) := by decide +kernel
theorem dL_isNight_171 : decode cL_isNight 171 = .ok (.istore 4, 2) := by decide +kernel
theorem dL_isNight_173 : decode cL_isNight 173 = .ok (.iload 5, 2) := by decide +kernel
theorem dL_isNight_175 : decode cL_isNight 175 = .ok (.ifCond .le 24, 3) := by decide +kernel
theorem dL_isNight_178 : decode cL_isNight 178 = .ok (.aload_n 0, 1) := by decide +kernel
theorem dL_isNight_179 : decode cL_isNight 179 = .ok (.iload 5, 2) := by decide +kernel
theorem dL_isNight_181 : decode cL_isNight 181 = .ok (.iconst 0, 1) := by decide +kernel
theorem dL_isNight_182 : decode cL_isNight 182 = .ok (.invokevirtual 173, 3) := by decide +kernel
theorem dL_isNight_185 : decode cL_isNight 185 = .ok (.aload_n 0, 1) := by decide +kernel
theorem dL_isNight_186 : decode cL_isNight 186 = .ok (.iload 5, 2) := by decide +kernel
theorem dL_isNight_188 : decode cL_isNight 188 = .ok (.iconst 1, 1) := by decide +kernel
theorem dL_isNight_189 : decode cL_isNight 189 = .ok (.isub, 1) := by decide +kernel
theorem dL_isNight_190 : decode cL_isNight 190 = .ok (.iconst 0, 1) := by decide +kernel
theorem dL_isNight_191 : decode cL_isNight 191 = .ok (.invokevirtual 173, 3) := by decide +kernel
theorem dL_isNight_194 : decode cL_isNight 194 = .ok (.if_icmp .ge 5, 3) := by decide +kernel
theorem dL_isNight_197 : decode cL_isNight 197 = .ok (.iconst 0, 1) := by decide +kernel
theorem dL_isNight_198 : decode cL_isNight 198 = .ok (.ireturn, 1) := by decide +kernel
theorem dL_isNight_199 : decode cL_isNight 199 = .ok (.iinc 5 1, 3) := by decide +kernel
theorem dL_isNight_202 : decode cL_isNight 202 = .ok (.goto (-188), 3) := by decide +kernel
theorem dL_isNight_205 : decode cL_isNight 205 = .ok (.iload_n 3, 1) := by decide +kernel
theorem dL_isNight_206 : decode cL_isNight 206 = .ok (.aload_n 0, 1) := by decide +kernel
theorem dL_isNight_207 : decode cL_isNight 207 = .ok (.invokevirtual 40, 3) := by decide +kernel
theorem dL_isNight_210 : decode cL_isNight 210 = .ok (.if_icmp .ne 39, 3) := by decide +kernel
theorem dL_isNight_213 : decode cL_isNight 213 = .ok (.iload 4, 2) := by decide +kernel
theorem dL_isNight_215 : decode cL_isNight 215 = .ok (.aload_n 0, 1) := by decide +kernel
theorem dL_isNight_216 : decode cL_isNight 216 = .ok (.iconst 0, 1) := by decide +kernel
theorem dL_isNight_217 : decode cL_isNight 217 = .ok (.invokevirtual 180, 3) := by decide +kernel
theorem dL_isNight_220 : decode cL_isNight 220 = .ok (.if_icmp .ne 29, 3) := by decide +kernel
theorem dL_isNight_223 : decode cL_isNight 223 = .ok (.aload_n 0, 1) := by decide +kernel
theorem dL_isNight_224 : decode cL_isNight 224 = .ok (.iconst 0, 1) := by decide +kernel
theorem dL_isNight_225 : decode cL_isNight 225 = .ok (.invokevirtual 183, 3) := by decide +kernel
theorem dL_isNight_228 : decode cL_isNight 228 = .ok (.ifCond .lt 21, 3) := by decide +kernel
theorem dL_isNight_231 : decode cL_isNight 231 = .ok (.aload_n 0, 1) := by decide +kernel
theorem dL_isNight_232 : decode cL_isNight 232 = .ok (.iconst 3, 1) := by decide +kernel
theorem dL_isNight_233 : decode cL_isNight 233 = .ok (.invokevirtual 183, 3) := by decide +kernel
theorem dL_isNight_236 : decode cL_isNight 236 = .ok (.iconst (-1), 1) := by decide +kernel
theorem dL_isNight_237 : decode cL_isNight 237 = .ok (.if_icmp .ne 12, 3) := by decide +kernel
theorem dL_isNight_240 : decode cL_isNight 240 = .ok (.aload_n 0, 1) := by decide +kernel
theorem dL_isNight_241 : decode cL_isNight 241 = .ok (.iconst 1, 1) := by decide +kernel
theorem dL_isNight_242 : decode cL_isNight 242 = .ok (.invokevirtual 186, 3) := by decide +kernel
theorem dL_isNight_245 : decode cL_isNight 245 = .ok (.iconst (-1), 1) := by decide +kernel
theorem dL_isNight_246 : decode cL_isNight 246 = .ok (.if_icmp .eq 5, 3) := by decide +kernel
theorem dL_isNight_249 : decode cL_isNight 249 = .ok (.iconst 0, 1) := by decide +kernel
theorem dL_isNight_250 : decode cL_isNight 250 = .ok (.ireturn, 1) := by decide +kernel
theorem dL_isNight_251 : decode cL_isNight 251 = .ok (.iconst 0, 1) := by decide +kernel
theorem dL_isNight_252 : decode cL_isNight 252 = .ok (.istore 5, 2) := by decide +kernel
theorem dL_isNight_254 : decode cL_isNight 254 = .ok (.iload 5, 2) := by decide +kernel
theorem dL_isNight_256 : decode cL_isNight 256 = .ok (.iconst 4, 1) := by decide +kernel
theorem dL_isNight_257 : decode cL_isNight 257 = .ok (.if_icmp .ge 43, 3) := by decide +kernel
theorem dL_isNight_260 : decode cL_isNight 260 = .ok (.aload_n 0, 1) := by decide +kernel
theorem dL_isNight_261 : decode cL_isNight 261 = .ok (.iload 5, 2) := by decide +kernel
theorem dL_isNight_263 : decode cL_isNight 263 = .ok (.invokevirtual 189, 3) := by decide +kernel
theorem dL_isNight_266 : decode cL_isNight 266 = .ok (.iload_n 2, 1) := by decide +kernel
theorem dL_isNight_267 : decode cL_isNight 267 = .ok (.bipush 30, 2) := by decide +kernel
theorem dL_isNight_269 : decode cL_isNight 269 = .ok (.iadd, 1) := by decide +kernel
theorem dL_isNight_270 : decode cL_isNight 270 = .ok (.if_icmp .gt 22, 3) := by decide +kernel
theorem dL_isNight_273 : decode cL_isNight 273 = .ok (.aload_n 0, 1) := by decide +kernel
theorem dL_isNight_274 : decode cL_isNight 274 = .ok (.iload 5, 2) := by decide +kernel
theorem dL_isNight_276 : decode cL_isNight 276 = .ok (.invokevirtual 189, 3) := by decide +kernel
theorem dL_isNight_279 : decode cL_isNight 279 = .ok (.ifCond .lt 15, 3) := by decide +kernel
theorem dL_isNight_282 : decode cL_isNight 282 = .ok (.aload_n 0, 1) := by decide +kernel
theorem dL_isNight_283 : decode cL_isNight 283 = .ok (.iload 5, 2) := by decide +kernel
theorem dL_isNight_285 : decode cL_isNight 285 = .ok (.invokevirtual 189, 3) := by decide +kernel
theorem dL_isNight_288 : decode cL_isNight 288 = .ok (.iload_n 1, 1) := by decide +kernel
theorem dL_isNight_289 : decode cL_isNight 289 = .ok (.if_icmp .ge 5, 3) := by decide +kernel
theorem dL_isNight_292 : decode cL_isNight 292 = .ok (.iconst 0, 1) := by decide +kernel
theorem dL_isNight_293 : decode cL_isNight 293 = .ok (.ireturn, 1) := by decide +kernel
theorem dL_isNight_294 : decode cL_isNight 294 = .ok (.iinc 5 1, 3) := by decide +kernel
theorem dL_isNight_297 : decode cL_isNight 297 = .ok (.goto (-43), 3) := by decide +kernel
theorem dL_isNight_300 : decode cL_isNight 300 = .ok (.aload_n 0, 1) := by decide +kernel
theorem dL_isNight_301 : decode cL_isNight 301 = .ok (.iconst 0, 1) := by decide +kernel
theorem dL_isNight_302 : decode cL_isNight 302 = .ok (.invokevirtual 192, 3) := by decide +kernel
theorem dL_isNight_305 : decode cL_isNight 305 = .ok (.ifCond .lt 33, 3) := by decide +kernel
theorem dL_isNight_308 : decode cL_isNight 308 = .ok (.aload_n 0, 1) := by decide +kernel
theorem dL_isNight_309 : decode cL_isNight 309 = .ok (.iconst 0, 1) := by decide +kernel
theorem dL_isNight_310 : decode cL_isNight 310 = .ok (.invokevirtual 195, 3) := by decide +kernel
theorem dL_isNight_313 : decode cL_isNight 313 = .ok (.ifCond .ne 25, 3) := by decide +kernel
theorem dL_isNight_316 : decode cL_isNight 316 = .ok (.iload_n 3, 1) := by decide +kernel
theorem dL_isNight_317 : decode cL_isNight 317 = .ok (.ifCond .gt 17, 3) := by decide +kernel
theorem dL_isNight_320 : decode cL_isNight 320 = .ok (.aload_n 0, 1) := by decide +kernel
theorem dL_isNight_321 : decode cL_isNight 321 = .ok (.iconst 0, 1) := by decide +kernel
theorem dL_isNight_322 : decode cL_isNight 322 = .ok (.invokevirtual 198, 3) := by decide +kernel
theorem dL_isNight_325 : decode cL_isNight 325 = .ok (.aload_n 0, 1) := by decide +kernel
theorem dL_isNight_326 : decode cL_isNight 326 = .ok (.iconst 0, 1) := by decide +kernel
theorem dL_isNight_327 : decode cL_isNight 327 = .ok (.invokevirtual 201, 3) := by decide +kernel
theorem dL_isNight_330 : decode cL_isNight 330 = .ok (.iadd, 1) := by decide +kernel
theorem dL_isNight_331 : decode cL_isNight 331 = .ok (.ifCond .lt 7, 3) := by decide +kernel
theorem dL_isNight_334 : decode cL_isNight 334 = .ok (.iconst 1, 1) := by decide +kernel
theorem dL_isNight_335 : decode cL_isNight 335 = .ok (.goto 4, 3) := by decide +kernel
theorem dL_isNight_338 : decode cL_isNight 338 = .ok (.iconst 0, 1) := by decide +kernel
theorem dL_isNight_339 : decode cL_isNight 339 = .ok (.ireturn, 1) := by decide +kernel
theorem dL_isMoved_0 : decode cL_isMoved 0 = .ok (.aload_n 0, 1) := by decide +kernel
theorem dL_isMoved_1 : decode cL_isMoved 1 = .ok (.iload_n 1, 1) := by decide +kernel
theorem dL_isMoved_2 : decode cL_isMoved 2 = .ok (.invokevirtual 49, 3) := by decide +kernel
theorem dL_isMoved_5 : decode cL_isMoved 5 = .ok (.istore_n 2, 1) := by decide +kernel
theorem dL_isMoved_6 : decode cL_isMoved 6 = .ok (.aload_n 0, 1) := by decide +kernel
theorem dL_isMoved_7 : decode cL_isMoved 7 = .ok (.invokevirtual 40, 3) := by decide +kernel
theorem dL_isMoved_10 : decode cL_isMoved 10 = .ok (.istore_n 3, 1) := by decide +kernel
theorem dL_isMoved_11 : decode cL_isMoved 11 = .ok (.aload_n 0, 1) := by decide +kernel
theorem dL_isMoved_12 : decode cL_isMoved 12 = .ok (.iconst 0, 1) := by decide +kernel
theorem dL_isMoved_13 : decode cL_isMoved 13 = .ok (.invokevirtual 189, 3) := by decide +kernel
theorem dL_isMoved_16 : decode cL_isMoved 16 = .ok (.istore 4, 2) := by decide +kernel
theorem dL_isMoved_18 : decode cL_isMoved 18 = .ok (.aload_n 0, 1) := by decide +kernel
theorem dL_isMoved_19 : decode cL_isMoved 19 = .ok (.invokevirtual 43, 3) := by decide +kernel
theorem dL_isMoved_22 : decode cL_isMoved 22 = .ok (.ifCond .le 17, 3) := by decide +kernel
theorem dL_isMoved_25 : decode cL_isMoved 25 = .ok (.aload_n 0, 1) := by decide +kernel
theorem dL_isMoved_26 : decode cL_isMoved 26 = .ok (.aload_n 0, 1) := by decide +kernel
theorem dL_isMoved_27 : decode cL_isMoved 27 = .ok (.invokevirtual 43, 3) := by decide +kernel
theorem dL_isMoved_30 : decode cL_isMoved 30 = .ok (.iconst 1, 1) := by decide +kernel
theorem dL_isMoved_31 : decode cL_isMoved 31 = .ok (.isub, 1) := by decide +kernel
theorem dL_isMoved_32 : decode cL_isMoved 32 = .ok (.iconst 2, 1) := by decide +kernel
theorem dL_isMoved_33 : decode cL_isMoved 33 = .ok (.invokevirtual 173, 3) := by decide +kernel
theorem dL_isMoved_36 : decode cL_isMoved 36 = .ok (.goto 4, 3) := by decide +kernel
theorem dL_isMoved_39 : decode cL_isMoved 39 = .ok (.iconst 0, 1) := by decide +kernel
theorem dL_isMoved_40 : decode cL_isMoved 40 = .ok (.istore 5, 2) := by decide +kernel
theorem dL_isMoved_42 : decode cL_isMoved 42 = .ok (.aload_n 0, 1) := by decide +kernel
theorem dL_isMoved_43 : decode cL_isMoved 43 = .ok (.iload_n 1, 1) := by decide +kernel
theorem dL_isMoved_44 : decode cL_isMoved 44 = .ok (.bipush 100, 2) := by decide +kernel
theorem dL_isMoved_46 : decode cL_isMoved 46 = .ok (.iadd, 1) := by decide +kernel
theorem dL_isMoved_47 : decode cL_isMoved 47 = .ok (.invokevirtual 49, 3) := by decide +kernel
theorem dL_isMoved_50 : decode cL_isMoved 50 = .ok (.iload_n 2, 1) := by decide +kernel
theorem dL_isMoved_51 : decode cL_isMoved 51 = .ok (.isub, 1) := by decide +kernel
theorem dL_isMoved_52 : decode cL_isMoved 52 = .ok (.istore 6, 2) := by decide +kernel
theorem dL_isMoved_54 : decode cL_isMoved 54 = .ok (.iload 6, 2) := by decide +kernel
theorem dL_isMoved_56 : decode cL_isMoved 56 = .ok (.bipush 100, 2) := by decide +kernel
theorem dL_isMoved_58 : decode cL_isMoved 58 = .ok (.if_icmp .ne 33, 3) := by decide +kernel
theorem dL_isMoved_61 : decode cL_isMoved 61 = .ok (.aload_n 0, 1) := by decide +kernel
theorem dL_isMoved_62 : decode cL_isMoved 62 = .ok (.invokevirtual 40, 3) := by decide +kernel
theorem dL_isMoved_65 : decode cL_isMoved 65 = .ok (.iload_n 3, 1) := by decide +kernel
theorem dL_isMoved_66 : decode cL_isMoved 66 = .ok (.if_icmp .ne 25, 3) := by decide +kernel
theorem dL_isMoved_69 : decode cL_isMoved 69 = .ok (.aload_n 0, 1) := by decide +kernel
theorem dL_isMoved_70 : decode cL_isMoved 70 = .ok (.iconst 0, 1) := by decide +kernel
theorem dL_isMoved_71 : decode cL_isMoved 71 = .ok (.invokevirtual 189, 3) := by decide +kernel
theorem dL_isMoved_74 : decode cL_isMoved 74 = .ok (.iload 4, 2) := by decide +kernel
theorem dL_isMoved_76 : decode cL_isMoved 76 = .ok (.ifCond .ge 7, 3) := by decide +kernel
theorem dL_isMoved_79 : decode cL_isMoved 79 = .ok (.iconst (-1), 1) := by decide +kernel
theorem dL_isMoved_80 : decode cL_isMoved 80 = .ok (.goto 8, 3) := by decide +kernel
theorem dL_isMoved_83 : decode cL_isMoved 83 = .ok (.iload 4, 2) := by decide +kernel
theorem dL_isMoved_85 : decode cL_isMoved 85 = .ok (.bipush 100, 2) := by decide +kernel
theorem dL_isMoved_87 : decode cL_isMoved 87 = .ok (.iadd, 1) := by decide +kernel
theorem dL_isMoved_88 : decode cL_isMoved 88 = .ok (.if_icmp .eq 5, 3) := by decide +kernel
theorem dL_isMoved_91 : decode cL_isMoved 91 = .ok (.iconst 0, 1) := by decide +kernel
theorem dL_isMoved_92 : decode cL_isMoved 92 = .ok (.ireturn, 1) := by decide +kernel
theorem dL_isMoved_93 : decode cL_isMoved 93 = .ok (.aload_n 0, 1) := by decide +kernel
theorem dL_isMoved_94 : decode cL_isMoved 94 = .ok (.invokevirtual 43, 3) := by decide +kernel
theorem dL_isMoved_97 : decode cL_isMoved 97 = .ok (.ifCond .eq 22, 3) := by decide +kernel
theorem dL_isMoved_100 : decode cL_isMoved 100 = .ok (.aload_n 0, 1) := by decide +kernel
theorem dL_isMoved_101 : decode cL_isMoved 101 = .ok (.aload_n 0, 1) := by decide +kernel
theorem dL_isMoved_102 : decode cL_isMoved 102 = .ok (.invokevirtual 43, 3) := by decide +kernel
theorem dL_isMoved_105 : decode cL_isMoved 105 = .ok (.iconst 1, 1) := by decide +kernel
theorem dL_isMoved_106 : decode cL_isMoved 106 = .ok (.isub, 1) := by decide +kernel
theorem dL_isMoved_107 : decode cL_isMoved 107 = .ok (.iconst 2, 1) := by decide +kernel
theorem dL_isMoved_108 : decode cL_isMoved 108 = .ok (.invokevirtual 173, 3) := by decide +kernel
theorem dL_isMoved_111 : decode cL_isMoved 111 = .ok (.iload 5, 2) := by decide +kernel
theorem dL_isMoved_113 : decode cL_isMoved 113 = .ok (.bipush 100, 2) := by decide +kernel
theorem dL_isMoved_115 : decode cL_isMoved 115 = .ok (.iadd, 1) := by decide +kernel
theorem dL_isMoved_116 : decode cL_isMoved 116 = .ok (.if_icmp .ne 7, 3) := by decide +kernel
theorem dL_isMoved_119 : decode cL_isMoved 119 = .ok (.iconst 1, 1) := by decide +kernel
theorem dL_isMoved_120 : decode cL_isMoved 120 = .ok (.goto 4, 3) := by decide +kernel
theorem dL_isMoved_123 : decode cL_isMoved 123 = .ok (.iconst 0, 1) := by decide +kernel
theorem dL_isMoved_124 : decode cL_isMoved 124 = .ok (.ireturn, 1) := by decide +kernel
theorem dL_isLatest_0 : decode cL_isLatest 0 = .ok (.aload_n 0, 1) := by decide +kernel
theorem dL_isLatest_1 : decode cL_isLatest 1 = .ok (.invokevirtual 56, 3) := by decide +kernel
theorem dL_isLatest_4 : decode cL_isLatest 4 = .ok (.istore_n 1, 1) := by decide +kernel
theorem dL_isLatest_5 : decode cL_isLatest 5 = .ok (.aload_n 0, 1) := by decide +kernel
theorem dL_isLatest_6 : decode cL_isLatest 6 = .ok (.iconst 0, 1) := by decide +kernel
theorem dL_isLatest_7 : decode cL_isLatest 7 = .ok (.invokevirtual 49, 3) := by decide +kernel
theorem dL_isLatest_10 : decode cL_isLatest 10 = .ok (.istore_n 2, 1) := by decide +kernel
theorem dL_isLatest_11 : decode cL_isLatest 11 = .ok (.aload_n 0, 1) := by decide +kernel
theorem dL_isLatest_12 : decode cL_isLatest 12 = .ok (.invokevirtual 53, 3) := by decide +kernel
theorem dL_isLatest_15 : decode cL_isLatest 15 = .ok (.istore_n 3, 1) := by decide +kernel
theorem dL_isLatest_16 : decode cL_isLatest 16 = .ok (.iload_n 1, 1) := by decide +kernel
theorem dL_isLatest_17 : decode cL_isLatest 17 = .ok (.ifCond .ge 21, 3) := by decide +kernel
theorem dL_isLatest_20 : decode cL_isLatest 20 = .ok (.iload_n 3, 1) := by decide +kernel
theorem dL_isLatest_21 : decode cL_isLatest 21 = .ok (.ifCond .eq 15, 3) := by decide +kernel
theorem dL_isLatest_24 : decode cL_isLatest 24 = .ok (.aload_n 0, 1) := by decide +kernel
theorem dL_isLatest_25 : decode cL_isLatest 25 = .ok (.invokevirtual 204, 3) := by decide +kernel
theorem dL_isLatest_28 : decode cL_isLatest 28 = .ok (.iconst (-1), 1) := by decide +kernel
theorem dL_isLatest_29 : decode cL_isLatest 29 = .ok (.if_icmp .ne 7, 3) := by decide +kernel
theorem dL_isLatest_32 : decode cL_isLatest 32 = .ok (.iconst 1, 1) := by decide +kernel
theorem dL_isLatest_33 : decode cL_isLatest 33 = .ok (.goto 4, 3) := by decide +kernel
theorem dL_isLatest_36 : decode cL_isLatest 36 = .ok (.iconst 0, 1) := by decide +kernel
theorem dL_isLatest_37 : decode cL_isLatest 37 = .ok (.ireturn, 1) := by decide +kernel
theorem dL_isLatest_38 : decode cL_isLatest 38 = .ok (.iload_n 3, 1) := by decide +kernel
theorem dL_isLatest_39 : decode cL_isLatest 39 = .ok (.ifCond .ne 18, 3) := by decide +kernel
theorem dL_isLatest_42 : decode cL_isLatest 42 = .ok (.aload_n 0, 1) := by decide +kernel
theorem dL_isLatest_43 : decode cL_isLatest 43 = .ok (.iload_n 1, 1) := by decide +kernel
theorem dL_isLatest_44 : decode cL_isLatest 44 = .ok (.invokevirtual 49, 3) := by decide +kernel
theorem dL_isLatest_47 : decode cL_isLatest 47 = .ok (.ifCond .lt 10, 3) := by decide +kernel
theorem dL_isLatest_50 : decode cL_isLatest 50 = .ok (.aload_n 0, 1) := by decide +kernel
theorem dL_isLatest_51 : decode cL_isLatest 51 = .ok (.invokevirtual 53, 3) := by decide +kernel
theorem dL_isLatest_54 : decode cL_isLatest 54 = .ok (.ifCond .eq 5, 3) := by decide +kernel
theorem dL_isLatest_57 : decode cL_isLatest 57 = .ok (.iconst 0, 1) := by decide +kernel
theorem dL_isLatest_58 : decode cL_isLatest 58 = .ok (.ireturn, 1) := by decide +kernel
theorem dL_isLatest_59 : decode cL_isLatest 59 = .ok (.iload_n 1, 1) := by decide +kernel
theorem dL_isLatest_60 : decode cL_isLatest 60 = .ok (.sipush 1439, 3) := by decide +kernel
theorem dL_isLatest_63 : decode cL_isLatest 63 = .ok (.if_icmp .ge 22, 3) := by decide +kernel
theorem dL_isLatest_66 : decode cL_isLatest 66 = .ok (.aload_n 0, 1) := by decide +kernel
theorem dL_isLatest_67 : decode cL_isLatest 67 = .ok (.iload_n 1, 1) := by decide +kernel
theorem dL_isLatest_68 : decode cL_isLatest 68 = .ok (.iconst 1, 1) := by decide +kernel
theorem dL_isLatest_69 : decode cL_isLatest 69 = .ok (.iadd, 1) := by decide +kernel
theorem dL_isLatest_70 : decode cL_isLatest 70 = .ok (.invokevirtual 49, 3) := by decide +kernel
theorem dL_isLatest_73 : decode cL_isLatest 73 = .ok (.ifCond .lt 10, 3) := by decide +kernel
theorem dL_isLatest_76 : decode cL_isLatest 76 = .ok (.aload_n 0, 1) := by decide +kernel
theorem dL_isLatest_77 : decode cL_isLatest 77 = .ok (.invokevirtual 53, 3) := by decide +kernel
theorem dL_isLatest_80 : decode cL_isLatest 80 = .ok (.ifCond .gt 5, 3) := by decide +kernel
theorem dL_isLatest_83 : decode cL_isLatest 83 = .ok (.iconst 0, 1) := by decide +kernel
theorem dL_isLatest_84 : decode cL_isLatest 84 = .ok (.ireturn, 1) := by decide +kernel
theorem dL_isLatest_85 : decode cL_isLatest 85 = .ok (.aload_n 0, 1) := by decide +kernel
theorem dL_isLatest_86 : decode cL_isLatest 86 = .ok (.invokevirtual 204, 3) := by decide +kernel
theorem dL_isLatest_89 : decode cL_isLatest 89 = .ok (.istore 4, 2) := by decide +kernel
theorem dL_isLatest_91 : decode cL_isLatest 91 = .ok (.iload 4, 2) := by decide +kernel
theorem dL_isLatest_93 : decode cL_isLatest 93 = .ok (.ifCond .lt 30, 3) := by decide +kernel
theorem dL_isLatest_96 : decode cL_isLatest 96 = .ok (.aload_n 0, 1) := by decide +kernel
theorem dL_isLatest_97 : decode cL_isLatest 97 = .ok (.iload 4, 2) := by decide +kernel
theorem dL_isLatest_99 : decode cL_isLatest 99 = .ok (.iconst 1, 1) := by decide +kernel
theorem dL_isLatest_100 : decode cL_isLatest 100 = .ok (.invokevirtual 207, 3) := by decide +kernel
theorem dL_isLatest_103 : decode cL_isLatest 103 = .ok (.ifCond .eq 18, 3) := by decide +kernel
theorem dL_isLatest_106 : decode cL_isLatest 106 = .ok (.aload_n 0, 1) := by decide +kernel
theorem dL_isLatest_107 : decode cL_isLatest 107 = .ok (.invokevirtual 56, 3) := by decide +kernel
theorem dL_isLatest_110 : decode cL_isLatest 110 = .ok (.iload_n 1, 1) := by decide +kernel
theorem dL_isLatest_111 : decode cL_isLatest 111 = .ok (.if_icmp .ge 10, 3) := by decide +kernel
theorem dL_isLatest_114 : decode cL_isLatest 114 = .ok (.aload_n 0, 1) := by decide +kernel
theorem dL_isLatest_115 : decode cL_isLatest 115 = .ok (.invokevirtual 46, 3) := by decide +kernel
theorem dL_isLatest_118 : decode cL_isLatest 118 = .ok (.ifCond .eq 5, 3) := by decide +kernel
theorem dL_isLatest_121 : decode cL_isLatest 121 = .ok (.iconst 0, 1) := by decide +kernel
theorem dL_isLatest_122 : decode cL_isLatest 122 = .ok (.ireturn, 1) := by decide +kernel
theorem dL_isLatest_123 : decode cL_isLatest 123 = .ok (.aload_n 0, 1) := by decide +kernel
theorem dL_isLatest_124 : decode cL_isLatest 124 = .ok (.iconst 4, 1) := by decide +kernel
theorem dL_isLatest_125 : decode cL_isLatest 125 = .ok (.invokevirtual 211, 3) := by decide +kernel
theorem dL_isLatest_128 : decode cL_isLatest 128 = .ok (.iload_n 1, 1) := by decide +kernel
theorem dL_isLatest_129 : decode cL_isLatest 129 = .ok (.if_icmp .lt 16, 3) := by decide +kernel
theorem dL_isLatest_132 : decode cL_isLatest 132 = .ok (.aload_n 0, 1) := by decide +kernel
theorem dL_isLatest_133 : decode cL_isLatest 133 = .ok (.iconst 5, 1) := by decide +kernel
theorem dL_isLatest_134 : decode cL_isLatest 134 = .ok (.invokevirtual 211, 3) := by decide +kernel
theorem dL_isLatest_137 : decode cL_isLatest 137 = .ok (.iconst (-1), 1) := by decide +kernel
theorem dL_isLatest_138 : decode cL_isLatest 138 = .ok (.if_icmp .ne 7, 3) := by decide +kernel
theorem dL_isLatest_141 : decode cL_isLatest 141 = .ok (.iconst 1, 1) := by decide +kernel
theorem dL_isLatest_142 : decode cL_isLatest 142 = .ok (.goto 4, 3) := by decide +kernel
theorem dL_isLatest_145 : decode cL_isLatest 145 = .ok (.iconst 0, 1) := by decide +kernel
theorem dL_isLatest_146 : decode cL_isLatest 146 = .ok (.ireturn, 1) := by decide +kernel
theorem dL_isUndone_0 : decode cL_isUndone 0 = .ok (.aload_n 0, 1) := by decide +kernel
theorem dL_isUndone_1 : decode cL_isUndone 1 = .ok (.invokevirtual 56, 3) := by decide +kernel
theorem dL_isUndone_4 : decode cL_isUndone 4 = .ok (.istore_n 2, 1) := by decide +kernel
theorem dL_isUndone_5 : decode cL_isUndone 5 = .ok (.aload_n 0, 1) := by decide +kernel
theorem dL_isUndone_6 : decode cL_isUndone 6 = .ok (.invokevirtual 43, 3) := by decide +kernel
theorem dL_isUndone_9 : decode cL_isUndone 9 = .ok (.istore_n 3, 1) := by decide +kernel
theorem dL_isUndone_10 : decode cL_isUndone 10 = .ok (.iload_n 1, 1) := by decide +kernel
theorem dL_isUndone_11 : decode cL_isUndone 11 = .ok (.iconst 0, 1) := by decide +kernel
theorem dL_isUndone_12 : decode cL_isUndone 12 = .ok (.sipush 1439, 3) := by decide +kernel
theorem dL_isUndone_15 : decode cL_isUndone 15 = .ok (.invokestatic 80, 3) := by decide +kernel
theorem dL_isUndone_18 : decode cL_isUndone 18 = .ok (.istore 4, 2) := by decide +kernel
theorem dL_isUndone_20 : decode cL_isUndone 20 = .ok (.aload_n 0, 1) := by decide +kernel
theorem dL_isUndone_21 : decode cL_isUndone 21 = .ok (.iconst 0, 1) := by decide +kernel
theorem dL_isUndone_22 : decode cL_isUndone 22 = .ok (.iload 4, 2) := by decide +kernel
theorem dL_isUndone_24 : decode cL_isUndone 24 = .ok (.invokevirtual 214, 3) := by decide +kernel
theorem dL_isUndone_27 : decode cL_isUndone 27 = .ok (.istore 5, 2) := by decide +kernel
theorem dL_isUndone_29 : decode cL_isUndone 29 = .ok (.aload_n 0, 1) := by decide +kernel
theorem dL_isUndone_30 : decode cL_isUndone 30 = .ok (.iload_n 1, 1) := by decide +kernel
theorem dL_isUndone_31 : decode cL_isUndone 31 = .ok (.bipush 8, 2) := by decide +kernel
theorem dL_isUndone_33 : decode cL_isUndone 33 = .ok (.ishr, 1) := by decide +kernel
theorem dL_isUndone_34 : decode cL_isUndone 34 = .ok (.bipush 10, 2) := by decide +kernel
theorem dL_isUndone_36 : decode cL_isUndone 36 = .ok (.bipush 40, 2) := by decide +kernel
theorem dL_isUndone_38 : decode cL_isUndone 38 = .ok (.invokestatic 80, 3) := by decide +kernel
theorem dL_isUndone_41 : decode cL_isUndone 41 = .ok (.invokevirtual 217, 3) := by decide +kernel
theorem dL_isUndone_44 : decode cL_isUndone 44 = .ok (.istore 6, 2) := by decide +kernel
theorem dL_isUndone_46 : decode cL_isUndone 46 = .ok (.aload_n 0, 1) := by decide +kernel
theorem dL_isUndone_47 : decode cL_isUndone 47 = .ok (.iconst 1, 1) := by decide +kernel
theorem dL_isUndone_48 : decode cL_isUndone 48 = .ok (.iconst 0, 1) := by decide +kernel
theorem dL_isUndone_49 : decode cL_isUndone 49 = .ok (.iconst 5, 1) := by decide +kernel
theorem dL_isUndone_50 : decode cL_isUndone 50 = .ok (.iload 4, 2) := by decide +kernel
theorem dL_isUndone_52 : decode cL_isUndone 52 = .ok (.invokevirtual 220, 3) := by decide +kernel
theorem dL_isUndone_55 : decode cL_isUndone 55 = .ok (.istore 7, 2) := by decide +kernel
theorem dL_isUndone_57 : decode cL_isUndone 57 = .ok (.iload 5, 2) := by decide +kernel
theorem dL_isUndone_59 : decode cL_isUndone 59 = .ok (.sipush 200, 3) := by decide +kernel
theorem dL_isUndone_62 : decode cL_isUndone 62 = .ok (.if_icmp .lt 58, 3) := by decide +kernel
theorem dL_isUndone_65 : decode cL_isUndone 65 = .ok (.iload 6, 2) := by decide +kernel
theorem dL_isUndone_67 : decode cL_isUndone 67 = .ok (.bipush 24, 2) := by decide +kernel
theorem dL_isUndone_69 : decode cL_isUndone 69 = .ok (.if_icmp .ne 51, 3) := by decide +kernel
theorem dL_isUndone_72 : decode cL_isUndone 72 = .ok (.iload 7, 2) := by decide +kernel
theorem dL_isUndone_74 : decode cL_isUndone 74 = .ok (.iconst 4, 1) := by decide +kernel
theorem dL_isUndone_75 : decode cL_isUndone 75 = .ok (.if_icmp .ne 45, 3) := by decide +kernel
theorem dL_isUndone_78 : decode cL_isUndone 78 = .ok (.aload_n 0, 1) := by decide +kernel
theorem dL_isUndone_79 : decode cL_isUndone 79 = .ok (.invokevirtual 40, 3) := by decide +kernel
theorem dL_isUndone_82 : decode cL_isUndone 82 = .ok (.bipush (-2), 2) := by decide +kernel
theorem dL_isUndone_84 : decode cL_isUndone 84 = .ok (.if_icmp .ne 36, 3) := by decide +kernel
theorem dL_isUndone_87 : decode cL_isUndone 87 = .ok (.aload_n 0, 1) := by decide +kernel
theorem dL_isUndone_88 : decode cL_isUndone 88 = .ok (.iconst 1, 1) := by decide +kernel
theorem dL_isUndone_89 : decode cL_isUndone 89 = .ok (.invokevirtual 224, 3) := by decide +kernel
theorem dL_isUndone_92 : decode cL_isUndone 92 = .ok (.ifCond .eq 28, 3) := by decide +kernel
theorem dL_isUndone_95 : decode cL_isUndone 95 = .ok (.aload_n 0, 1) := by decide +kernel
theorem dL_isUndone_96 : decode cL_isUndone 96 = .ok (.iconst 1, 1) := by decide +kernel
theorem dL_isUndone_97 : decode cL_isUndone 97 = .ok (.invokevirtual 224, 3) := by decide +kernel
theorem dL_isUndone_100 : decode cL_isUndone 100 = .ok (.ifCond .ne 20, 3) := by decide +kernel
theorem dL_isUndone_103 : decode cL_isUndone 103 = .ok (.aload_n 0, 1) := by decide +kernel
theorem dL_isUndone_104 : decode cL_isUndone 104 = .ok (.invokevirtual 73, 3) := by decide +kernel
theorem dL_isUndone_107 : decode cL_isUndone 107 = .ok (.iconst 5, 1) := by decide +kernel
theorem dL_isUndone_108 : decode cL_isUndone 108 = .ok (.if_icmp .ne 12, 3) := by decide +kernel
theorem dL_isUndone_111 : decode cL_isUndone 111 = .ok (.aload_n 0, 1) := by decide +kernel
theorem dL_isUndone_112 : decode cL_isUndone 112 = .ok (.iconst 0, 1) := by decide +kernel
theorem dL_isUndone_113 : decode cL_isUndone 113 = .ok (.iconst 1, 1) := by decide +kernel
theorem dL_isUndone_114 : decode cL_isUndone 114 = .ok (.invokevirtual 227, 3) := by decide +kernel
theorem dL_isUndone_117 : decode cL_isUndone 117 = .ok (.ifCond .ne 5, 3) := by decide +kernel
theorem dL_isUndone_120 : decode cL_isUndone 120 = .ok (.iconst 0, 1) := by decide +kernel
theorem dL_isUndone_121 : decode cL_isUndone 121 = .ok (.ireturn, 1) := by decide +kernel
theorem dL_isUndone_122 : decode cL_isUndone 122 = .ok (.iconst 4, 1) := by decide +kernel
theorem dL_isUndone_123 : decode cL_isUndone 123 = .ok (.istore 8, 2) := by decide +kernel
theorem dL_isUndone_125 : decode cL_isUndone 125 = .ok (.iload 8, 2) := by decide +kernel
theorem dL_isUndone_127 : decode cL_isUndone 127 = .ok (.ifCond .lt 20, 3) := by decide +kernel
theorem dL_isUndone_130 : decode cL_isUndone 130 = .ok (.aload_n 0, 1) := by decide +kernel
theorem dL_isUndone_131 : decode cL_isUndone 131 = .ok (.invokevirtual 46, 3) := by decide +kernel
theorem dL_isUndone_134 : decode cL_isUndone 134 = .ok (.iload 8, 2) := by decide +kernel
theorem dL_isUndone_136 : decode cL_isUndone 136 = .ok (.if_icmp .eq 5, 3) := by decide +kernel
theorem dL_isUndone_139 : decode cL_isUndone 139 = .ok (.iconst 0, 1) := by decide +kernel
theorem dL_isUndone_140 : decode cL_isUndone 140 = .ok (.ireturn, 1) := by decide +kernel
theorem dL_isUndone_141 : decode cL_isUndone 141 = .ok (.iinc 8 (-1), 3) := by decide +kernel
theorem dL_isUndone_144 : decode cL_isUndone 144 = .ok (.goto (-19), 3) := by decide +kernel
theorem dL_isUndone_147 : decode cL_isUndone 147 = .ok (.aload_n 0, 1) := by decide +kernel
theorem dL_isUndone_148 : decode cL_isUndone 148 = .ok (.invokevirtual 46, 3) := by decide +kernel
theorem dL_isUndone_151 : decode cL_isUndone 151 = .ok (.iconst (-1), 1) := by decide +kernel
theorem dL_isUndone_152 : decode cL_isUndone 152 = .ok (.if_icmp .ne 50, 3) := by decide +kernel
theorem dL_isUndone_155 : decode cL_isUndone 155 = .ok (.aload_n 0, 1) := by decide +kernel
theorem dL_isUndone_156 : decode cL_isUndone 156 = .ok (.invokevirtual 73, 3) := by decide +kernel
theorem dL_isUndone_159 : decode cL_isUndone 159 = .ok (.iconst 4, 1) := by decide +kernel
theorem dL_isUndone_160 : decode cL_isUndone 160 = .ok (.if_icmp .ne 42, 3) := by decide +kernel
theorem dL_isUndone_163 : decode cL_isUndone 163 = .ok (.aload_n 0, 1) := by decide +kernel
theorem dL_isUndone_164 : decode cL_isUndone 164 = .ok (.invokevirtual 56, 3) := by decide +kernel
theorem dL_isUndone_167 : decode cL_isUndone 167 = .ok (.iload_n 2, 1) := by decide +kernel
theorem dL_isUndone_168 : decode cL_isUndone 168 = .ok (.if_icmp .ne 34, 3) := by decide +kernel
theorem dL_isUndone_171 : decode cL_isUndone 171 = .ok (.aload_n 0, 1) := by decide +kernel
theorem dL_isUndone_172 : decode cL_isUndone 172 = .ok (.invokevirtual 43, 3) := by decide +kernel
theorem dL_isUndone_175 : decode cL_isUndone 175 = .ok (.iload_n 3, 1) := by decide +kernel
theorem dL_isUndone_176 : decode cL_isUndone 176 = .ok (.if_icmp .ne 26, 3) := by decide +kernel
theorem dL_isUndone_179 : decode cL_isUndone 179 = .ok (.aload_n 0, 1) := by decide +kernel
theorem dL_isUndone_180 : decode cL_isUndone 180 = .ok (.iconst 0, 1) := by decide +kernel
theorem dL_isUndone_181 : decode cL_isUndone 181 = .ok (.iload 5, 2) := by decide +kernel
theorem dL_isUndone_183 : decode cL_isUndone 183 = .ok (.invokevirtual 214, 3) := by decide +kernel
theorem dL_isUndone_186 : decode cL_isUndone 186 = .ok (.iload 5, 2) := by decide +kernel
theorem dL_isUndone_188 : decode cL_isUndone 188 = .ok (.if_icmp .ne 14, 3) := by decide +kernel
theorem dL_isUndone_191 : decode cL_isUndone 191 = .ok (.aload_n 0, 1) := by decide +kernel
theorem dL_isUndone_192 : decode cL_isUndone 192 = .ok (.invokevirtual 46, 3) := by decide +kernel
theorem dL_isUndone_195 : decode cL_isUndone 195 = .ok (.ifCond .ne 7, 3) := by decide +kernel
theorem dL_isUndone_198 : decode cL_isUndone 198 = .ok (.iconst 1, 1) := by decide +kernel
theorem dL_isUndone_199 : decode cL_isUndone 199 = .ok (.goto 4, 3) := by decide +kernel
theorem dL_isUndone_202 : decode cL_isUndone 202 = .ok (.iconst 0, 1) := by decide +kernel
theorem dL_isUndone_203 : decode cL_isUndone 203 = .ok (.ireturn, 1) := by decide +kernel
