theorem dX0_init_0 : decode cX0_init 0 = .ok (.aload_n 0, 1) := by decide +kernel
theorem dX0_init_1 : decode cX0_init 1 = .ok (.invokespecial 3, 3) := by decide +kernel
theorem dX0_init_4 : decode cX0_init 4 = .ok (.aload_n 0, 1) := by decide +kernel
theorem dX0_init_5 : decode cX0_init 5 = .ok (.iconst 1, 1) := by decide +kernel
theorem dX0_init_6 : decode cX0_init 6 = .ok (.iload_n 1, 1) := by decide +kernel
theorem dX0_init_7 : decode cX0_init 7 = .ok (.invokestatic 9, 3) := by decide +kernel
theorem dX0_init_10 : decode cX0_init 10 = .ok (.putfield 15, 3) := by decide +kernel
theorem dX0_init_13 : decode cX0_init 13 = .ok (.aload_n 0, 1) := by decide +kernel
theorem dX0_init_14 : decode cX0_init 14 = .ok (.aload_n 0, 1) := by decide +kernel
theorem dX0_init_15 : decode cX0_init 15 = .ok (.getfield 15, 3) := by decide +kernel
theorem dX0_init_18 : decode cX0_init 18 = .ok (.bipush 42, 2) := by decide +kernel
theorem dX0_init_20 : decode cX0_init 20 = .ok (.imul, 1) := by decide +kernel
theorem dX0_init_21 : decode cX0_init 21 = .ok (.newarray .int, 2) := by decide +kernel
theorem dX0_init_23 : decode cX0_init 23 = .ok (.putfield 21, 3) := by decide +kernel
theorem dX0_init_26 : decode cX0_init 26 = .ok (.return_, 1) := by decide +kernel
theorem dX0_layBy_0 : decode cX0_layBy 0 = .ok (.aload_n 1, 1) := by decide +kernel
theorem dX0_layBy_1 : decode cX0_layBy 1 = .ok (.getfield 25, 3) := by decide +kernel
theorem dX0_layBy_4 : decode cX0_layBy 4 = .ok (.iconst 0, 1) := by decide +kernel
theorem dX0_layBy_5 : decode cX0_layBy 5 = .ok (.aload_n 0, 1) := by decide +kernel
theorem dX0_layBy_6 : decode cX0_layBy 6 = .ok (.getfield 21, 3) := by decide +kernel
theorem dX0_layBy_9 : decode cX0_layBy 9 = .ok (.aload_n 0, 1) := by decide +kernel
theorem dX0_layBy_10 : decode cX0_layBy 10 = .ok (.getfield 28, 3) := by decide +kernel
theorem dX0_layBy_13 : decode cX0_layBy 13 = .ok (.bipush 42, 2) := by decide +kernel
theorem dX0_layBy_15 : decode cX0_layBy 15 = .ok (.imul, 1) := by decide +kernel
theorem dX0_layBy_16 : decode cX0_layBy 16 = .ok (.bipush 42, 2) := by decide +kernel
theorem dX0_layBy_18 : decode cX0_layBy 18 = .ok (.invokestatic 31, 3) := by decide +kernel
theorem dX0_layBy_21 : decode cX0_layBy 21 = .ok (.aload_n 0, 1) := by decide +kernel
theorem dX0_layBy_22 : decode cX0_layBy 22 = .ok (.aload_n 0, 1) := by decide +kernel
theorem dX0_layBy_23 : decode cX0_layBy 23 = .ok (.getfield 28, 3) := by decide +kernel
theorem dX0_layBy_26 : decode cX0_layBy 26 = .ok (.iconst 1, 1) := by decide +kernel
theorem dX0_layBy_27 : decode cX0_layBy 27 = .ok (.iadd, 1) := by decide +kernel
theorem dX0_layBy_28 : decode cX0_layBy 28 = .ok (.aload_n 0, 1) := by decide +kernel
theorem dX0_layBy_29 : decode cX0_layBy 29 = .ok (.getfield 15, 3) := by decide +kernel
theorem dX0_layBy_32 : decode cX0_layBy 32 = .ok (.if_icmp .ge 12, 3) := by decide +kernel
theorem dX0_layBy_35 : decode cX0_layBy 35 = .ok (.aload_n 0, 1) := by decide +kernel
theorem dX0_layBy_36 : decode cX0_layBy 36 = .ok (.getfield 28, 3) := by decide +kernel
theorem dX0_layBy_39 : decode cX0_layBy 39 = .ok (.iconst 1, 1) := by decide +kernel
theorem dX0_layBy_40 : decode cX0_layBy 40 = .ok (.iadd, 1) := by decide +kernel
theorem dX0_layBy_41 : decode cX0_layBy 41 = .ok (.goto 4, 3) := by decide +kernel
theorem dX0_layBy_44 : decode cX0_layBy 44 = .ok (.iconst 0, 1) := by decide +kernel
theorem dX0_layBy_45 : decode cX0_layBy 45 = .ok (.putfield 28, 3) := by decide +kernel
theorem dX0_layBy_48 : decode cX0_layBy 48 = .ok (.aload_n 0, 1) := by decide +kernel
theorem dX0_layBy_49 : decode cX0_layBy 49 = .ok (.aload_n 0, 1) := by decide +kernel
theorem dX0_layBy_50 : decode cX0_layBy 50 = .ok (.getfield 37, 3) := by decide +kernel
theorem dX0_layBy_53 : decode cX0_layBy 53 = .ok (.iconst 1, 1) := by decide +kernel
theorem dX0_layBy_54 : decode cX0_layBy 54 = .ok (.iadd, 1) := by decide +kernel
theorem dX0_layBy_55 : decode cX0_layBy 55 = .ok (.aload_n 0, 1) := by decide +kernel
theorem dX0_layBy_56 : decode cX0_layBy 56 = .ok (.getfield 15, 3) := by decide +kernel
theorem dX0_layBy_59 : decode cX0_layBy 59 = .ok (.invokestatic 40, 3) := by decide +kernel
theorem dX0_layBy_62 : decode cX0_layBy 62 = .ok (.putfield 37, 3) := by decide +kernel
theorem dX0_layBy_65 : decode cX0_layBy 65 = .ok (.return_, 1) := by decide +kernel
theorem dX0_fetch_0 : decode cX0_fetch 0 = .ok (.aload_n 0, 1) := by decide +kernel
theorem dX0_fetch_1 : decode cX0_fetch 1 = .ok (.getfield 37, 3) := by decide +kernel
theorem dX0_fetch_4 : decode cX0_fetch 4 = .ok (.iconst 1, 1) := by decide +kernel
theorem dX0_fetch_5 : decode cX0_fetch 5 = .ok (.if_icmp .ge 5, 3) := by decide +kernel
theorem dX0_fetch_8 : decode cX0_fetch 8 = .ok (.iconst 0, 1) := by decide +kernel
theorem dX0_fetch_9 : decode cX0_fetch 9 = .ok (.ireturn, 1) := by decide +kernel
theorem dX0_fetch_10 : decode cX0_fetch 10 = .ok (.aload_n 0, 1) := by decide +kernel
theorem dX0_fetch_11 : decode cX0_fetch 11 = .ok (.aload_n 0, 1) := by decide +kernel
theorem dX0_fetch_12 : decode cX0_fetch 12 = .ok (.getfield 28, 3) := by decide +kernel
theorem dX0_fetch_15 : decode cX0_fetch 15 = .ok (.ifCond .le 12, 3) := by decide +kernel
theorem dX0_fetch_18 : decode cX0_fetch 18 = .ok (.aload_n 0, 1) := by decide +kernel
theorem dX0_fetch_19 : decode cX0_fetch 19 = .ok (.getfield 28, 3) := by decide +kernel
theorem dX0_fetch_22 : decode cX0_fetch 22 = .ok (.iconst 1, 1) := by decide +kernel
theorem dX0_fetch_23 : decode cX0_fetch 23 = .ok (.isub, 1) := by decide +kernel
theorem dX0_fetch_24 : decode cX0_fetch 24 = .ok (.goto 9, 3) := by decide +kernel
theorem dX0_fetch_27 : decode cX0_fetch 27 = .ok (.aload_n 0, 1) := by decide +kernel
theorem dX0_fetch_28 : decode cX0_fetch 28 = .ok (.getfield 15, 3) := by decide +kernel
theorem dX0_fetch_31 : decode cX0_fetch 31 = .ok (.iconst 1, 1) := by decide +kernel
theorem dX0_fetch_32 : decode cX0_fetch 32 = .ok (.isub, 1) := by decide +kernel
theorem dX0_fetch_33 : decode cX0_fetch 33 = .ok (.putfield 28, 3) := by decide +kernel
theorem dX0_fetch_36 : decode cX0_fetch 36 = .ok (.aload_n 0, 1) := by decide +kernel
theorem dX0_fetch_37 : decode cX0_fetch 37 = .ok (.dup, 1) := by decide +kernel
theorem dX0_fetch_38 : decode cX0_fetch 38 = .ok (.getfield 37, 3) := by decide +kernel
theorem dX0_fetch_41 : decode cX0_fetch 41 = .ok (.iconst 1, 1) := by decide +kernel
theorem dX0_fetch_42 : decode cX0_fetch 42 = .ok (.isub, 1) := by decide +kernel
theorem dX0_fetch_43 : decode cX0_fetch 43 = .ok (.putfield 37, 3) := by decide +kernel
theorem dX0_fetch_46 : decode cX0_fetch 46 = .ok (.aload_n 0, 1) := by decide +kernel
theorem dX0_fetch_47 : decode cX0_fetch 47 = .ok (.getfield 21, 3) := by decide +kernel
theorem dX0_fetch_50 : decode cX0_fetch 50 = .ok (.aload_n 0, 1) := by decide +kernel
theorem dX0_fetch_51 : decode cX0_fetch 51 = .ok (.getfield 28, 3) := by decide +kernel
theorem dX0_fetch_54 : decode cX0_fetch 54 = .ok (.bipush 42, 2) := by decide +kernel
theorem dX0_fetch_56 : decode cX0_fetch 56 = .ok (.imul, 1) := by decide +kernel
theorem dX0_fetch_57 : decode cX0_fetch 57 = .ok (.aload_n 1, 1) := by decide +kernel
theorem dX0_fetch_58 : decode cX0_fetch 58 = .ok (.getfield 25, 3) := by decide +kernel
theorem dX0_fetch_61 : decode cX0_fetch 61 = .ok (.iconst 0, 1) := by decide +kernel
theorem dX0_fetch_62 : decode cX0_fetch 62 = .ok (.bipush 42, 2) := by decide +kernel
theorem dX0_fetch_64 : decode cX0_fetch 64 = .ok (.invokestatic 31, 3) := by decide +kernel
theorem dX0_fetch_67 : decode cX0_fetch 67 = .ok (.iconst 1, 1) := by decide +kernel
theorem dX0_fetch_68 : decode cX0_fetch 68 = .ok (.ireturn, 1) := by decide +kernel
theorem dX1_init_0 : decode cX1_init 0 = .ok (.aload_n 0, 1) := by decide +kernel
theorem dX1_init_1 : decode cX1_init 1 = .ok (.invokespecial 3, 3) := by decide +kernel
theorem dX1_init_4 : decode cX1_init 4 = .ok (.aload_n 0, 1) := by decide +kernel
theorem dX1_init_5 : decode cX1_init 5 = .ok (.bipush 6, 2) := by decide +kernel
theorem dX1_init_7 : decode cX1_init 7 = .ok (.newarray .int, 2) := by decide +kernel
theorem dX1_init_9 : decode cX1_init 9 = .ok (.putfield 9, 3) := by decide +kernel
theorem dX1_init_12 : decode cX1_init 12 = .ok (.aload_n 0, 1) := by decide +kernel
theorem dX1_init_13 : decode cX1_init 13 = .ok (.bipush 6, 2) := by decide +kernel
theorem dX1_init_15 : decode cX1_init 15 = .ok (.newarray .int, 2) := by decide +kernel
theorem dX1_init_17 : decode cX1_init 17 = .ok (.putfield 15, 3) := by decide +kernel
theorem dX1_init_20 : decode cX1_init 20 = .ok (.aload_n 0, 1) := by decide +kernel
theorem dX1_init_21 : decode cX1_init 21 = .ok (.bipush 12, 2) := by decide +kernel
theorem dX1_init_23 : decode cX1_init 23 = .ok (.newarray .int, 2) := by decide +kernel
theorem dX1_init_25 : decode cX1_init 25 = .ok (.putfield 18, 3) := by decide +kernel
theorem dX1_init_28 : decode cX1_init 28 = .ok (.return_, 1) := by decide +kernel
theorem dX1_clear_0 : decode cX1_clear 0 = .ok (.aload_n 0, 1) := by decide +kernel
theorem dX1_clear_1 : decode cX1_clear 1 = .ok (.iconst 0, 1) := by decide +kernel
theorem dX1_clear_2 : decode cX1_clear 2 = .ok (.putfield 21, 3) := by decide +kernel
theorem dX1_clear_5 : decode cX1_clear 5 = .ok (.aload_n 0, 1) := by decide +kernel
theorem dX1_clear_6 : decode cX1_clear 6 = .ok (.iconst 0, 1) := by decide +kernel
theorem dX1_clear_7 : decode cX1_clear 7 = .ok (.putfield 25, 3) := by decide +kernel
theorem dX1_clear_10 : decode cX1_clear 10 = .ok (.return_, 1) := by decide +kernel
theorem dX1_become_0 : decode cX1_become 0 = .ok (.aload_n 1, 1) := by decide +kernel
theorem dX1_become_1 : decode cX1_become 1 = .ok (.getfield 9, 3) := by decide +kernel
theorem dX1_become_4 : decode cX1_become 4 = .ok (.iconst 0, 1) := by decide +kernel
theorem dX1_become_5 : decode cX1_become 5 = .ok (.aload_n 0, 1) := by decide +kernel
theorem dX1_become_6 : decode cX1_become 6 = .ok (.getfield 9, 3) := by decide +kernel
theorem dX1_become_9 : decode cX1_become 9 = .ok (.iconst 0, 1) := by decide +kernel
theorem dX1_become_10 : decode cX1_become 10 = .ok (.bipush 6, 2) := by decide +kernel
theorem dX1_become_12 : decode cX1_become 12 = .ok (.invokestatic 28, 3) := by decide +kernel
theorem dX1_become_15 : decode cX1_become 15 = .ok (.aload_n 1, 1) := by decide +kernel
theorem dX1_become_16 : decode cX1_become 16 = .ok (.getfield 15, 3) := by decide +kernel
theorem dX1_become_19 : decode cX1_become 19 = .ok (.iconst 0, 1) := by decide +kernel
theorem dX1_become_20 : decode cX1_become 20 = .ok (.aload_n 0, 1) := by decide +kernel
theorem dX1_become_21 : decode cX1_become 21 = .ok (.getfield 15, 3) := by decide +kernel
theorem dX1_become_24 : decode cX1_become 24 = .ok (.iconst 0, 1) := by decide +kernel
theorem dX1_become_25 : decode cX1_become 25 = .ok (.bipush 6, 2) := by decide +kernel
theorem dX1_become_27 : decode cX1_become 27 = .ok (.invokestatic 28, 3) := by decide +kernel
theorem dX1_become_30 : decode cX1_become 30 = .ok (.aload_n 1, 1) := by decide +kernel
theorem dX1_become_31 : decode cX1_become 31 = .ok (.getfield 18, 3) := by decide +kernel
theorem dX1_become_34 : decode cX1_become 34 = .ok (.iconst 0, 1) := by decide +kernel
theorem dX1_become_35 : decode cX1_become 35 = .ok (.aload_n 0, 1) := by decide +kernel
theorem dX1_become_36 : decode cX1_become 36 = .ok (.getfield 18, 3) := by decide +kernel
theorem dX1_become_39 : decode cX1_become 39 = .ok (.iconst 0, 1) := by decide +kernel
theorem dX1_become_40 : decode cX1_become 40 = .ok (.bipush 12, 2) := by decide +kernel
theorem dX1_become_42 : decode cX1_become 42 = .ok (.invokestatic 28, 3) := by decide +kernel
theorem dX1_become_45 : decode cX1_become 45 = .ok (.aload_n 0, 1) := by decide +kernel
theorem dX1_become_46 : decode cX1_become 46 = .ok (.aload_n 1, 1) := by decide +kernel
theorem dX1_become_47 : decode cX1_become 47 = .ok (.getfield 21, 3) := by decide +kernel
theorem dX1_become_50 : decode cX1_become 50 = .ok (.putfield 21, 3) := by decide +kernel
theorem dX1_become_53 : decode cX1_become 53 = .ok (.aload_n 0, 1) := by decide +kernel
theorem dX1_become_54 : decode cX1_become 54 = .ok (.aload_n 1, 1) := by decide +kernel
theorem dX1_become_55 : decode cX1_become 55 = .ok (.getfield 25, 3) := by decide +kernel
theorem dX1_become_58 : decode cX1_become 58 = .ok (.putfield 25, 3) := by decide +kernel
theorem dX1_become_61 : decode cX1_become 61 = .ok (.return_, 1) := by decide +kernel
theorem dX1_tellPeak_0 : decode cX1_tellPeak 0 = .ok (.iload_n 1, 1) := by decide +kernel
theorem dX1_tellPeak_1 : decode cX1_tellPeak 1 = .ok (.ifCond .lt 28, 3) := by decide +kernel
theorem dX1_tellPeak_4 : decode cX1_tellPeak 4 = .ok (.iload_n 1, 1) := by decide +kernel
theorem dX1_tellPeak_5 : decode cX1_tellPeak 5 = .ok (.iconst 4, 1) := by decide +kernel
theorem dX1_tellPeak_6 : decode cX1_tellPeak 6 = .ok (.if_icmp .ge 23, 3) := by decide +kernel
theorem dX1_tellPeak_9 : decode cX1_tellPeak 9 = .ok (.iload_n 2, 1) := by decide +kernel
theorem dX1_tellPeak_10 : decode cX1_tellPeak 10 = .ok (.iconst 1, 1) := by decide +kernel
theorem dX1_tellPeak_11 : decode cX1_tellPeak 11 = .ok (.if_icmp .lt 18, 3) := by decide +kernel
theorem dX1_tellPeak_14 : decode cX1_tellPeak 14 = .ok (.iload_n 2, 1) := by decide +kernel
theorem dX1_tellPeak_15 : decode cX1_tellPeak 15 = .ok (.bipush 20, 2) := by decide +kernel
theorem dX1_tellPeak_17 : decode cX1_tellPeak 17 = .ok (.if_icmp .gt 12, 3) := by decide +kernel
theorem dX1_tellPeak_20 : decode cX1_tellPeak 20 = .ok (.aload_n 0, 1) := by decide +kernel
theorem dX1_tellPeak_21 : decode cX1_tellPeak 21 = .ok (.getfield 21, 3) := by decide +kernel
theorem dX1_tellPeak_24 : decode cX1_tellPeak 24 = .ok (.bipush 6, 2) := by decide +kernel
theorem dX1_tellPeak_26 : decode cX1_tellPeak 26 = .ok (.if_icmp .lt 5, 3) := by decide +kernel
theorem dX1_tellPeak_29 : decode cX1_tellPeak 29 = .ok (.iconst 0, 1) := by decide +kernel
theorem dX1_tellPeak_30 : decode cX1_tellPeak 30 = .ok (.ireturn, 1) := by decide +kernel
theorem dX1_tellPeak_31 : decode cX1_tellPeak 31 = .ok (.aload_n 0, 1) := by decide +kernel
theorem dX1_tellPeak_32 : decode cX1_tellPeak 32 = .ok (.getfield 9, 3) := by decide +kernel
theorem dX1_tellPeak_35 : decode cX1_tellPeak 35 = .ok (.aload_n 0, 1) := by decide +kernel
theorem dX1_tellPeak_36 : decode cX1_tellPeak 36 = .ok (.getfield 21, 3) := by decide +kernel
theorem dX1_tellPeak_39 : decode cX1_tellPeak 39 = .ok (.iload_n 1, 1) := by decide +kernel
theorem dX1_tellPeak_40 : decode cX1_tellPeak 40 = .ok (.iastore, 1) := by decide +kernel
theorem dX1_tellPeak_41 : decode cX1_tellPeak 41 = .ok (.aload_n 0, 1) := by decide +kernel
theorem dX1_tellPeak_42 : decode cX1_tellPeak 42 = .ok (.getfield 15, 3) := by decide +kernel
theorem dX1_tellPeak_45 : decode cX1_tellPeak 45 = .ok (.aload_n 0, 1) := by decide +kernel
theorem dX1_tellPeak_46 : decode cX1_tellPeak 46 = .ok (.getfield 21, 3) := by decide +kernel
theorem dX1_tellPeak_49 : decode cX1_tellPeak 49 = .ok (.iload_n 2, 1) := by decide +kernel
theorem dX1_tellPeak_50 : decode cX1_tellPeak 50 = .ok (.iastore, 1) := by decide +kernel
theorem dX1_tellPeak_51 : decode cX1_tellPeak 51 = .ok (.aload_n 0, 1) := by decide +kernel
theorem dX1_tellPeak_52 : decode cX1_tellPeak 52 = .ok (.dup, 1) := by decide +kernel
theorem dX1_tellPeak_53 : decode cX1_tellPeak 53 = .ok (.getfield 21, 3) := by decide +kernel
theorem dX1_tellPeak_56 : decode cX1_tellPeak 56 = .ok (.iconst 1, 1) := by decide +kernel
theorem dX1_tellPeak_57 : decode cX1_tellPeak 57 = .ok (.iadd, 1) := by decide +kernel
theorem dX1_tellPeak_58 : decode cX1_tellPeak 58 = .ok (.putfield 21, 3) := by decide +kernel
theorem dX1_tellPeak_61 : decode cX1_tellPeak 61 = .ok (.iconst 1, 1) := by decide +kernel
theorem dX1_tellPeak_62 : decode cX1_tellPeak 62 = .ok (.ireturn, 1) := by decide +kernel
theorem dX1_tellWind_0 : decode cX1_tellWind 0 = .ok (.iload_n 1, 1) := by decide +kernel
theorem dX1_tellWind_1 : decode cX1_tellWind 1 = .ok (.ifCond .lt 18, 3) := by decide +kernel
theorem dX1_tellWind_4 : decode cX1_tellWind 4 = .ok (.iload_n 1, 1) := by decide +kernel
theorem dX1_tellWind_5 : decode cX1_tellWind 5 = .ok (.bipush 20, 2) := by decide +kernel
theorem dX1_tellWind_7 : decode cX1_tellWind 7 = .ok (.if_icmp .gt 12, 3) := by decide +kernel
theorem dX1_tellWind_10 : decode cX1_tellWind 10 = .ok (.aload_n 0, 1) := by decide +kernel
theorem dX1_tellWind_11 : decode cX1_tellWind 11 = .ok (.getfield 25, 3) := by decide +kernel
theorem dX1_tellWind_14 : decode cX1_tellWind 14 = .ok (.bipush 12, 2) := by decide +kernel
theorem dX1_tellWind_16 : decode cX1_tellWind 16 = .ok (.if_icmp .lt 5, 3) := by decide +kernel
theorem dX1_tellWind_19 : decode cX1_tellWind 19 = .ok (.iconst 0, 1) := by decide +kernel
theorem dX1_tellWind_20 : decode cX1_tellWind 20 = .ok (.ireturn, 1) := by decide +kernel
theorem dX1_tellWind_21 : decode cX1_tellWind 21 = .ok (.aload_n 0, 1) := by decide +kernel
theorem dX1_tellWind_22 : decode cX1_tellWind 22 = .ok (.getfield 18, 3) := by decide +kernel
theorem dX1_tellWind_25 : decode cX1_tellWind 25 = .ok (.aload_n 0, 1) := by decide +kernel
theorem dX1_tellWind_26 : decode cX1_tellWind 26 = .ok (.getfield 25, 3) := by decide +kernel
theorem dX1_tellWind_29 : decode cX1_tellWind 29 = .ok (.iload_n 1, 1) := by decide +kernel
theorem dX1_tellWind_30 : decode cX1_tellWind 30 = .ok (.iastore, 1) := by decide +kernel
theorem dX1_tellWind_31 : decode cX1_tellWind 31 = .ok (.aload_n 0, 1) := by decide +kernel
theorem dX1_tellWind_32 : decode cX1_tellWind 32 = .ok (.dup, 1) := by decide +kernel
theorem dX1_tellWind_33 : decode cX1_tellWind 33 = .ok (.getfield 25, 3) := by decide +kernel
theorem dX1_tellWind_36 : decode cX1_tellWind 36 = .ok (.iconst 1, 1) := by decide +kernel
theorem dX1_tellWind_37 : decode cX1_tellWind 37 = .ok (.iadd, 1) := by decide +kernel
theorem dX1_tellWind_38 : decode cX1_tellWind 38 = .ok (.putfield 25, 3) := by decide +kernel
theorem dX1_tellWind_41 : decode cX1_tellWind 41 = .ok (.iconst 1, 1) := by decide +kernel
theorem dX1_tellWind_42 : decode cX1_tellWind 42 = .ok (.ireturn, 1) := by decide +kernel
theorem dX1_isPeak_0 : decode cX1_isPeak 0 = .ok (.iload_n 1, 1) := by decide +kernel
theorem dX1_isPeak_1 : decode cX1_isPeak 1 = .ok (.ifCond .lt 15, 3) := by decide +kernel
theorem dX1_isPeak_4 : decode cX1_isPeak 4 = .ok (.iload_n 1, 1) := by decide +kernel
theorem dX1_isPeak_5 : decode cX1_isPeak 5 = .ok (.aload_n 0, 1) := by decide +kernel
theorem dX1_isPeak_6 : decode cX1_isPeak 6 = .ok (.getfield 21, 3) := by decide +kernel
theorem dX1_isPeak_9 : decode cX1_isPeak 9 = .ok (.if_icmp .ge 7, 3) := by decide +kernel
theorem dX1_isPeak_12 : decode cX1_isPeak 12 = .ok (.iconst 1, 1) := by decide +kernel
theorem dX1_isPeak_13 : decode cX1_isPeak 13 = .ok (.goto 4, 3) := by decide +kernel
theorem dX1_isPeak_16 : decode cX1_isPeak 16 = .ok (.iconst 0, 1) := by decide +kernel
theorem dX1_isPeak_17 : decode cX1_isPeak 17 = .ok (.ireturn, 1) := by decide +kernel
theorem dX1_kindOf_0 : decode cX1_kindOf 0 = .ok (.aload_n 0, 1) := by decide +kernel
theorem dX1_kindOf_1 : decode cX1_kindOf 1 = .ok (.iload_n 1, 1) := by decide +kernel
theorem dX1_kindOf_2 : decode cX1_kindOf 2 = .ok (.invokevirtual 34, 3) := by decide +kernel
theorem dX1_kindOf_5 : decode cX1_kindOf 5 = .ok (.ifCond .eq 12, 3) := by decide +kernel
theorem dX1_kindOf_8 : decode cX1_kindOf 8 = .ok (.aload_n 0, 1) := by decide +kernel
theorem dX1_kindOf_9 : decode cX1_kindOf 9 = .ok (.getfield 9, 3) := by decide +kernel
theorem dX1_kindOf_12 : decode cX1_kindOf 12 = .ok (.iload_n 1, 1) := by decide +kernel
theorem dX1_kindOf_13 : decode cX1_kindOf 13 = .ok (.iaload, 1) := by decide +kernel
theorem dX1_kindOf_14 : decode cX1_kindOf 14 = .ok (.goto 4, 3) := by decide +kernel
theorem dX1_kindOf_17 : decode cX1_kindOf 17 = .ok (.iconst 0, 1) := by decide +kernel
theorem dX1_kindOf_18 : decode cX1_kindOf 18 = .ok (.ireturn, 1) := by decide +kernel
theorem dX1_heightOf_0 : decode cX1_heightOf 0 = .ok (.aload_n 0, 1) := by decide +kernel
theorem dX1_heightOf_1 : decode cX1_heightOf 1 = .ok (.iload_n 1, 1) := by decide +kernel
theorem dX1_heightOf_2 : decode cX1_heightOf 2 = .ok (.invokevirtual 34, 3) := by decide +kernel
theorem dX1_heightOf_5 : decode cX1_heightOf 5 = .ok (.ifCond .eq 12, 3) := by decide +kernel
theorem dX1_heightOf_8 : decode cX1_heightOf 8 = .ok (.aload_n 0, 1) := by decide +kernel
theorem dX1_heightOf_9 : decode cX1_heightOf 9 = .ok (.getfield 15, 3) := by decide +kernel
theorem dX1_heightOf_12 : decode cX1_heightOf 12 = .ok (.iload_n 1, 1) := by decide +kernel
theorem dX1_heightOf_13 : decode cX1_heightOf 13 = .ok (.iaload, 1) := by decide +kernel
theorem dX1_heightOf_14 : decode cX1_heightOf 14 = .ok (.goto 4, 3) := by decide +kernel
theorem dX1_heightOf_17 : decode cX1_heightOf 17 = .ok (.iconst 0, 1) := by decide +kernel
theorem dX1_heightOf_18 : decode cX1_heightOf 18 = .ok (.ireturn, 1) := by decide +kernel
theorem dX1_hasGoats_0 : decode cX1_hasGoats 0 = .ok (.aload_n 0, 1) := by decide +kernel
theorem dX1_hasGoats_1 : decode cX1_hasGoats 1 = .ok (.iload_n 1, 1) := by decide +kernel
theorem dX1_hasGoats_2 : decode cX1_hasGoats 2 = .ok (.invokevirtual 38, 3) := by decide +kernel
theorem dX1_hasGoats_5 : decode cX1_hasGoats 5 = .ok (.iconst 3, 1) := by decide +kernel
theorem dX1_hasGoats_6 : decode cX1_hasGoats 6 = .ok (.if_icmp .ne 7, 3) := by decide +kernel
theorem dX1_hasGoats_9 : decode cX1_hasGoats 9 = .ok (.iconst 1, 1) := by decide +kernel
theorem dX1_hasGoats_10 : decode cX1_hasGoats 10 = .ok (.goto 4, 3) := by decide +kernel
theorem dX1_hasGoats_13 : decode cX1_hasGoats 13 = .ok (.iconst 0, 1) := by decide +kernel
theorem dX1_hasGoats_14 : decode cX1_hasGoats 14 = .ok (.ireturn, 1) := by decide +kernel
theorem dX1_windIn_0 : decode cX1_windIn 0 = .ok (.aload_n 0, 1) := by decide +kernel
theorem dX1_windIn_1 : decode cX1_windIn 1 = .ok (.getfield 25, 3) := by decide +kernel
theorem dX1_windIn_4 : decode cX1_windIn 4 = .ok (.iconst 1, 1) := by decide +kernel
theorem dX1_windIn_5 : decode cX1_windIn 5 = .ok (.if_icmp .lt 7, 3) := by decide +kernel
theorem dX1_windIn_8 : decode cX1_windIn 8 = .ok (.iload_n 1, 1) := by decide +kernel
theorem dX1_windIn_9 : decode cX1_windIn 9 = .ok (.ifCond .ge 7, 3) := by decide +kernel
theorem dX1_windIn_12 : decode cX1_windIn 12 = .ok (.iconst 3, 1) := by decide +kernel
theorem dX1_windIn_13 : decode cX1_windIn 13 = .ok (.goto 14, 3) := by decide +kernel
theorem dX1_windIn_16 : decode cX1_windIn 16 = .ok (.aload_n 0, 1) := by decide +kernel
theorem dX1_windIn_17 : decode cX1_windIn 17 = .ok (.getfield 18, 3) := by decide +kernel
theorem dX1_windIn_20 : decode cX1_windIn 20 = .ok (.iload_n 1, 1) := by decide +kernel
theorem dX1_windIn_21 : decode cX1_windIn 21 = .ok (.aload_n 0, 1) := by decide +kernel
theorem dX1_windIn_22 : decode cX1_windIn 22 = .ok (.getfield 25, 3) := by decide +kernel
theorem dX1_windIn_25 : decode cX1_windIn 25 = .ok (.irem, 1) := by decide +kernel
theorem dX1_windIn_26 : decode cX1_windIn 26 = .ok (.iaload, 1) := by decide +kernel
theorem dX1_windIn_27 : decode cX1_windIn 27 = .ok (.ireturn, 1) := by decide +kernel
theorem dX1_forceAt_0 : decode cX1_forceAt 0 = .ok (.aload_n 0, 1) := by decide +kernel
theorem dX1_forceAt_1 : decode cX1_forceAt 1 = .ok (.iload_n 1, 1) := by decide +kernel
theorem dX1_forceAt_2 : decode cX1_forceAt 2 = .ok (.invokevirtual 38, 3) := by decide +kernel
theorem dX1_forceAt_5 : decode cX1_forceAt 5 = .ok (.istore_n 3, 1) := by decide +kernel
theorem dX1_forceAt_6 : decode cX1_forceAt 6 = .ok (.iload_n 3, 1) := by decide +kernel
theorem dX1_forceAt_7 : decode cX1_forceAt 7 = .ok (.iconst 1, 1) := by decide +kernel
theorem dX1_forceAt_8 : decode cX1_forceAt 8 = .ok (.if_icmp .ne 7, 3) := by decide +kernel
theorem dX1_forceAt_11 : decode cX1_forceAt 11 = .ok (.iload_n 2, 1) := by decide +kernel
theorem dX1_forceAt_12 : decode cX1_forceAt 12 = .ok (.iconst 2, 1) := by decide +kernel
theorem dX1_forceAt_13 : decode cX1_forceAt 13 = .ok (.iadd, 1) := by decide +kernel
theorem dX1_forceAt_14 : decode cX1_forceAt 14 = .ok (.ireturn, 1) := by decide +kernel
theorem dX1_forceAt_15 : decode cX1_forceAt 15 = .ok (.iload_n 3, 1) := by decide +kernel
theorem dX1_forceAt_16 : decode cX1_forceAt 16 = .ok (.iconst 2, 1) := by decide +kernel
theorem dX1_forceAt_17 : decode cX1_forceAt 17 = .ok (.if_icmp .ne 13, 3) := by decide +kernel
theorem dX1_forceAt_20 : decode cX1_forceAt 20 = .ok (.iconst 0, 1) := by decide +kernel
theorem dX1_forceAt_21 : decode cX1_forceAt 21 = .ok (.iload_n 2, 1) := by decide +kernel
theorem dX1_forceAt_22 : decode cX1_forceAt 22 = .ok (.iconst 2, 1) := by decide +kernel
theorem dX1_forceAt_23 : decode cX1_forceAt 23 = .ok (.isub, 1) := by decide +kernel
theorem dX1_forceAt_24 : decode cX1_forceAt 24 = .ok (.invokestatic 42, 3) := by decide +kernel
theorem dX1_forceAt_27 : decode cX1_forceAt 27 = .ok (.goto 4, 3) := by decide +kernel
theorem dX1_forceAt_30 : decode cX1_forceAt 30 = .ok (.iload_n 2, 1) := by decide +kernel
theorem dX1_forceAt_31 : decode cX1_forceAt 31 = .ok (.ireturn, 1) := by decide +kernel
theorem dX2_init_0 : decode cX2_init 0 = .ok (.aload_n 0, 1) := by decide +kernel
theorem dX2_init_1 : decode cX2_init 1 = .ok (.invokespecial 3, 3) := by decide +kernel
theorem dX2_init_4 : decode cX2_init 4 = .ok (.aload_n 0, 1) := by decide +kernel
theorem dX2_init_5 : decode cX2_init 5 = .ok (.sipush 200, 3) := by decide +kernel
theorem dX2_init_8 : decode cX2_init 8 = .ok (.newarray .char, 2) := by decide +kernel
theorem dX2_init_10 : decode cX2_init 10 = .ok (.putfield 9, 3) := by decide +kernel
theorem dX2_init_13 : decode cX2_init 13 = .ok (.aload_n 0, 1) := by decide +kernel
theorem dX2_init_14 : decode cX2_init 14 = .ok (.iconst 3, 1) := by decide +kernel
theorem dX2_init_15 : decode cX2_init 15 = .ok (.newarray .int, 2) := by decide +kernel
theorem dX2_init_17 : decode cX2_init 17 = .ok (.putfield 15, 3) := by decide +kernel
theorem dX2_init_20 : decode cX2_init 20 = .ok (.aload_n 0, 1) := by decide +kernel
theorem dX2_init_21 : decode cX2_init 21 = .ok (.new 19, 3) := by decide +kernel
theorem dX2_init_24 : decode cX2_init 24 = .ok (.dup, 1) := by decide +kernel
theorem dX2_init_25 : decode cX2_init 25 = .ok (.invokespecial 21, 3) := by decide +kernel
theorem dX2_init_28 : decode cX2_init 28 = .ok (.putfield 22, 3) := by decide +kernel
theorem dX2_init_31 : decode cX2_init 31 = .ok (.aload_n 0, 1) := by decide +kernel
theorem dX2_init_32 : decode cX2_init 32 = .ok (.new 26, 3) := by decide +kernel
theorem dX2_init_35 : decode cX2_init 35 = .ok (.dup, 1) := by decide +kernel
theorem dX2_init_36 : decode cX2_init 36 = .ok (.invokespecial 28, 3) := by decide +kernel
theorem dX2_init_39 : decode cX2_init 39 = .ok (.putfield 29, 3) := by decide +kernel
theorem dX2_init_42 : decode cX2_init 42 = .ok (.return_, 1) := by decide +kernel
theorem dX2_copyDown_0 : decode cX2_copyDown 0 = .ok (.aload_n 0, 1) := by decide +kernel
theorem dX2_copyDown_1 : decode cX2_copyDown 1 = .ok (.iconst 0, 1) := by decide +kernel
theorem dX2_copyDown_2 : decode cX2_copyDown 2 = .ok (.putfield 33, 3) := by decide +kernel
theorem dX2_copyDown_5 : decode cX2_copyDown 5 = .ok (.iconst 0, 1) := by decide +kernel
theorem dX2_copyDown_6 : decode cX2_copyDown 6 = .ok (.istore_n 2, 1) := by decide +kernel
theorem dX2_copyDown_7 : decode cX2_copyDown 7 = .ok (.iload_n 2, 1) := by decide +kernel
theorem dX2_copyDown_8 : decode cX2_copyDown 8 = .ok (.aload_n 1, 1) := by decide +kernel
theorem dX2_copyDown_9 : decode cX2_copyDown 9 = .ok (.invokevirtual 37, 3) := by decide +kernel
theorem dX2_copyDown_12 : decode cX2_copyDown 12 = .ok (.if_icmp .ge 19, 3) := by decide +kernel
theorem dX2_copyDown_15 : decode cX2_copyDown 15 = .ok (.aload_n 0, 1) := by decide +kernel
theorem dX2_copyDown_16 : decode cX2_copyDown 16 = .ok (.aload_n 1, 1) := by decide +kernel
theorem dX2_copyDown_17 : decode cX2_copyDown 17 = .ok (.iload_n 2, 1) := by decide +kernel
theorem dX2_copyDown_18 : decode cX2_copyDown 18 = .ok (.invokevirtual 42, 3) := by decide +kernel
theorem dX2_copyDown_21 : decode cX2_copyDown 21 = .ok (.invokevirtual 46, 3) := by decide +kernel
theorem dX2_copyDown_24 : decode cX2_copyDown 24 = .ok (.pop, 1) := by decide +kernel
theorem dX2_copyDown_25 : decode cX2_copyDown 25 = .ok (.iinc 2 1, 3) := by decide +kernel
theorem dX2_copyDown_28 : decode cX2_copyDown 28 = .ok (.goto (-21), 3) := by decide +kernel
theorem dX2_copyDown_31 : decode cX2_copyDown 31 = .ok (.return_, 1) := by decide +kernel
theorem dX2_append_0 : decode cX2_append 0 = .ok (.aload_n 0, 1) := by decide +kernel
theorem dX2_append_1 : decode cX2_append 1 = .ok (.getfield 33, 3) := by decide +kernel
theorem dX2_append_4 : decode cX2_append 4 = .ok (.sipush 200, 3) := by decide +kernel
theorem dX2_append_7 : decode cX2_append 7 = .ok (.if_icmp .lt 5, 3) := by decide +kernel
theorem dX2_append_10 : decode cX2_append 10 = .ok (.iconst 0, 1) := by decide +kernel
theorem dX2_append_11 : decode cX2_append 11 = .ok (.ireturn, 1) := by decide +kernel
theorem dX2_append_12 : decode cX2_append 12 = .ok (.aload_n 0, 1) := by decide +kernel
theorem dX2_append_13 : decode cX2_append 13 = .ok (.getfield 9, 3) := by decide +kernel
theorem dX2_append_16 : decode cX2_append 16 = .ok (.aload_n 0, 1) := by decide +kernel
theorem dX2_append_17 : decode cX2_append 17 = .ok (.getfield 33, 3) := by decide +kernel
theorem dX2_append_20 : decode cX2_append 20 = .ok (.iload_n 1, 1) := by decide +kernel
theorem dX2_append_21 : decode cX2_append 21 = .ok (.castore, 1) := by decide +kernel
theorem dX2_append_22 : decode cX2_append 22 = .ok (.aload_n 0, 1) := by decide +kernel
theorem dX2_append_23 : decode cX2_append 23 = .ok (.dup, 1) := by decide +kernel
theorem dX2_append_24 : decode cX2_append 24 = .ok (.getfield 33, 3) := by decide +kernel
theorem dX2_append_27 : decode cX2_append 27 = .ok (.iconst 1, 1) := by decide +kernel
theorem dX2_append_28 : decode cX2_append 28 = .ok (.iadd, 1) := by decide +kernel
theorem dX2_append_29 : decode cX2_append 29 = .ok (.putfield 33, 3) := by decide +kernel
theorem dX2_append_32 : decode cX2_append 32 = .ok (.iconst 1, 1) := by decide +kernel
theorem dX2_append_33 : decode cX2_append 33 = .ok (.ireturn, 1) := by decide +kernel
theorem dX2_readAll_0 : decode cX2_readAll 0 = .ok (.aload_n 0, 1) := by decide +kernel
theorem dX2_readAll_1 : decode cX2_readAll 1 = .ok (.getfield 22, 3) := by decide +kernel
theorem dX2_readAll_4 : decode cX2_readAll 4 = .ok (.invokevirtual 50, 3) := by decide +kernel
theorem dX2_readAll_7 : decode cX2_readAll 7 = .ok (.aload_n 0, 1) := by decide +kernel
theorem dX2_readAll_8 : decode cX2_readAll 8 = .ok (.getfield 29, 3) := by decide +kernel
theorem dX2_readAll_11 : decode cX2_readAll 11 = .ok (.invokevirtual 53, 3) := by decide +kernel
theorem dX2_readAll_14 : decode cX2_readAll 14 = .ok (.aload_n 0, 1) := by decide +kernel
theorem dX2_readAll_15 : decode cX2_readAll 15 = .ok (.iconst 0, 1) := by decide +kernel
theorem dX2_readAll_16 : decode cX2_readAll 16 = .ok (.putfield 54, 3) := by decide +kernel
theorem dX2_readAll_19 : decode cX2_readAll 19 = .ok (.iconst 0, 1) := by decide +kernel
theorem dX2_readAll_20 : decode cX2_readAll 20 = .ok (.istore_n 1, 1) := by decide +kernel
theorem dX2_readAll_21 : decode cX2_readAll 21 = .ok (.iload_n 1, 1) := by decide +kernel
theorem dX2_readAll_22 : decode cX2_readAll 22 = .ok (.sipush 200, 3) := by decide +kernel
theorem dX2_readAll_25 : decode cX2_readAll 25 = .ok (.if_icmp .ge 46, 3) := by decide +kernel
theorem dX2_readAll_28 : decode cX2_readAll 28 = .ok (.aload_n 0, 1) := by decide +kernel
theorem dX2_readAll_29 : decode cX2_readAll 29 = .ok (.getfield 54, 3) := by decide +kernel
theorem dX2_readAll_32 : decode cX2_readAll 32 = .ok (.aload_n 0, 1) := by decide +kernel
theorem dX2_readAll_33 : decode cX2_readAll 33 = .ok (.getfield 33, 3) := by decide +kernel
theorem dX2_readAll_36 : decode cX2_readAll 36 = .ok (.if_icmp .ge 35, 3) := by decide +kernel
theorem dX2_readAll_39 : decode cX2_readAll 39 = .ok (.aload_n 0, 1) := by decide +kernel
theorem dX2_readAll_40 : decode cX2_readAll 40 = .ok (.getfield 54, 3) := by decide +kernel
theorem dX2_readAll_43 : decode cX2_readAll 43 = .ok (.istore_n 2, 1) := by decide +kernel
theorem dX2_readAll_44 : decode cX2_readAll 44 = .ok (.aload_n 0, 1) := by decide +kernel
theorem dX2_readAll_45 : decode cX2_readAll 45 = .ok (.invokevirtual 57, 3) := by decide +kernel
theorem dX2_readAll_48 : decode cX2_readAll 48 = .ok (.ifCond .eq 15, 3) := by decide +kernel
theorem dX2_readAll_51 : decode cX2_readAll 51 = .ok (.aload_n 0, 1) := by decide +kernel
theorem dX2_readAll_52 : decode cX2_readAll 52 = .ok (.aload_n 0, 1) := by decide +kernel
theorem dX2_readAll_53 : decode cX2_readAll 53 = .ok (.iload_n 2, 1) := by decide +kernel
theorem dX2_readAll_54 : decode cX2_readAll 54 = .ok (.invokevirtual 61, 3) := by decide +kernel
theorem dX2_readAll_57 : decode cX2_readAll 57 = .ok (.invokevirtual 64, 3) := by decide +kernel
theorem dX2_readAll_60 : decode cX2_readAll 60 = .ok (.ifCond .ne 5, 3) := by decide +kernel
theorem dX2_readAll_63 : decode cX2_readAll 63 = .ok (.iload_n 2, 1) := by decide +kernel
theorem dX2_readAll_64 : decode cX2_readAll 64 = .ok (.ireturn, 1) := by decide +kernel
theorem dX2_readAll_65 : decode cX2_readAll 65 = .ok (.iinc 1 1, 3) := by decide +kernel
theorem dX2_readAll_68 : decode cX2_readAll 68 = .ok (.goto (-47), 3) := by decide +kernel
theorem dX2_readAll_71 : decode cX2_readAll 71 = .ok (.bipush (-4), 2) := by decide +kernel
theorem dX2_readAll_73 : decode cX2_readAll 73 = .ok (.ireturn, 1) := by decide +kernel
theorem dX2_readItem_0 : decode cX2_readItem 0 = .ok (.aload_n 0, 1) := by decide +kernel
theorem dX2_readItem_1 : decode cX2_readItem 1 = .ok (.aload_n 0, 1) := by decide +kernel
theorem dX2_readItem_2 : decode cX2_readItem 2 = .ok (.getfield 54, 3) := by decide +kernel
theorem dX2_readItem_5 : decode cX2_readItem 5 = .ok (.invokevirtual 61, 3) := by decide +kernel
theorem dX2_readItem_8 : decode cX2_readItem 8 = .ok (.invokestatic 67, 3) := by decide +kernel
theorem dX2_readItem_11 : decode cX2_readItem 11 = .ok (.istore_n 1, 1) := by decide +kernel
theorem dX2_readItem_12 : decode cX2_readItem 12 = .ok (.aload_n 0, 1) := by decide +kernel
theorem dX2_readItem_13 : decode cX2_readItem 13 = .ok (.dup, 1) := by decide +kernel
theorem dX2_readItem_14 : decode cX2_readItem 14 = .ok (.getfield 54, 3) := by decide +kernel
theorem dX2_readItem_17 : decode cX2_readItem 17 = .ok (.iconst 1, 1) := by decide +kernel
theorem dX2_readItem_18 : decode cX2_readItem 18 = .ok (.iadd, 1) := by decide +kernel
theorem dX2_readItem_19 : decode cX2_readItem 19 = .ok (.putfield 54, 3) := by decide +kernel
theorem dX2_readItem_22 : decode cX2_readItem 22 = .ok (.iconst 0, 1) := by decide +kernel
theorem dX2_readItem_23 : decode cX2_readItem 23 = .ok (.istore_n 2, 1) := by decide +kernel
theorem dX2_readItem_24 : decode cX2_readItem 24 = .ok (.iload_n 2, 1) := by decide +kernel
theorem dX2_readItem_25 : decode cX2_readItem 25 = .ok (.iload_n 1, 1) := by decide +kernel
theorem dX2_readItem_26 : decode cX2_readItem 26 = .ok (.if_icmp .ge 72, 3) := by decide +kernel
theorem dX2_readItem_29 : decode cX2_readItem 29 = .ok (.iload_n 2, 1) := by decide +kernel
theorem dX2_readItem_30 : decode cX2_readItem 30 = .ok (.iconst 3, 1) := by decide +kernel
theorem dX2_readItem_31 : decode cX2_readItem 31 = .ok (.if_icmp .ge 67, 3) := by decide +kernel
theorem dX2_readItem_34 : decode cX2_readItem 34 = .ok (.aload_n 0, 1) := by decide +kernel
theorem dX2_readItem_35 : decode cX2_readItem 35 = .ok (.getfield 15, 3) := by decide +kernel
theorem dX2_readItem_38 : decode cX2_readItem 38 = .ok (.iload_n 2, 1) := by decide +kernel
theorem dX2_readItem_39 : decode cX2_readItem 39 = .ok (.aload_n 0, 1) := by decide +kernel
theorem dX2_readItem_40 : decode cX2_readItem 40 = .ok (.invokevirtual 71, 3) := by decide +kernel
theorem dX2_readItem_43 : decode cX2_readItem 43 = .ok (.iastore, 1) := by decide +kernel
theorem dX2_readItem_44 : decode cX2_readItem 44 = .ok (.iload_n 2, 1) := by decide +kernel
theorem dX2_readItem_45 : decode cX2_readItem 45 = .ok (.iconst 1, 1) := by decide +kernel
theorem dX2_readItem_46 : decode cX2_readItem 46 = .ok (.iadd, 1) := by decide +kernel
theorem dX2_readItem_47 : decode cX2_readItem 47 = .ok (.iload_n 1, 1) := by decide +kernel
theorem dX2_readItem_48 : decode cX2_readItem 48 = .ok (.if_icmp .ge 8, 3) := by decide +kernel
theorem dX2_readItem_51 : decode cX2_readItem 51 = .ok (.bipush 44, 2) := by decide +kernel
theorem dX2_readItem_53 : decode cX2_readItem 53 = .ok (.goto 5, 3) := by decide +kernel
theorem dX2_readItem_56 : decode cX2_readItem 56 = .ok (.bipush 59, 2) := by decide +kernel
theorem dX2_readItem_58 : decode cX2_readItem 58 = .ok (.istore_n 3, 1) := by decide +kernel
theorem dX2_readItem_59 : decode cX2_readItem 59 = .ok (.aload_n 0, 1) := by decide +kernel
theorem dX2_readItem_60 : decode cX2_readItem 60 = .ok (.getfield 15, 3) := by decide +kernel
theorem dX2_readItem_63 : decode cX2_readItem 63 = .ok (.iload_n 2, 1) := by decide +kernel
theorem dX2_readItem_64 : decode cX2_readItem 64 = .ok (.iaload, 1) := by decide +kernel
theorem dX2_readItem_65 : decode cX2_readItem 65 = .ok (.ifCond .lt 15, 3) := by decide +kernel
theorem dX2_readItem_68 : decode cX2_readItem 68 = .ok (.aload_n 0, 1) := by decide +kernel
theorem dX2_readItem_69 : decode cX2_readItem 69 = .ok (.aload_n 0, 1) := by decide +kernel
theorem dX2_readItem_70 : decode cX2_readItem 70 = .ok (.getfield 54, 3) := by decide +kernel
theorem dX2_readItem_73 : decode cX2_readItem 73 = .ok (.invokevirtual 61, 3) := by decide +kernel
theorem dX2_readItem_76 : decode cX2_readItem 76 = .ok (.iload_n 3, 1) := by decide +kernel
theorem dX2_readItem_77 : decode cX2_readItem 77 = .ok (.if_icmp .eq 5, 3) := by decide +kernel
theorem dX2_readItem_80 : decode cX2_readItem 80 = .ok (.iconst 0, 1) := by decide +kernel
theorem dX2_readItem_81 : decode cX2_readItem 81 = .ok (.ireturn, 1) := by decide +kernel
theorem dX2_readItem_82 : decode cX2_readItem 82 = .ok (.aload_n 0, 1) := by decide +kernel
theorem dX2_readItem_83 : decode cX2_readItem 83 = .ok (.dup, 1) := by decide +kernel
theorem dX2_readItem_84 : decode cX2_readItem 84 = .ok (.getfield 54, 3) := by decide +kernel
theorem dX2_readItem_87 : decode cX2_readItem 87 = .ok (.iconst 1, 1) := by decide +kernel
theorem dX2_readItem_88 : decode cX2_readItem 88 = .ok (.iadd, 1) := by decide +kernel
theorem dX2_readItem_89 : decode cX2_readItem 89 = .ok (.putfield 54, 3) := by decide +kernel
theorem dX2_readItem_92 : decode cX2_readItem 92 = .ok (.iinc 2 1, 3) := by decide +kernel
theorem dX2_readItem_95 : decode cX2_readItem 95 = .ok (.goto (-71), 3) := by decide +kernel
theorem dX2_readItem_98 : decode cX2_readItem 98 = .ok (.iload_n 1, 1) := by decide +kernel
theorem dX2_readItem_99 : decode cX2_readItem 99 = .ok (.ifCond .le 7, 3) := by decide +kernel
theorem dX2_readItem_102 : decode cX2_readItem 102 = .ok (.iconst 1, 1) := by decide +kernel
theorem dX2_readItem_103 : decode cX2_readItem 103 = .ok (.goto 4, 3) := by decide +kernel
theorem dX2_readItem_106 : decode cX2_readItem 106 = .ok (.iconst 0, 1) := by decide +kernel
theorem dX2_readItem_107 : decode cX2_readItem 107 = .ok (.ireturn, 1) := by decide +kernel
theorem dX2_numbersBehind_0 : decode cX2_numbersBehind 0 = .ok (.iload_n 0, 1) := by decide +kernel
theorem dX2_numbersBehind_1 : decode cX2_numbersBehind 1 = .ok (.bipush 111, 2) := by decide +kernel
theorem dX2_numbersBehind_3 : decode cX2_numbersBehind 3 = .ok (.if_icmp .ne 5, 3) := by decide +kernel
theorem dX2_numbersBehind_6 : decode cX2_numbersBehind 6 = .ok (.iconst 3, 1) := by decide +kernel
theorem dX2_numbersBehind_7 : decode cX2_numbersBehind 7 = .ok (.ireturn, 1) := by decide +kernel
theorem dX2_numbersBehind_8 : decode cX2_numbersBehind 8 = .ok (.iload_n 0, 1) := by decide +kernel
theorem dX2_numbersBehind_9 : decode cX2_numbersBehind 9 = .ok (.bipush 119, 2) := by decide +kernel
theorem dX2_numbersBehind_11 : decode cX2_numbersBehind 11 = .ok (.if_icmp .ne 7, 3) := by decide +kernel
theorem dX2_numbersBehind_14 : decode cX2_numbersBehind 14 = .ok (.iconst 1, 1) := by decide +kernel
theorem dX2_numbersBehind_15 : decode cX2_numbersBehind 15 = .ok (.goto 20, 3) := by decide +kernel
theorem dX2_numbersBehind_18 : decode cX2_numbersBehind 18 = .ok (.iload_n 0, 1) := by decide +kernel
theorem dX2_numbersBehind_19 : decode cX2_numbersBehind 19 = .ok (.bipush 112, 2) := by decide +kernel
theorem dX2_numbersBehind_21 : decode cX2_numbersBehind 21 = .ok (.if_icmp .eq 9, 3) := by decide +kernel
theorem dX2_numbersBehind_24 : decode cX2_numbersBehind 24 = .ok (.iload_n 0, 1) := by decide +kernel
theorem dX2_numbersBehind_25 : decode cX2_numbersBehind 25 = .ok (.bipush 115, 2) := by decide +kernel
theorem dX2_numbersBehind_27 : decode cX2_numbersBehind 27 = .ok (.if_icmp .ne 7, 3) := by decide +kernel
theorem dX2_numbersBehind_30 : decode cX2_numbersBehind 30 = .ok (.iconst 2, 1) := by decide +kernel
theorem dX2_numbersBehind_31 : decode cX2_numbersBehind 31 = .ok (.goto 4, 3) := by decide +kernel
theorem dX2_numbersBehind_34 : decode cX2_numbersBehind 34 = .ok (.iconst 0, 1) := by decide +kernel
theorem dX2_numbersBehind_35 : decode cX2_numbersBehind 35 = .ok (.ireturn, 1) := by decide +kernel
theorem dX2_readNumber_0 : decode cX2_readNumber 0 = .ok (.aload_n 0, 1) := by decide +kernel
theorem dX2_readNumber_1 : decode cX2_readNumber 1 = .ok (.aload_n 0, 1) := by decide +kernel
theorem dX2_readNumber_2 : decode cX2_readNumber 2 = .ok (.getfield 54, 3) := by decide +kernel
theorem dX2_readNumber_5 : decode cX2_readNumber 5 = .ok (.invokevirtual 61, 3) := by decide +kernel
theorem dX2_readNumber_8 : decode cX2_readNumber 8 = .ok (.bipush 48, 2) := by decide +kernel
theorem dX2_readNumber_10 : decode cX2_readNumber 10 = .ok (.isub, 1) := by decide +kernel
theorem dX2_readNumber_11 : decode cX2_readNumber 11 = .ok (.istore_n 1, 1) := by decide +kernel
theorem dX2_readNumber_12 : decode cX2_readNumber 12 = .ok (.iload_n 1, 1) := by decide +kernel
theorem dX2_readNumber_13 : decode cX2_readNumber 13 = .ok (.ifCond .lt 9, 3) := by decide +kernel
theorem dX2_readNumber_16 : decode cX2_readNumber 16 = .ok (.iload_n 1, 1) := by decide +kernel
theorem dX2_readNumber_17 : decode cX2_readNumber 17 = .ok (.bipush 9, 2) := by decide +kernel
theorem dX2_readNumber_19 : decode cX2_readNumber 19 = .ok (.if_icmp .le 5, 3) := by decide +kernel
theorem dX2_readNumber_22 : decode cX2_readNumber 22 = .ok (.iconst (-1), 1) := by decide +kernel
theorem dX2_readNumber_23 : decode cX2_readNumber 23 = .ok (.ireturn, 1) := by decide +kernel
theorem dX2_readNumber_24 : decode cX2_readNumber 24 = .ok (.aload_n 0, 1) := by decide +kernel
theorem dX2_readNumber_25 : decode cX2_readNumber 25 = .ok (.dup, 1) := by decide +kernel
theorem dX2_readNumber_26 : decode cX2_readNumber 26 = .ok (.getfield 54, 3) := by decide +kernel
theorem dX2_readNumber_29 : decode cX2_readNumber 29 = .ok (.iconst 1, 1) := by decide +kernel
theorem dX2_readNumber_30 : decode cX2_readNumber 30 = .ok (.iadd, 1) := by decide +kernel
theorem dX2_readNumber_31 : decode cX2_readNumber 31 = .ok (.putfield 54, 3) := by decide +kernel
theorem dX2_readNumber_34 : decode cX2_readNumber 34 = .ok (.aload_n 0, 1) := by decide +kernel
theorem dX2_readNumber_35 : decode cX2_readNumber 35 = .ok (.aload_n 0, 1) := by decide +kernel
theorem dX2_readNumber_36 : decode cX2_readNumber 36 = .ok (.getfield 54, 3) := by decide +kernel
theorem dX2_readNumber_39 : decode cX2_readNumber 39 = .ok (.invokevirtual 61, 3) := by decide +kernel
theorem dX2_readNumber_42 : decode cX2_readNumber 42 = .ok (.bipush 48, 2) := by decide +kernel
theorem dX2_readNumber_44 : decode cX2_readNumber 44 = .ok (.isub, 1) := by decide +kernel
theorem dX2_readNumber_45 : decode cX2_readNumber 45 = .ok (.istore_n 2, 1) := by decide +kernel
theorem dX2_readNumber_46 : decode cX2_readNumber 46 = .ok (.iload_n 2, 1) := by decide +kernel
theorem dX2_readNumber_47 : decode cX2_readNumber 47 = .ok (.ifCond .lt 9, 3) := by decide +kernel
theorem dX2_readNumber_50 : decode cX2_readNumber 50 = .ok (.iload_n 2, 1) := by decide +kernel
theorem dX2_readNumber_51 : decode cX2_readNumber 51 = .ok (.bipush 9, 2) := by decide +kernel
theorem dX2_readNumber_53 : decode cX2_readNumber 53 = .ok (.if_icmp .le 5, 3) := by decide +kernel
theorem dX2_readNumber_56 : decode cX2_readNumber 56 = .ok (.iload_n 1, 1) := by decide +kernel
theorem dX2_readNumber_57 : decode cX2_readNumber 57 = .ok (.ireturn, 1) := by decide +kernel
theorem dX2_readNumber_58 : decode cX2_readNumber 58 = .ok (.aload_n 0, 1) := by decide +kernel
theorem dX2_readNumber_59 : decode cX2_readNumber 59 = .ok (.dup, 1) := by decide +kernel
theorem dX2_readNumber_60 : decode cX2_readNumber 60 = .ok (.getfield 54, 3) := by decide +kernel
theorem dX2_readNumber_63 : decode cX2_readNumber 63 = .ok (.iconst 1, 1) := by decide +kernel
theorem dX2_readNumber_64 : decode cX2_readNumber 64 = .ok (.iadd, 1) := by decide +kernel
theorem dX2_readNumber_65 : decode cX2_readNumber 65 = .ok (.putfield 54, 3) := by decide +kernel
theorem dX2_readNumber_68 : decode cX2_readNumber 68 = .ok (.bipush 10, 2) := by decide +kernel
theorem dX2_readNumber_70 : decode cX2_readNumber 70 = .ok (.iload_n 1, 1) := by decide +kernel
theorem dX2_readNumber_71 : decode cX2_readNumber 71 = .ok (.imul, 1) := by decide +kernel
theorem dX2_readNumber_72 : decode cX2_readNumber 72 = .ok (.iload_n 2, 1) := by decide +kernel
theorem dX2_readNumber_73 : decode cX2_readNumber 73 = .ok (.iadd, 1) := by decide +kernel
theorem dX2_readNumber_74 : decode cX2_readNumber 74 = .ok (.ireturn, 1) := by decide +kernel
theorem dX2_letterAt_0 : decode cX2_letterAt 0 = .ok (.iload_n 1, 1) := by decide +kernel
theorem dX2_letterAt_1 : decode cX2_letterAt 1 = .ok (.ifCond .lt 27, 3) := by decide +kernel
theorem dX2_letterAt_4 : decode cX2_letterAt 4 = .ok (.iload_n 1, 1) := by decide +kernel
theorem dX2_letterAt_5 : decode cX2_letterAt 5 = .ok (.aload_n 0, 1) := by decide +kernel
theorem dX2_letterAt_6 : decode cX2_letterAt 6 = .ok (.getfield 33, 3) := by decide +kernel
theorem dX2_letterAt_9 : decode cX2_letterAt 9 = .ok (.if_icmp .ge 19, 3) := by decide +kernel
theorem dX2_letterAt_12 : decode cX2_letterAt 12 = .ok (.iload_n 1, 1) := by decide +kernel
theorem dX2_letterAt_13 : decode cX2_letterAt 13 = .ok (.sipush 200, 3) := by decide +kernel
theorem dX2_letterAt_16 : decode cX2_letterAt 16 = .ok (.if_icmp .ge 12, 3) := by decide +kernel
theorem dX2_letterAt_19 : decode cX2_letterAt 19 = .ok (.aload_n 0, 1) := by decide +kernel
theorem dX2_letterAt_20 : decode cX2_letterAt 20 = .ok (.getfield 9, 3) := by decide +kernel
theorem dX2_letterAt_23 : decode cX2_letterAt 23 = .ok (.iload_n 1, 1) := by decide +kernel
theorem dX2_letterAt_24 : decode cX2_letterAt 24 = .ok (.caload, 1) := by decide +kernel
theorem dX2_letterAt_25 : decode cX2_letterAt 25 = .ok (.goto 5, 3) := by decide +kernel
theorem dX2_letterAt_28 : decode cX2_letterAt 28 = .ok (.bipush 32, 2) := by decide +kernel
theorem dX2_letterAt_30 : decode cX2_letterAt 30 = .ok (.ireturn, 1) := by decide +kernel
theorem dX2_heed_0 : decode cX2_heed 0 = .ok (.iload_n 1, 1) := by decide +kernel
theorem dX2_heed_1 : decode cX2_heed 1 = .ok (.bipush 112, 2) := by decide +kernel
theorem dX2_heed_3 : decode cX2_heed 3 = .ok (.if_icmp .ne 23, 3) := by decide +kernel
theorem dX2_heed_6 : decode cX2_heed 6 = .ok (.aload_n 0, 1) := by decide +kernel
theorem dX2_heed_7 : decode cX2_heed 7 = .ok (.getfield 22, 3) := by decide +kernel
theorem dX2_heed_10 : decode cX2_heed 10 = .ok (.aload_n 0, 1) := by decide +kernel
theorem dX2_heed_11 : decode cX2_heed 11 = .ok (.getfield 15, 3) := by decide +kernel
theorem dX2_heed_14 : decode cX2_heed 14 = .ok (.iconst 0, 1) := by decide +kernel
theorem dX2_heed_15 : decode cX2_heed 15 = .ok (.iaload, 1) := by decide +kernel
theorem dX2_heed_16 : decode cX2_heed 16 = .ok (.aload_n 0, 1) := by decide +kernel
theorem dX2_heed_17 : decode cX2_heed 17 = .ok (.getfield 15, 3) := by decide +kernel
theorem dX2_heed_20 : decode cX2_heed 20 = .ok (.iconst 1, 1) := by decide +kernel
theorem dX2_heed_21 : decode cX2_heed 21 = .ok (.iaload, 1) := by decide +kernel
theorem dX2_heed_22 : decode cX2_heed 22 = .ok (.invokevirtual 74, 3) := by decide +kernel
theorem dX2_heed_25 : decode cX2_heed 25 = .ok (.ireturn, 1) := by decide +kernel
theorem dX2_heed_26 : decode cX2_heed 26 = .ok (.iload_n 1, 1) := by decide +kernel
theorem dX2_heed_27 : decode cX2_heed 27 = .ok (.bipush 115, 2) := by decide +kernel
theorem dX2_heed_29 : decode cX2_heed 29 = .ok (.if_icmp .ne 20, 3) := by decide +kernel
theorem dX2_heed_32 : decode cX2_heed 32 = .ok (.aload_n 0, 1) := by decide +kernel
theorem dX2_heed_33 : decode cX2_heed 33 = .ok (.aload_n 0, 1) := by decide +kernel
theorem dX2_heed_34 : decode cX2_heed 34 = .ok (.getfield 15, 3) := by decide +kernel
theorem dX2_heed_37 : decode cX2_heed 37 = .ok (.iconst 0, 1) := by decide +kernel
theorem dX2_heed_38 : decode cX2_heed 38 = .ok (.iaload, 1) := by decide +kernel
theorem dX2_heed_39 : decode cX2_heed 39 = .ok (.aload_n 0, 1) := by decide +kernel
theorem dX2_heed_40 : decode cX2_heed 40 = .ok (.getfield 15, 3) := by decide +kernel
theorem dX2_heed_43 : decode cX2_heed 43 = .ok (.iconst 1, 1) := by decide +kernel
theorem dX2_heed_44 : decode cX2_heed 44 = .ok (.iaload, 1) := by decide +kernel
theorem dX2_heed_45 : decode cX2_heed 45 = .ok (.invokevirtual 78, 3) := by decide +kernel
theorem dX2_heed_48 : decode cX2_heed 48 = .ok (.ireturn, 1) := by decide +kernel
theorem dX2_heed_49 : decode cX2_heed 49 = .ok (.iload_n 1, 1) := by decide +kernel
theorem dX2_heed_50 : decode cX2_heed 50 = .ok (.bipush 111, 2) := by decide +kernel
theorem dX2_heed_52 : decode cX2_heed 52 = .ok (.if_icmp .ne 26, 3) := by decide +kernel
theorem dX2_heed_55 : decode cX2_heed 55 = .ok (.aload_n 0, 1) := by decide +kernel
theorem dX2_heed_56 : decode cX2_heed 56 = .ok (.aload_n 0, 1) := by decide +kernel
theorem dX2_heed_57 : decode cX2_heed 57 = .ok (.getfield 15, 3) := by decide +kernel
theorem dX2_heed_60 : decode cX2_heed 60 = .ok (.iconst 0, 1) := by decide +kernel
theorem dX2_heed_61 : decode cX2_heed 61 = .ok (.iaload, 1) := by decide +kernel
theorem dX2_heed_62 : decode cX2_heed 62 = .ok (.aload_n 0, 1) := by decide +kernel
theorem dX2_heed_63 : decode cX2_heed 63 = .ok (.getfield 15, 3) := by decide +kernel
theorem dX2_heed_66 : decode cX2_heed 66 = .ok (.iconst 1, 1) := by decide +kernel
theorem dX2_heed_67 : decode cX2_heed 67 = .ok (.iaload, 1) := by decide +kernel
theorem dX2_heed_68 : decode cX2_heed 68 = .ok (.aload_n 0, 1) := by decide +kernel
theorem dX2_heed_69 : decode cX2_heed 69 = .ok (.getfield 15, 3) := by decide +kernel
theorem dX2_heed_72 : decode cX2_heed 72 = .ok (.iconst 2, 1) := by decide +kernel
theorem dX2_heed_73 : decode cX2_heed 73 = .ok (.iaload, 1) := by decide +kernel
theorem dX2_heed_74 : decode cX2_heed 74 = .ok (.invokevirtual 81, 3) := by decide +kernel
theorem dX2_heed_77 : decode cX2_heed 77 = .ok (.ireturn, 1) := by decide +kernel
theorem dX2_heed_78 : decode cX2_heed 78 = .ok (.iload_n 1, 1) := by decide +kernel
theorem dX2_heed_79 : decode cX2_heed 79 = .ok (.bipush 119, 2) := by decide +kernel
theorem dX2_heed_81 : decode cX2_heed 81 = .ok (.if_icmp .ne 23, 3) := by decide +kernel
theorem dX2_heed_84 : decode cX2_heed 84 = .ok (.aload_n 0, 1) := by decide +kernel
theorem dX2_heed_85 : decode cX2_heed 85 = .ok (.getfield 22, 3) := by decide +kernel
theorem dX2_heed_88 : decode cX2_heed 88 = .ok (.aload_n 0, 1) := by decide +kernel
theorem dX2_heed_89 : decode cX2_heed 89 = .ok (.getfield 15, 3) := by decide +kernel
theorem dX2_heed_92 : decode cX2_heed 92 = .ok (.iconst 0, 1) := by decide +kernel
theorem dX2_heed_93 : decode cX2_heed 93 = .ok (.iaload, 1) := by decide +kernel
theorem dX2_heed_94 : decode cX2_heed 94 = .ok (.invokevirtual 85, 3) := by decide +kernel
theorem dX2_heed_97 : decode cX2_heed 97 = .ok (.ifCond .eq 7, 3) := by decide +kernel
theorem dX2_heed_100 : decode cX2_heed 100 = .ok (.iconst 1, 1) := by decide +kernel
theorem dX2_heed_101 : decode cX2_heed 101 = .ok (.goto 4, 3) := by decide +kernel
theorem dX2_heed_104 : decode cX2_heed 104 = .ok (.iconst 0, 1) := by decide +kernel
theorem dX2_heed_105 : decode cX2_heed 105 = .ok (.ireturn, 1) := by decide +kernel
theorem dX2_tellStore_0 : decode cX2_tellStore 0 = .ok (.iload_n 1, 1) := by decide +kernel
theorem dX2_tellStore_1 : decode cX2_tellStore 1 = .ok (.invokestatic 89, 3) := by decide +kernel
theorem dX2_tellStore_4 : decode cX2_tellStore 4 = .ok (.ifCond .eq 13, 3) := by decide +kernel
theorem dX2_tellStore_7 : decode cX2_tellStore 7 = .ok (.iload_n 2, 1) := by decide +kernel
theorem dX2_tellStore_8 : decode cX2_tellStore 8 = .ok (.ifCond .lt 9, 3) := by decide +kernel
theorem dX2_tellStore_11 : decode cX2_tellStore 11 = .ok (.iload_n 2, 1) := by decide +kernel
theorem dX2_tellStore_12 : decode cX2_tellStore 12 = .ok (.bipush 9, 2) := by decide +kernel
theorem dX2_tellStore_14 : decode cX2_tellStore 14 = .ok (.if_icmp .le 5, 3) := by decide +kernel
theorem dX2_tellStore_17 : decode cX2_tellStore 17 = .ok (.iconst 0, 1) := by decide +kernel
theorem dX2_tellStore_18 : decode cX2_tellStore 18 = .ok (.ireturn, 1) := by decide +kernel
theorem dX2_tellStore_19 : decode cX2_tellStore 19 = .ok (.aload_n 0, 1) := by decide +kernel
theorem dX2_tellStore_20 : decode cX2_tellStore 20 = .ok (.getfield 29, 3) := by decide +kernel
theorem dX2_tellStore_23 : decode cX2_tellStore 23 = .ok (.iload_n 1, 1) := by decide +kernel
theorem dX2_tellStore_24 : decode cX2_tellStore 24 = .ok (.iload_n 2, 1) := by decide +kernel
theorem dX2_tellStore_25 : decode cX2_tellStore 25 = .ok (.invokevirtual 92, 3) := by decide +kernel
theorem dX2_tellStore_28 : decode cX2_tellStore 28 = .ok (.iconst 1, 1) := by decide +kernel
theorem dX2_tellStore_29 : decode cX2_tellStore 29 = .ok (.ireturn, 1) := by decide +kernel
theorem dX2_tellOn_0 : decode cX2_tellOn 0 = .ok (.aload_n 0, 1) := by decide +kernel
theorem dX2_tellOn_1 : decode cX2_tellOn 1 = .ok (.getfield 22, 3) := by decide +kernel
theorem dX2_tellOn_4 : decode cX2_tellOn 4 = .ok (.iload_n 1, 1) := by decide +kernel
theorem dX2_tellOn_5 : decode cX2_tellOn 5 = .ok (.invokevirtual 96, 3) := by decide +kernel
theorem dX2_tellOn_8 : decode cX2_tellOn 8 = .ok (.ifCond .eq 17, 3) := by decide +kernel
theorem dX2_tellOn_11 : decode cX2_tellOn 11 = .ok (.iload_n 2, 1) := by decide +kernel
theorem dX2_tellOn_12 : decode cX2_tellOn 12 = .ok (.invokestatic 89, 3) := by decide +kernel
theorem dX2_tellOn_15 : decode cX2_tellOn 15 = .ok (.ifCond .eq 10, 3) := by decide +kernel
theorem dX2_tellOn_18 : decode cX2_tellOn 18 = .ok (.iload_n 3, 1) := by decide +kernel
theorem dX2_tellOn_19 : decode cX2_tellOn 19 = .ok (.invokestatic 99, 3) := by decide +kernel
theorem dX2_tellOn_22 : decode cX2_tellOn 22 = .ok (.ifCond .ne 5, 3) := by decide +kernel
theorem dX2_tellOn_25 : decode cX2_tellOn 25 = .ok (.iconst 0, 1) := by decide +kernel
theorem dX2_tellOn_26 : decode cX2_tellOn 26 = .ok (.ireturn, 1) := by decide +kernel
theorem dX2_tellOn_27 : decode cX2_tellOn 27 = .ok (.aload_n 0, 1) := by decide +kernel
theorem dX2_tellOn_28 : decode cX2_tellOn 28 = .ok (.getfield 29, 3) := by decide +kernel
theorem dX2_tellOn_31 : decode cX2_tellOn 31 = .ok (.iload_n 1, 1) := by decide +kernel
theorem dX2_tellOn_32 : decode cX2_tellOn 32 = .ok (.iload_n 2, 1) := by decide +kernel
theorem dX2_tellOn_33 : decode cX2_tellOn 33 = .ok (.iload_n 3, 1) := by decide +kernel
theorem dX2_tellOn_34 : decode cX2_tellOn 34 = .ok (.invokevirtual 102, 3) := by decide +kernel
theorem dX2_tellOn_37 : decode cX2_tellOn 37 = .ok (.iconst 1, 1) := by decide +kernel
theorem dX2_tellOn_38 : decode cX2_tellOn 38 = .ok (.ireturn, 1) := by decide +kernel
theorem dX3_init_0 : decode cX3_init 0 = .ok (.aload_n 0, 1) := by decide +kernel
theorem dX3_init_1 : decode cX3_init 1 = .ok (.invokespecial 3, 3) := by decide +kernel
theorem dX3_init_4 : decode cX3_init 4 = .ok (.aload_n 0, 1) := by decide +kernel
theorem dX3_init_5 : decode cX3_init 5 = .ok (.bipush 42, 2) := by decide +kernel
theorem dX3_init_7 : decode cX3_init 7 = .ok (.newarray .int, 2) := by decide +kernel
theorem dX3_init_9 : decode cX3_init 9 = .ok (.putfield 9, 3) := by decide +kernel
theorem dX3_init_12 : decode cX3_init 12 = .ok (.return_, 1) := by decide +kernel
theorem dX3_clear_0 : decode cX3_clear 0 = .ok (.aload_n 0, 1) := by decide +kernel
theorem dX3_clear_1 : decode cX3_clear 1 = .ok (.getfield 9, 3) := by decide +kernel
theorem dX3_clear_4 : decode cX3_clear 4 = .ok (.iconst 0, 1) := by decide +kernel
theorem dX3_clear_5 : decode cX3_clear 5 = .ok (.invokestatic 15, 3) := by decide +kernel
theorem dX3_clear_8 : decode cX3_clear 8 = .ok (.aload_n 0, 1) := by decide +kernel
theorem dX3_clear_9 : decode cX3_clear 9 = .ok (.getfield 9, 3) := by decide +kernel
theorem dX3_clear_12 : decode cX3_clear 12 = .ok (.bipush 30, 2) := by decide +kernel
theorem dX3_clear_14 : decode cX3_clear 14 = .ok (.bipush 35, 2) := by decide +kernel
theorem dX3_clear_16 : decode cX3_clear 16 = .ok (.iconst 2, 1) := by decide +kernel
theorem dX3_clear_17 : decode cX3_clear 17 = .ok (.invokestatic 21, 3) := by decide +kernel
theorem dX3_clear_20 : decode cX3_clear 20 = .ok (.return_, 1) := by decide +kernel
theorem dX3_become_0 : decode cX3_become 0 = .ok (.aload_n 1, 1) := by decide +kernel
theorem dX3_become_1 : decode cX3_become 1 = .ok (.getfield 9, 3) := by decide +kernel
theorem dX3_become_4 : decode cX3_become 4 = .ok (.iconst 0, 1) := by decide +kernel
theorem dX3_become_5 : decode cX3_become 5 = .ok (.aload_n 0, 1) := by decide +kernel
theorem dX3_become_6 : decode cX3_become 6 = .ok (.getfield 9, 3) := by decide +kernel
theorem dX3_become_9 : decode cX3_become 9 = .ok (.iconst 0, 1) := by decide +kernel
theorem dX3_become_10 : decode cX3_become 10 = .ok (.bipush 42, 2) := by decide +kernel
theorem dX3_become_12 : decode cX3_become 12 = .ok (.invokestatic 24, 3) := by decide +kernel
theorem dX3_become_15 : decode cX3_become 15 = .ok (.return_, 1) := by decide +kernel
theorem dX3_pinsOn_0 : decode cX3_pinsOn 0 = .ok (.iload_n 1, 1) := by decide +kernel
theorem dX3_pinsOn_1 : decode cX3_pinsOn 1 = .ok (.iconst 5, 1) := by decide +kernel
theorem dX3_pinsOn_2 : decode cX3_pinsOn 2 = .ok (.imul, 1) := by decide +kernel
theorem dX3_pinsOn_3 : decode cX3_pinsOn 3 = .ok (.iload_n 2, 1) := by decide +kernel
theorem dX3_pinsOn_4 : decode cX3_pinsOn 4 = .ok (.iadd, 1) := by decide +kernel
theorem dX3_pinsOn_5 : decode cX3_pinsOn 5 = .ok (.istore_n 3, 1) := by decide +kernel
theorem dX3_pinsOn_6 : decode cX3_pinsOn 6 = .ok (.iload_n 3, 1) := by decide +kernel
theorem dX3_pinsOn_7 : decode cX3_pinsOn 7 = .ok (.ifCond .lt 18, 3) := by decide +kernel
theorem dX3_pinsOn_10 : decode cX3_pinsOn 10 = .ok (.iload_n 3, 1) := by decide +kernel
theorem dX3_pinsOn_11 : decode cX3_pinsOn 11 = .ok (.bipush 30, 2) := by decide +kernel
theorem dX3_pinsOn_13 : decode cX3_pinsOn 13 = .ok (.if_icmp .ge 12, 3) := by decide +kernel
theorem dX3_pinsOn_16 : decode cX3_pinsOn 16 = .ok (.aload_n 0, 1) := by decide +kernel
theorem dX3_pinsOn_17 : decode cX3_pinsOn 17 = .ok (.getfield 9, 3) := by decide +kernel
theorem dX3_pinsOn_20 : decode cX3_pinsOn 20 = .ok (.iload_n 3, 1) := by decide +kernel
theorem dX3_pinsOn_21 : decode cX3_pinsOn 21 = .ok (.iaload, 1) := by decide +kernel
theorem dX3_pinsOn_22 : decode cX3_pinsOn 22 = .ok (.goto 4, 3) := by decide +kernel
theorem dX3_pinsOn_25 : decode cX3_pinsOn 25 = .ok (.iconst 0, 1) := by decide +kernel
theorem dX3_pinsOn_26 : decode cX3_pinsOn 26 = .ok (.ireturn, 1) := by decide +kernel
theorem dX3_setPins_0 : decode cX3_setPins 0 = .ok (.iload_n 1, 1) := by decide +kernel
theorem dX3_setPins_1 : decode cX3_setPins 1 = .ok (.iconst 5, 1) := by decide +kernel
theorem dX3_setPins_2 : decode cX3_setPins 2 = .ok (.imul, 1) := by decide +kernel
theorem dX3_setPins_3 : decode cX3_setPins 3 = .ok (.iload_n 2, 1) := by decide +kernel
theorem dX3_setPins_4 : decode cX3_setPins 4 = .ok (.iadd, 1) := by decide +kernel
theorem dX3_setPins_5 : decode cX3_setPins 5 = .ok (.istore 4, 2) := by decide +kernel
theorem dX3_setPins_7 : decode cX3_setPins 7 = .ok (.iload 4, 2) := by decide +kernel
theorem dX3_setPins_9 : decode cX3_setPins 9 = .ok (.ifCond .lt 18, 3) := by decide +kernel
theorem dX3_setPins_12 : decode cX3_setPins 12 = .ok (.iload 4, 2) := by decide +kernel
theorem dX3_setPins_14 : decode cX3_setPins 14 = .ok (.bipush 30, 2) := by decide +kernel
theorem dX3_setPins_16 : decode cX3_setPins 16 = .ok (.if_icmp .ge 11, 3) := by decide +kernel
theorem dX3_setPins_19 : decode cX3_setPins 19 = .ok (.aload_n 0, 1) := by decide +kernel
theorem dX3_setPins_20 : decode cX3_setPins 20 = .ok (.getfield 9, 3) := by decide +kernel
theorem dX3_setPins_23 : decode cX3_setPins 23 = .ok (.iload 4, 2) := by decide +kernel
theorem dX3_setPins_25 : decode cX3_setPins 25 = .ok (.iload_n 3, 1) := by decide +kernel
theorem dX3_setPins_26 : decode cX3_setPins 26 = .ok (.iastore, 1) := by decide +kernel
theorem dX3_setPins_27 : decode cX3_setPins 27 = .ok (.return_, 1) := by decide +kernel
theorem dX3_isOn_0 : decode cX3_isOn 0 = .ok (.aload_n 0, 1) := by decide +kernel
theorem dX3_isOn_1 : decode cX3_isOn 1 = .ok (.iload_n 1, 1) := by decide +kernel
theorem dX3_isOn_2 : decode cX3_isOn 2 = .ok (.iload_n 2, 1) := by decide +kernel
theorem dX3_isOn_3 : decode cX3_isOn 3 = .ok (.invokevirtual 30, 3) := by decide +kernel
theorem dX3_isOn_6 : decode cX3_isOn 6 = .ok (.ifCond .le 7, 3) := by decide +kernel
theorem dX3_isOn_9 : decode cX3_isOn 9 = .ok (.iconst 1, 1) := by decide +kernel
theorem dX3_isOn_10 : decode cX3_isOn 10 = .ok (.goto 4, 3) := by decide +kernel
theorem dX3_isOn_13 : decode cX3_isOn 13 = .ok (.iconst 0, 1) := by decide +kernel
theorem dX3_isOn_14 : decode cX3_isOn 14 = .ok (.ireturn, 1) := by decide +kernel
theorem dX3_looksOf_0 : decode cX3_looksOf 0 = .ok (.iconst 0, 1) := by decide +kernel
theorem dX3_looksOf_1 : decode cX3_looksOf 1 = .ok (.istore_n 2, 1) := by decide +kernel
theorem dX3_looksOf_2 : decode cX3_looksOf 2 = .ok (.iconst 0, 1) := by decide +kernel
theorem dX3_looksOf_3 : decode cX3_looksOf 3 = .ok (.istore_n 3, 1) := by decide +kernel
theorem dX3_looksOf_4 : decode cX3_looksOf 4 = .ok (.iload_n 3, 1) := by decide +kernel
theorem dX3_looksOf_5 : decode cX3_looksOf 5 = .ok (.iconst 5, 1) := by decide +kernel
theorem dX3_looksOf_6 : decode cX3_looksOf 6 = .ok (.if_icmp .ge 24, 3) := by decide +kernel
theorem dX3_looksOf_9 : decode cX3_looksOf 9 = .ok (.aload_n 0, 1) := by decide +kernel
theorem dX3_looksOf_10 : decode cX3_looksOf 10 = .ok (.iload_n 1, 1) := by decide +kernel
theorem dX3_looksOf_11 : decode cX3_looksOf 11 = .ok (.iload_n 3, 1) := by decide +kernel
theorem dX3_looksOf_12 : decode cX3_looksOf 12 = .ok (.invokevirtual 34, 3) := by decide +kernel
theorem dX3_looksOf_15 : decode cX3_looksOf 15 = .ok (.ifCond .eq 9, 3) := by decide +kernel
theorem dX3_looksOf_18 : decode cX3_looksOf 18 = .ok (.iload_n 2, 1) := by decide +kernel
theorem dX3_looksOf_19 : decode cX3_looksOf 19 = .ok (.iconst 1, 1) := by decide +kernel
theorem dX3_looksOf_20 : decode cX3_looksOf 20 = .ok (.iload_n 3, 1) := by decide +kernel
theorem dX3_looksOf_21 : decode cX3_looksOf 21 = .ok (.ishl, 1) := by decide +kernel
theorem dX3_looksOf_22 : decode cX3_looksOf 22 = .ok (.ior, 1) := by decide +kernel
theorem dX3_looksOf_23 : decode cX3_looksOf 23 = .ok (.istore_n 2, 1) := by decide +kernel
theorem dX3_looksOf_24 : decode cX3_looksOf 24 = .ok (.iinc 3 1, 3) := by decide +kernel
theorem dX3_looksOf_27 : decode cX3_looksOf 27 = .ok (.goto (-23), 3) := by decide +kernel
theorem dX3_looksOf_30 : decode cX3_looksOf 30 = .ok (.iload_n 2, 1) := by decide +kernel
theorem dX3_looksOf_31 : decode cX3_looksOf 31 = .ok (.ireturn, 1) := by decide +kernel
theorem dX3_inStore_0 : decode cX3_inStore 0 = .ok (.iload_n 1, 1) := by decide +kernel
theorem dX3_inStore_1 : decode cX3_inStore 1 = .ok (.invokestatic 38, 3) := by decide +kernel
theorem dX3_inStore_4 : decode cX3_inStore 4 = .ok (.ifCond .eq 15, 3) := by decide +kernel
theorem dX3_inStore_7 : decode cX3_inStore 7 = .ok (.aload_n 0, 1) := by decide +kernel
theorem dX3_inStore_8 : decode cX3_inStore 8 = .ok (.getfield 9, 3) := by decide +kernel
theorem dX3_inStore_11 : decode cX3_inStore 11 = .ok (.bipush 30, 2) := by decide +kernel
theorem dX3_inStore_13 : decode cX3_inStore 13 = .ok (.iload_n 1, 1) := by decide +kernel
theorem dX3_inStore_14 : decode cX3_inStore 14 = .ok (.iadd, 1) := by decide +kernel
theorem dX3_inStore_15 : decode cX3_inStore 15 = .ok (.iaload, 1) := by decide +kernel
theorem dX3_inStore_16 : decode cX3_inStore 16 = .ok (.goto 4, 3) := by decide +kernel
theorem dX3_inStore_19 : decode cX3_inStore 19 = .ok (.iconst 0, 1) := by decide +kernel
theorem dX3_inStore_20 : decode cX3_inStore 20 = .ok (.ireturn, 1) := by decide +kernel
theorem dX3_setStore_0 : decode cX3_setStore 0 = .ok (.iload_n 1, 1) := by decide +kernel
theorem dX3_setStore_1 : decode cX3_setStore 1 = .ok (.invokestatic 38, 3) := by decide +kernel
theorem dX3_setStore_4 : decode cX3_setStore 4 = .ok (.ifCond .eq 13, 3) := by decide +kernel
theorem dX3_setStore_7 : decode cX3_setStore 7 = .ok (.aload_n 0, 1) := by decide +kernel
theorem dX3_setStore_8 : decode cX3_setStore 8 = .ok (.getfield 9, 3) := by decide +kernel
theorem dX3_setStore_11 : decode cX3_setStore 11 = .ok (.bipush 30, 2) := by decide +kernel
theorem dX3_setStore_13 : decode cX3_setStore 13 = .ok (.iload_n 1, 1) := by decide +kernel
theorem dX3_setStore_14 : decode cX3_setStore 14 = .ok (.iadd, 1) := by decide +kernel
theorem dX3_setStore_15 : decode cX3_setStore 15 = .ok (.iload_n 2, 1) := by decide +kernel
theorem dX3_setStore_16 : decode cX3_setStore 16 = .ok (.iastore, 1) := by decide +kernel
theorem dX3_setStore_17 : decode cX3_setStore 17 = .ok (.return_, 1) := by decide +kernel
theorem dX3_guideOf_0 : decode cX3_guideOf 0 = .ok (.iload_n 1, 1) := by decide +kernel
theorem dX3_guideOf_1 : decode cX3_guideOf 1 = .ok (.ifCond .lt 21, 3) := by decide +kernel
theorem dX3_guideOf_4 : decode cX3_guideOf 4 = .ok (.iload_n 1, 1) := by decide +kernel
theorem dX3_guideOf_5 : decode cX3_guideOf 5 = .ok (.bipush 6, 2) := by decide +kernel
theorem dX3_guideOf_7 : decode cX3_guideOf 7 = .ok (.if_icmp .ge 15, 3) := by decide +kernel
theorem dX3_guideOf_10 : decode cX3_guideOf 10 = .ok (.aload_n 0, 1) := by decide +kernel
theorem dX3_guideOf_11 : decode cX3_guideOf 11 = .ok (.getfield 9, 3) := by decide +kernel
theorem dX3_guideOf_14 : decode cX3_guideOf 14 = .ok (.bipush 35, 2) := by decide +kernel
theorem dX3_guideOf_16 : decode cX3_guideOf 16 = .ok (.iload_n 1, 1) := by decide +kernel
theorem dX3_guideOf_17 : decode cX3_guideOf 17 = .ok (.iadd, 1) := by decide +kernel
theorem dX3_guideOf_18 : decode cX3_guideOf 18 = .ok (.iaload, 1) := by decide +kernel
theorem dX3_guideOf_19 : decode cX3_guideOf 19 = .ok (.goto 4, 3) := by decide +kernel
theorem dX3_guideOf_22 : decode cX3_guideOf 22 = .ok (.iconst 0, 1) := by decide +kernel
theorem dX3_guideOf_23 : decode cX3_guideOf 23 = .ok (.ireturn, 1) := by decide +kernel
theorem dX3_makeGuides_0 : decode cX3_makeGuides 0 = .ok (.iconst 0, 1) := by decide +kernel
theorem dX3_makeGuides_1 : decode cX3_makeGuides 1 = .ok (.istore_n 1, 1) := by decide +kernel
theorem dX3_makeGuides_2 : decode cX3_makeGuides 2 = .ok (.iload_n 1, 1) := by decide +kernel
theorem dX3_makeGuides_3 : decode cX3_makeGuides 3 = .ok (.bipush 6, 2) := by decide +kernel
theorem dX3_makeGuides_5 : decode cX3_makeGuides 5 = .ok (.if_icmp .ge 23, 3) := by decide +kernel
theorem dX3_makeGuides_8 : decode cX3_makeGuides 8 = .ok (.aload_n 0, 1) := by decide +kernel
theorem dX3_makeGuides_9 : decode cX3_makeGuides 9 = .ok (.getfield 9, 3) := by decide +kernel
theorem dX3_makeGuides_12 : decode cX3_makeGuides 12 = .ok (.bipush 35, 2) := by decide +kernel
theorem dX3_makeGuides_14 : decode cX3_makeGuides 14 = .ok (.iload_n 1, 1) := by decide +kernel
theorem dX3_makeGuides_15 : decode cX3_makeGuides 15 = .ok (.iadd, 1) := by decide +kernel
theorem dX3_makeGuides_16 : decode cX3_makeGuides 16 = .ok (.aload_n 0, 1) := by decide +kernel
theorem dX3_makeGuides_17 : decode cX3_makeGuides 17 = .ok (.iload_n 1, 1) := by decide +kernel
theorem dX3_makeGuides_18 : decode cX3_makeGuides 18 = .ok (.invokevirtual 42, 3) := by decide +kernel
theorem dX3_makeGuides_21 : decode cX3_makeGuides 21 = .ok (.iastore, 1) := by decide +kernel
theorem dX3_makeGuides_22 : decode cX3_makeGuides 22 = .ok (.iinc 1 1, 3) := by decide +kernel
theorem dX3_makeGuides_25 : decode cX3_makeGuides 25 = .ok (.goto (-23), 3) := by decide +kernel
theorem dX3_makeGuides_28 : decode cX3_makeGuides 28 = .ok (.return_, 1) := by decide +kernel
theorem dX3_yearNow_0 : decode cX3_yearNow 0 = .ok (.aload_n 0, 1) := by decide +kernel
theorem dX3_yearNow_1 : decode cX3_yearNow 1 = .ok (.getfield 9, 3) := by decide +kernel
theorem dX3_yearNow_4 : decode cX3_yearNow 4 = .ok (.bipush 41, 2) := by decide +kernel
theorem dX3_yearNow_6 : decode cX3_yearNow 6 = .ok (.iaload, 1) := by decide +kernel
theorem dX3_yearNow_7 : decode cX3_yearNow 7 = .ok (.ireturn, 1) := by decide +kernel
theorem dX3_canPut_0 : decode cX3_canPut 0 = .ok (.iload_n 2, 1) := by decide +kernel
theorem dX3_canPut_1 : decode cX3_canPut 1 = .ok (.invokestatic 38, 3) := by decide +kernel
theorem dX3_canPut_4 : decode cX3_canPut 4 = .ok (.ifCond .eq 28, 3) := by decide +kernel
theorem dX3_canPut_7 : decode cX3_canPut 7 = .ok (.aload_n 0, 1) := by decide +kernel
theorem dX3_canPut_8 : decode cX3_canPut 8 = .ok (.iload_n 1, 1) := by decide +kernel
theorem dX3_canPut_9 : decode cX3_canPut 9 = .ok (.iload_n 2, 1) := by decide +kernel
theorem dX3_canPut_10 : decode cX3_canPut 10 = .ok (.invokevirtual 30, 3) := by decide +kernel
theorem dX3_canPut_13 : decode cX3_canPut 13 = .ok (.ifCond .ne 19, 3) := by decide +kernel
theorem dX3_canPut_16 : decode cX3_canPut 16 = .ok (.aload_n 0, 1) := by decide +kernel
theorem dX3_canPut_17 : decode cX3_canPut 17 = .ok (.getfield 9, 3) := by decide +kernel
theorem dX3_canPut_20 : decode cX3_canPut 20 = .ok (.bipush 30, 2) := by decide +kernel
theorem dX3_canPut_22 : decode cX3_canPut 22 = .ok (.iload_n 2, 1) := by decide +kernel
theorem dX3_canPut_23 : decode cX3_canPut 23 = .ok (.iadd, 1) := by decide +kernel
theorem dX3_canPut_24 : decode cX3_canPut 24 = .ok (.iaload, 1) := by decide +kernel
theorem dX3_canPut_25 : decode cX3_canPut 25 = .ok (.ifCond .le 7, 3) := by decide +kernel
theorem dX3_canPut_28 : decode cX3_canPut 28 = .ok (.iconst 1, 1) := by decide +kernel
theorem dX3_canPut_29 : decode cX3_canPut 29 = .ok (.goto 4, 3) := by decide +kernel
theorem dX3_canPut_32 : decode cX3_canPut 32 = .ok (.iconst 0, 1) := by decide +kernel
theorem dX3_canPut_33 : decode cX3_canPut 33 = .ok (.ireturn, 1) := by decide +kernel
theorem dX3_putOn_0 : decode cX3_putOn 0 = .ok (.aload_n 0, 1) := by decide +kernel
theorem dX3_putOn_1 : decode cX3_putOn 1 = .ok (.iload_n 1, 1) := by decide +kernel
theorem dX3_putOn_2 : decode cX3_putOn 2 = .ok (.iload_n 2, 1) := by decide +kernel
theorem dX3_putOn_3 : decode cX3_putOn 3 = .ok (.iload_n 3, 1) := by decide +kernel
theorem dX3_putOn_4 : decode cX3_putOn 4 = .ok (.invokevirtual 46, 3) := by decide +kernel
theorem dX3_putOn_7 : decode cX3_putOn 7 = .ok (.aload_n 0, 1) := by decide +kernel
theorem dX3_putOn_8 : decode cX3_putOn 8 = .ok (.iload_n 2, 1) := by decide +kernel
theorem dX3_putOn_9 : decode cX3_putOn 9 = .ok (.aload_n 0, 1) := by decide +kernel
theorem dX3_putOn_10 : decode cX3_putOn 10 = .ok (.iload_n 2, 1) := by decide +kernel
theorem dX3_putOn_11 : decode cX3_putOn 11 = .ok (.invokevirtual 50, 3) := by decide +kernel
theorem dX3_putOn_14 : decode cX3_putOn 14 = .ok (.iconst 1, 1) := by decide +kernel
theorem dX3_putOn_15 : decode cX3_putOn 15 = .ok (.isub, 1) := by decide +kernel
theorem dX3_putOn_16 : decode cX3_putOn 16 = .ok (.invokevirtual 53, 3) := by decide +kernel
theorem dX3_putOn_19 : decode cX3_putOn 19 = .ok (.return_, 1) := by decide +kernel
theorem dX3_takeOff_0 : decode cX3_takeOff 0 = .ok (.aload_n 0, 1) := by decide +kernel
theorem dX3_takeOff_1 : decode cX3_takeOff 1 = .ok (.iload_n 1, 1) := by decide +kernel
theorem dX3_takeOff_2 : decode cX3_takeOff 2 = .ok (.iload_n 2, 1) := by decide +kernel
theorem dX3_takeOff_3 : decode cX3_takeOff 3 = .ok (.iconst 0, 1) := by decide +kernel
theorem dX3_takeOff_4 : decode cX3_takeOff 4 = .ok (.invokevirtual 46, 3) := by decide +kernel
theorem dX3_takeOff_7 : decode cX3_takeOff 7 = .ok (.aload_n 0, 1) := by decide +kernel
theorem dX3_takeOff_8 : decode cX3_takeOff 8 = .ok (.iload_n 2, 1) := by decide +kernel
theorem dX3_takeOff_9 : decode cX3_takeOff 9 = .ok (.aload_n 0, 1) := by decide +kernel
theorem dX3_takeOff_10 : decode cX3_takeOff 10 = .ok (.iload_n 2, 1) := by decide +kernel
theorem dX3_takeOff_11 : decode cX3_takeOff 11 = .ok (.invokevirtual 50, 3) := by decide +kernel
theorem dX3_takeOff_14 : decode cX3_takeOff 14 = .ok (.iconst 1, 1) := by decide +kernel
theorem dX3_takeOff_15 : decode cX3_takeOff 15 = .ok (.iadd, 1) := by decide +kernel
theorem dX3_takeOff_16 : decode cX3_takeOff 16 = .ok (.invokevirtual 53, 3) := by decide +kernel
theorem dX3_takeOff_19 : decode cX3_takeOff 19 = .ok (.return_, 1) := by decide +kernel
theorem dX3_letYearGoBy_0 : decode cX3_letYearGoBy 0 = .ok (.aload_n 0, 1) := by decide +kernel
theorem dX3_letYearGoBy_1 : decode cX3_letYearGoBy 1 = .ok (.invokevirtual 57, 3) := by decide +kernel
theorem dX3_letYearGoBy_4 : decode cX3_letYearGoBy 4 = .ok (.aload_n 1, 1) := by decide +kernel
theorem dX3_letYearGoBy_5 : decode cX3_letYearGoBy 5 = .ok (.aload_n 0, 1) := by decide +kernel
theorem dX3_letYearGoBy_6 : decode cX3_letYearGoBy 6 = .ok (.invokevirtual 60, 3) := by decide +kernel
theorem dX3_letYearGoBy_9 : decode cX3_letYearGoBy 9 = .ok (.invokevirtual 64, 3) := by decide +kernel
theorem dX3_letYearGoBy_12 : decode cX3_letYearGoBy 12 = .ok (.istore_n 2, 1) := by decide +kernel
theorem dX3_letYearGoBy_13 : decode cX3_letYearGoBy 13 = .ok (.iconst 0, 1) := by decide +kernel
theorem dX3_letYearGoBy_14 : decode cX3_letYearGoBy 14 = .ok (.istore_n 3, 1) := by decide +kernel
theorem dX3_letYearGoBy_15 : decode cX3_letYearGoBy 15 = .ok (.iload_n 3, 1) := by decide +kernel
theorem dX3_letYearGoBy_16 : decode cX3_letYearGoBy 16 = .ok (.aload_n 1, 1) := by decide +kernel
theorem dX3_letYearGoBy_17 : decode cX3_letYearGoBy 17 = .ok (.getfield 69, 3) := by decide +kernel
theorem dX3_letYearGoBy_20 : decode cX3_letYearGoBy 20 = .ok (.if_icmp .ge 30, 3) := by decide +kernel
theorem dX3_letYearGoBy_23 : decode cX3_letYearGoBy 23 = .ok (.aload_n 0, 1) := by decide +kernel
theorem dX3_letYearGoBy_24 : decode cX3_letYearGoBy 24 = .ok (.getfield 9, 3) := by decide +kernel
theorem dX3_letYearGoBy_27 : decode cX3_letYearGoBy 27 = .ok (.iload_n 3, 1) := by decide +kernel
theorem dX3_letYearGoBy_28 : decode cX3_letYearGoBy 28 = .ok (.iconst 5, 1) := by decide +kernel
theorem dX3_letYearGoBy_29 : decode cX3_letYearGoBy 29 = .ok (.imul, 1) := by decide +kernel
theorem dX3_letYearGoBy_30 : decode cX3_letYearGoBy 30 = .ok (.aload_n 1, 1) := by decide +kernel
theorem dX3_letYearGoBy_31 : decode cX3_letYearGoBy 31 = .ok (.iload_n 3, 1) := by decide +kernel
theorem dX3_letYearGoBy_32 : decode cX3_letYearGoBy 32 = .ok (.iload_n 2, 1) := by decide +kernel
theorem dX3_letYearGoBy_33 : decode cX3_letYearGoBy 33 = .ok (.invokevirtual 73, 3) := by decide +kernel
theorem dX3_letYearGoBy_36 : decode cX3_letYearGoBy 36 = .ok (.aload_n 1, 1) := by decide +kernel
theorem dX3_letYearGoBy_37 : decode cX3_letYearGoBy 37 = .ok (.iload_n 3, 1) := by decide +kernel
theorem dX3_letYearGoBy_38 : decode cX3_letYearGoBy 38 = .ok (.invokevirtual 76, 3) := by decide +kernel
theorem dX3_letYearGoBy_41 : decode cX3_letYearGoBy 41 = .ok (.invokestatic 79, 3) := by decide +kernel
theorem dX3_letYearGoBy_44 : decode cX3_letYearGoBy 44 = .ok (.iinc 3 1, 3) := by decide +kernel
theorem dX3_letYearGoBy_47 : decode cX3_letYearGoBy 47 = .ok (.goto (-32), 3) := by decide +kernel
theorem dX3_letYearGoBy_50 : decode cX3_letYearGoBy 50 = .ok (.aload_n 0, 1) := by decide +kernel
theorem dX3_letYearGoBy_51 : decode cX3_letYearGoBy 51 = .ok (.getfield 9, 3) := by decide +kernel
theorem dX3_letYearGoBy_54 : decode cX3_letYearGoBy 54 = .ok (.bipush 41, 2) := by decide +kernel
theorem dX3_letYearGoBy_56 : decode cX3_letYearGoBy 56 = .ok (.dup2, 1) := by decide +kernel
theorem dX3_letYearGoBy_57 : decode cX3_letYearGoBy 57 = .ok (.iaload, 1) := by decide +kernel
theorem dX3_letYearGoBy_58 : decode cX3_letYearGoBy 58 = .ok (.iconst 1, 1) := by decide +kernel
theorem dX3_letYearGoBy_59 : decode cX3_letYearGoBy 59 = .ok (.iadd, 1) := by decide +kernel
theorem dX3_letYearGoBy_60 : decode cX3_letYearGoBy 60 = .ok (.iastore, 1) := by decide +kernel
theorem dX3_letYearGoBy_61 : decode cX3_letYearGoBy 61 = .ok (.return_, 1) := by decide +kernel
theorem dX3_trimmingsOn_0 : decode cX3_trimmingsOn 0 = .ok (.iconst 0, 1) := by decide +kernel
theorem dX3_trimmingsOn_1 : decode cX3_trimmingsOn 1 = .ok (.istore_n 1, 1) := by decide +kernel
theorem dX3_trimmingsOn_2 : decode cX3_trimmingsOn 2 = .ok (.iconst 0, 1) := by decide +kernel
theorem dX3_trimmingsOn_3 : decode cX3_trimmingsOn 3 = .ok (.istore_n 2, 1) := by decide +kernel
theorem dX3_trimmingsOn_4 : decode cX3_trimmingsOn 4 = .ok (.iload_n 2, 1) := by decide +kernel
theorem dX3_trimmingsOn_5 : decode cX3_trimmingsOn 5 = .ok (.bipush 6, 2) := by decide +kernel
theorem dX3_trimmingsOn_7 : decode cX3_trimmingsOn 7 = .ok (.if_icmp .ge 20, 3) := by decide +kernel
theorem dX3_trimmingsOn_10 : decode cX3_trimmingsOn 10 = .ok (.iload_n 1, 1) := by decide +kernel
theorem dX3_trimmingsOn_11 : decode cX3_trimmingsOn 11 = .ok (.aload_n 0, 1) := by decide +kernel
theorem dX3_trimmingsOn_12 : decode cX3_trimmingsOn 12 = .ok (.iload_n 2, 1) := by decide +kernel
theorem dX3_trimmingsOn_13 : decode cX3_trimmingsOn 13 = .ok (.invokevirtual 42, 3) := by decide +kernel
theorem dX3_trimmingsOn_16 : decode cX3_trimmingsOn 16 = .ok (.invokestatic 83, 3) := by decide +kernel
theorem dX3_trimmingsOn_19 : decode cX3_trimmingsOn 19 = .ok (.iadd, 1) := by decide +kernel
theorem dX3_trimmingsOn_20 : decode cX3_trimmingsOn 20 = .ok (.istore_n 1, 1) := by decide +kernel
theorem dX3_trimmingsOn_21 : decode cX3_trimmingsOn 21 = .ok (.iinc 2 1, 3) := by decide +kernel
theorem dX3_trimmingsOn_24 : decode cX3_trimmingsOn 24 = .ok (.goto (-20), 3) := by decide +kernel
theorem dX3_trimmingsOn_27 : decode cX3_trimmingsOn 27 = .ok (.iload_n 1, 1) := by decide +kernel
theorem dX3_trimmingsOn_28 : decode cX3_trimmingsOn 28 = .ok (.ireturn, 1) := by decide +kernel
theorem dX3_sumOf_0 : decode cX3_sumOf 0 = .ok (.iconst 0, 1) := by decide +kernel
theorem dX3_sumOf_1 : decode cX3_sumOf 1 = .ok (.istore_n 3, 1) := by decide +kernel
theorem dX3_sumOf_2 : decode cX3_sumOf 2 = .ok (.iconst 0, 1) := by decide +kernel
theorem dX3_sumOf_3 : decode cX3_sumOf 3 = .ok (.iload_n 1, 1) := by decide +kernel
theorem dX3_sumOf_4 : decode cX3_sumOf 4 = .ok (.invokestatic 88, 3) := by decide +kernel
theorem dX3_sumOf_7 : decode cX3_sumOf 7 = .ok (.istore 4, 2) := by decide +kernel
theorem dX3_sumOf_9 : decode cX3_sumOf 9 = .ok (.iload 4, 2) := by decide +kernel
theorem dX3_sumOf_11 : decode cX3_sumOf 11 = .ok (.iload_n 1, 1) := by decide +kernel
theorem dX3_sumOf_12 : decode cX3_sumOf 12 = .ok (.iload_n 2, 1) := by decide +kernel
theorem dX3_sumOf_13 : decode cX3_sumOf 13 = .ok (.iadd, 1) := by decide +kernel
theorem dX3_sumOf_14 : decode cX3_sumOf 14 = .ok (.if_icmp .ge 26, 3) := by decide +kernel
theorem dX3_sumOf_17 : decode cX3_sumOf 17 = .ok (.iload 4, 2) := by decide +kernel
theorem dX3_sumOf_19 : decode cX3_sumOf 19 = .ok (.bipush 42, 2) := by decide +kernel
theorem dX3_sumOf_21 : decode cX3_sumOf 21 = .ok (.if_icmp .ge 19, 3) := by decide +kernel
theorem dX3_sumOf_24 : decode cX3_sumOf 24 = .ok (.iload_n 3, 1) := by decide +kernel
theorem dX3_sumOf_25 : decode cX3_sumOf 25 = .ok (.aload_n 0, 1) := by decide +kernel
theorem dX3_sumOf_26 : decode cX3_sumOf 26 = .ok (.getfield 9, 3) := by decide +kernel
theorem dX3_sumOf_29 : decode cX3_sumOf 29 = .ok (.iload 4, 2) := by decide +kernel
theorem dX3_sumOf_31 : decode cX3_sumOf 31 = .ok (.iaload, 1) := by decide +kernel
theorem dX3_sumOf_32 : decode cX3_sumOf 32 = .ok (.iadd, 1) := by decide +kernel
theorem dX3_sumOf_33 : decode cX3_sumOf 33 = .ok (.istore_n 3, 1) := by decide +kernel
theorem dX3_sumOf_34 : decode cX3_sumOf 34 = .ok (.iinc 4 1, 3) := by decide +kernel
theorem dX3_sumOf_37 : decode cX3_sumOf 37 = .ok (.goto (-28), 3) := by decide +kernel
theorem dX3_sumOf_40 : decode cX3_sumOf 40 = .ok (.iload_n 3, 1) := by decide +kernel
theorem dX3_sumOf_41 : decode cX3_sumOf 41 = .ok (.ireturn, 1) := by decide +kernel
theorem dX4_init_0 : decode cX4_init 0 = .ok (.aload_n 0, 1) := by decide +kernel
theorem dX4_init_1 : decode cX4_init 1 = .ok (.invokespecial 1, 3) := by decide +kernel
theorem dX4_init_4 : decode cX4_init 4 = .ok (.aload_n 0, 1) := by decide +kernel
theorem dX4_init_5 : decode cX4_init 5 = .ok (.new 7, 3) := by decide +kernel
theorem dX4_init_8 : decode cX4_init 8 = .ok (.dup, 1) := by decide +kernel
theorem dX4_init_9 : decode cX4_init 9 = .ok (.invokespecial 9, 3) := by decide +kernel
theorem dX4_init_12 : decode cX4_init 12 = .ok (.putfield 10, 3) := by decide +kernel
theorem dX4_init_15 : decode cX4_init 15 = .ok (.aload_n 0, 1) := by decide +kernel
theorem dX4_init_16 : decode cX4_init 16 = .ok (.new 16, 3) := by decide +kernel
theorem dX4_init_19 : decode cX4_init 19 = .ok (.dup, 1) := by decide +kernel
theorem dX4_init_20 : decode cX4_init 20 = .ok (.invokespecial 18, 3) := by decide +kernel
theorem dX4_init_23 : decode cX4_init 23 = .ok (.putfield 19, 3) := by decide +kernel
theorem dX4_init_26 : decode cX4_init 26 = .ok (.aload_n 0, 1) := by decide +kernel
theorem dX4_init_27 : decode cX4_init 27 = .ok (.new 23, 3) := by decide +kernel
theorem dX4_init_30 : decode cX4_init 30 = .ok (.dup, 1) := by decide +kernel
theorem dX4_init_31 : decode cX4_init 31 = .ok (.invokespecial 25, 3) := by decide +kernel
theorem dX4_init_34 : decode cX4_init 34 = .ok (.putfield 26, 3) := by decide +kernel
theorem dX4_init_37 : decode cX4_init 37 = .ok (.aload_n 0, 1) := by decide +kernel
theorem dX4_init_38 : decode cX4_init 38 = .ok (.new 23, 3) := by decide +kernel
theorem dX4_init_41 : decode cX4_init 41 = .ok (.dup, 1) := by decide +kernel
theorem dX4_init_42 : decode cX4_init 42 = .ok (.invokespecial 25, 3) := by decide +kernel
theorem dX4_init_45 : decode cX4_init 45 = .ok (.putfield 30, 3) := by decide +kernel
theorem dX4_init_48 : decode cX4_init 48 = .ok (.aload_n 0, 1) := by decide +kernel
theorem dX4_init_49 : decode cX4_init 49 = .ok (.new 33, 3) := by decide +kernel
theorem dX4_init_52 : decode cX4_init 52 = .ok (.dup, 1) := by decide +kernel
theorem dX4_init_53 : decode cX4_init 53 = .ok (.bipush 8, 2) := by decide +kernel
theorem dX4_init_55 : decode cX4_init 55 = .ok (.invokespecial 35, 3) := by decide +kernel
theorem dX4_init_58 : decode cX4_init 58 = .ok (.putfield 38, 3) := by decide +kernel
theorem dX4_init_61 : decode cX4_init 61 = .ok (.aload_n 0, 1) := by decide +kernel
theorem dX4_init_62 : decode cX4_init 62 = .ok (.new 33, 3) := by decide +kernel
theorem dX4_init_65 : decode cX4_init 65 = .ok (.dup, 1) := by decide +kernel
theorem dX4_init_66 : decode cX4_init 66 = .ok (.iconst 2, 1) := by decide +kernel
theorem dX4_init_67 : decode cX4_init 67 = .ok (.invokespecial 35, 3) := by decide +kernel
theorem dX4_init_70 : decode cX4_init 70 = .ok (.putfield 42, 3) := by decide +kernel
theorem dX4_init_73 : decode cX4_init 73 = .ok (.aload_n 0, 1) := by decide +kernel
theorem dX4_init_74 : decode cX4_init 74 = .ok (.bipush 6, 2) := by decide +kernel
theorem dX4_init_76 : decode cX4_init 76 = .ok (.newarray .int, 2) := by decide +kernel
theorem dX4_init_78 : decode cX4_init 78 = .ok (.putfield 45, 3) := by decide +kernel
theorem dX4_init_81 : decode cX4_init 81 = .ok (.aload_n 0, 1) := by decide +kernel
theorem dX4_init_82 : decode cX4_init 82 = .ok (.iconst 2, 1) := by decide +kernel
theorem dX4_init_83 : decode cX4_init 83 = .ok (.newarray .int, 2) := by decide +kernel
theorem dX4_init_85 : decode cX4_init 85 = .ok (.putfield 49, 3) := by decide +kernel
theorem dX4_init_88 : decode cX4_init 88 = .ok (.aload_n 0, 1) := by decide +kernel
theorem dX4_init_89 : decode cX4_init 89 = .ok (.bipush 64, 2) := by decide +kernel
theorem dX4_init_91 : decode cX4_init 91 = .ok (.newarray .int, 2) := by decide +kernel
theorem dX4_init_93 : decode cX4_init 93 = .ok (.putfield 52, 3) := by decide +kernel
theorem dX4_init_96 : decode cX4_init 96 = .ok (.aload_n 0, 1) := by decide +kernel
theorem dX4_init_97 : decode cX4_init 97 = .ok (.bipush 45, 2) := by decide +kernel
theorem dX4_init_99 : decode cX4_init 99 = .ok (.newarray .int, 2) := by decide +kernel
theorem dX4_init_101 : decode cX4_init 101 = .ok (.putfield 55, 3) := by decide +kernel
theorem dX4_init_104 : decode cX4_init 104 = .ok (.aload_n 0, 1) := by decide +kernel
theorem dX4_init_105 : decode cX4_init 105 = .ok (.getfield 10, 3) := by decide +kernel
theorem dX4_init_108 : decode cX4_init 108 = .ok (.ldc 58, 2) := by decide +kernel
theorem dX4_init_110 : decode cX4_init 110 = .ok (.invokevirtual 60, 3) := by decide +kernel
theorem dX4_init_113 : decode cX4_init 113 = .ok (.aload_n 0, 1) := by decide +kernel
theorem dX4_init_114 : decode cX4_init 114 = .ok (.invokevirtual 64, 3) := by decide +kernel
theorem dX4_init_117 : decode cX4_init 117 = .ok (.pop, 1) := by decide +kernel
theorem dX4_init_118 : decode cX4_init 118 = .ok (.aload_n 0, 1) := by decide +kernel
theorem dX4_init_119 : decode cX4_init 119 = .ok (.getfield 10, 3) := by decide +kernel
theorem dX4_init_122 : decode cX4_init 122 = .ok (.iconst 0, 1) := by decide +kernel
theorem dX4_init_123 : decode cX4_init 123 = .ok (.putfield 68, 3) := by decide +kernel
theorem dX4_init_126 : decode cX4_init 126 = .ok (.return_, 1) := by decide +kernel
theorem dX4_write_0 : decode cX4_write 0 = .ok (.iload_n 1, 1) := by decide +kernel
theorem dX4_write_1 : decode cX4_write 1 = .ok (.bipush 32, 2) := by decide +kernel
theorem dX4_write_3 : decode cX4_write 3 = .ok (.if_icmp .lt 9, 3) := by decide +kernel
theorem dX4_write_6 : decode cX4_write 6 = .ok (.iload_n 1, 1) := by decide +kernel
theorem dX4_write_7 : decode cX4_write 7 = .ok (.bipush 126, 2) := by decide +kernel
theorem dX4_write_9 : decode cX4_write 9 = .ok (.if_icmp .le 5, 3) := by decide +kernel
theorem dX4_write_12 : decode cX4_write 12 = .ok (.iconst (-1), 1) := by decide +kernel
theorem dX4_write_13 : decode cX4_write 13 = .ok (.ireturn, 1) := by decide +kernel
theorem dX4_write_14 : decode cX4_write 14 = .ok (.aload_n 0, 1) := by decide +kernel
theorem dX4_write_15 : decode cX4_write 15 = .ok (.getfield 10, 3) := by decide +kernel
theorem dX4_write_18 : decode cX4_write 18 = .ok (.iload_n 1, 1) := by decide +kernel
theorem dX4_write_19 : decode cX4_write 19 = .ok (.i2c, 1) := by decide +kernel
theorem dX4_write_20 : decode cX4_write 20 = .ok (.invokevirtual 72, 3) := by decide +kernel
theorem dX4_write_23 : decode cX4_write 23 = .ok (.ifCond .eq 13, 3) := by decide +kernel
theorem dX4_write_26 : decode cX4_write 26 = .ok (.aload_n 0, 1) := by decide +kernel
theorem dX4_write_27 : decode cX4_write 27 = .ok (.getfield 10, 3) := by decide +kernel
theorem dX4_write_30 : decode cX4_write 30 = .ok (.getfield 68, 3) := by decide +kernel
theorem dX4_write_33 : decode cX4_write 33 = .ok (.goto 5, 3) := by decide +kernel
theorem dX4_write_36 : decode cX4_write 36 = .ok (.bipush (-3), 2) := by decide +kernel
theorem dX4_write_38 : decode cX4_write 38 = .ok (.ireturn, 1) := by decide +kernel
theorem dX4_wipe_0 : decode cX4_wipe 0 = .ok (.aload_n 0, 1) := by decide +kernel
theorem dX4_wipe_1 : decode cX4_wipe 1 = .ok (.getfield 10, 3) := by decide +kernel
theorem dX4_wipe_4 : decode cX4_wipe 4 = .ok (.getfield 68, 3) := by decide +kernel
theorem dX4_wipe_7 : decode cX4_wipe 7 = .ok (.istore_n 1, 1) := by decide +kernel
theorem dX4_wipe_8 : decode cX4_wipe 8 = .ok (.aload_n 0, 1) := by decide +kernel
theorem dX4_wipe_9 : decode cX4_wipe 9 = .ok (.getfield 10, 3) := by decide +kernel
theorem dX4_wipe_12 : decode cX4_wipe 12 = .ok (.iconst 0, 1) := by decide +kernel
theorem dX4_wipe_13 : decode cX4_wipe 13 = .ok (.putfield 68, 3) := by decide +kernel
theorem dX4_wipe_16 : decode cX4_wipe 16 = .ok (.iload_n 1, 1) := by decide +kernel
theorem dX4_wipe_17 : decode cX4_wipe 17 = .ok (.ireturn, 1) := by decide +kernel
theorem dX4_fault_0 : decode cX4_fault 0 = .ok (.aload_n 0, 1) := by decide +kernel
theorem dX4_fault_1 : decode cX4_fault 1 = .ok (.getfield 10, 3) := by decide +kernel
theorem dX4_fault_4 : decode cX4_fault 4 = .ok (.invokevirtual 76, 3) := by decide +kernel
theorem dX4_fault_7 : decode cX4_fault 7 = .ok (.ireturn, 1) := by decide +kernel
theorem dX4_lay_0 : decode cX4_lay 0 = .ok (.aload_n 0, 1) := by decide +kernel
theorem dX4_lay_1 : decode cX4_lay 1 = .ok (.invokevirtual 64, 3) := by decide +kernel
theorem dX4_lay_4 : decode cX4_lay 4 = .ok (.ifCond .eq 13, 3) := by decide +kernel
theorem dX4_lay_7 : decode cX4_lay 7 = .ok (.aload_n 0, 1) := by decide +kernel
theorem dX4_lay_8 : decode cX4_lay 8 = .ok (.getfield 19, 3) := by decide +kernel
theorem dX4_lay_11 : decode cX4_lay 11 = .ok (.getfield 80, 3) := by decide +kernel
theorem dX4_lay_14 : decode cX4_lay 14 = .ok (.goto 5, 3) := by decide +kernel
theorem dX4_lay_17 : decode cX4_lay 17 = .ok (.bipush (-2), 2) := by decide +kernel
theorem dX4_lay_19 : decode cX4_lay 19 = .ok (.ireturn, 1) := by decide +kernel
theorem dX4_peak_0 : decode cX4_peak 0 = .ok (.aload_n 0, 1) := by decide +kernel
theorem dX4_peak_1 : decode cX4_peak 1 = .ok (.getfield 19, 3) := by decide +kernel
theorem dX4_peak_4 : decode cX4_peak 4 = .ok (.iload_n 1, 1) := by decide +kernel
theorem dX4_peak_5 : decode cX4_peak 5 = .ok (.invokevirtual 83, 3) := by decide +kernel
theorem dX4_peak_8 : decode cX4_peak 8 = .ok (.ifCond .ne 5, 3) := by decide +kernel
theorem dX4_peak_11 : decode cX4_peak 11 = .ok (.iconst (-1), 1) := by decide +kernel
theorem dX4_peak_12 : decode cX4_peak 12 = .ok (.ireturn, 1) := by decide +kernel
theorem dX4_peak_13 : decode cX4_peak 13 = .ok (.iload_n 2, 1) := by decide +kernel
theorem dX4_peak_14 : decode cX4_peak 14 = .ok (.tableswitch 103 0 5 #[38, 47, 56, 65, 74, 97], 38) := by decide +kernel
theorem dX4_peak_52 : decode cX4_peak 52 = .ok (.aload_n 0, 1) := by decide +kernel
theorem dX4_peak_53 : decode cX4_peak 53 = .ok (.getfield 19, 3) := by decide +kernel
theorem dX4_peak_56 : decode cX4_peak 56 = .ok (.iload_n 1, 1) := by decide +kernel
theorem dX4_peak_57 : decode cX4_peak 57 = .ok (.invokevirtual 87, 3) := by decide +kernel
theorem dX4_peak_60 : decode cX4_peak 60 = .ok (.ireturn, 1) := by decide +kernel
theorem dX4_peak_61 : decode cX4_peak 61 = .ok (.aload_n 0, 1) := by decide +kernel
theorem dX4_peak_62 : decode cX4_peak 62 = .ok (.getfield 19, 3) := by decide +kernel
theorem dX4_peak_65 : decode cX4_peak 65 = .ok (.iload_n 1, 1) := by decide +kernel
theorem dX4_peak_66 : decode cX4_peak 66 = .ok (.invokevirtual 91, 3) := by decide +kernel
theorem dX4_peak_69 : decode cX4_peak 69 = .ok (.ireturn, 1) := by decide +kernel
theorem dX4_peak_70 : decode cX4_peak 70 = .ok (.aload_n 0, 1) := by decide +kernel
theorem dX4_peak_71 : decode cX4_peak 71 = .ok (.getfield 26, 3) := by decide +kernel
theorem dX4_peak_74 : decode cX4_peak 74 = .ok (.iload_n 1, 1) := by decide +kernel
theorem dX4_peak_75 : decode cX4_peak 75 = .ok (.invokevirtual 94, 3) := by decide +kernel
theorem dX4_peak_78 : decode cX4_peak 78 = .ok (.ireturn, 1) := by decide +kernel
theorem dX4_peak_79 : decode cX4_peak 79 = .ok (.aload_n 0, 1) := by decide +kernel
theorem dX4_peak_80 : decode cX4_peak 80 = .ok (.getfield 26, 3) := by decide +kernel
theorem dX4_peak_83 : decode cX4_peak 83 = .ok (.iload_n 1, 1) := by decide +kernel
theorem dX4_peak_84 : decode cX4_peak 84 = .ok (.invokevirtual 97, 3) := by decide +kernel
theorem dX4_peak_87 : decode cX4_peak 87 = .ok (.ireturn, 1) := by decide +kernel
theorem dX4_peak_88 : decode cX4_peak 88 = .ok (.aload_n 0, 1) := by decide +kernel
theorem dX4_peak_89 : decode cX4_peak 89 = .ok (.getfield 19, 3) := by decide +kernel
theorem dX4_peak_92 : decode cX4_peak 92 = .ok (.iload_n 1, 1) := by decide +kernel
theorem dX4_peak_93 : decode cX4_peak 93 = .ok (.aload_n 0, 1) := by decide +kernel
theorem dX4_peak_94 : decode cX4_peak 94 = .ok (.getfield 19, 3) := by decide +kernel
theorem dX4_peak_97 : decode cX4_peak 97 = .ok (.aload_n 0, 1) := by decide +kernel
theorem dX4_peak_98 : decode cX4_peak 98 = .ok (.getfield 26, 3) := by decide +kernel
theorem dX4_peak_101 : decode cX4_peak 101 = .ok (.invokevirtual 100, 3) := by decide +kernel
theorem dX4_peak_104 : decode cX4_peak 104 = .ok (.invokevirtual 103, 3) := by decide +kernel
theorem dX4_peak_107 : decode cX4_peak 107 = .ok (.invokevirtual 106, 3) := by decide +kernel
theorem dX4_peak_110 : decode cX4_peak 110 = .ok (.ireturn, 1) := by decide +kernel
theorem dX4_peak_111 : decode cX4_peak 111 = .ok (.aload_n 0, 1) := by decide +kernel
theorem dX4_peak_112 : decode cX4_peak 112 = .ok (.iload_n 1, 1) := by decide +kernel
theorem dX4_peak_113 : decode cX4_peak 113 = .ok (.invokevirtual 110, 3) := by decide +kernel
theorem dX4_peak_116 : decode cX4_peak 116 = .ok (.ireturn, 1) := by decide +kernel
theorem dX4_peak_117 : decode cX4_peak 117 = .ok (.iconst (-1), 1) := by decide +kernel
theorem dX4_peak_118 : decode cX4_peak 118 = .ok (.ireturn, 1) := by decide +kernel
theorem dX4_pins_0 : decode cX4_pins 0 = .ok (.aload_n 0, 1) := by decide +kernel
theorem dX4_pins_1 : decode cX4_pins 1 = .ok (.iload_n 1, 1) := by decide +kernel
theorem dX4_pins_2 : decode cX4_pins 2 = .ok (.iload_n 2, 1) := by decide +kernel
theorem dX4_pins_3 : decode cX4_pins 3 = .ok (.invokevirtual 113, 3) := by decide +kernel
theorem dX4_pins_6 : decode cX4_pins 6 = .ok (.ifCond .eq 15, 3) := by decide +kernel
theorem dX4_pins_9 : decode cX4_pins 9 = .ok (.aload_n 0, 1) := by decide +kernel
theorem dX4_pins_10 : decode cX4_pins 10 = .ok (.getfield 26, 3) := by decide +kernel
theorem dX4_pins_13 : decode cX4_pins 13 = .ok (.iload_n 1, 1) := by decide +kernel
theorem dX4_pins_14 : decode cX4_pins 14 = .ok (.iload_n 2, 1) := by decide +kernel
theorem dX4_pins_15 : decode cX4_pins 15 = .ok (.invokevirtual 117, 3) := by decide +kernel
theorem dX4_pins_18 : decode cX4_pins 18 = .ok (.goto 4, 3) := by decide +kernel
theorem dX4_pins_21 : decode cX4_pins 21 = .ok (.iconst (-1), 1) := by decide +kernel
theorem dX4_pins_22 : decode cX4_pins 22 = .ok (.ireturn, 1) := by decide +kernel
theorem dX4_store_0 : decode cX4_store 0 = .ok (.iload_n 1, 1) := by decide +kernel
theorem dX4_store_1 : decode cX4_store 1 = .ok (.invokestatic 120, 3) := by decide +kernel
theorem dX4_store_4 : decode cX4_store 4 = .ok (.ifCond .eq 14, 3) := by decide +kernel
theorem dX4_store_7 : decode cX4_store 7 = .ok (.aload_n 0, 1) := by decide +kernel
theorem dX4_store_8 : decode cX4_store 8 = .ok (.getfield 26, 3) := by decide +kernel
theorem dX4_store_11 : decode cX4_store 11 = .ok (.iload_n 1, 1) := by decide +kernel
theorem dX4_store_12 : decode cX4_store 12 = .ok (.invokevirtual 123, 3) := by decide +kernel
theorem dX4_store_15 : decode cX4_store 15 = .ok (.goto 4, 3) := by decide +kernel
theorem dX4_store_18 : decode cX4_store 18 = .ok (.iconst (-1), 1) := by decide +kernel
theorem dX4_store_19 : decode cX4_store 19 = .ok (.ireturn, 1) := by decide +kernel
theorem dX4_wind_0 : decode cX4_wind 0 = .ok (.iload_n 1, 1) := by decide +kernel
theorem dX4_wind_1 : decode cX4_wind 1 = .ok (.ifCond .lt 9, 3) := by decide +kernel
theorem dX4_wind_4 : decode cX4_wind 4 = .ok (.iload_n 1, 1) := by decide +kernel
theorem dX4_wind_5 : decode cX4_wind 5 = .ok (.bipush 99, 2) := by decide +kernel
theorem dX4_wind_7 : decode cX4_wind 7 = .ok (.if_icmp .le 5, 3) := by decide +kernel
theorem dX4_wind_10 : decode cX4_wind 10 = .ok (.iconst (-1), 1) := by decide +kernel
theorem dX4_wind_11 : decode cX4_wind 11 = .ok (.ireturn, 1) := by decide +kernel
theorem dX4_wind_12 : decode cX4_wind 12 = .ok (.aload_n 0, 1) := by decide +kernel
theorem dX4_wind_13 : decode cX4_wind 13 = .ok (.getfield 19, 3) := by decide +kernel
theorem dX4_wind_16 : decode cX4_wind 16 = .ok (.aload_n 0, 1) := by decide +kernel
theorem dX4_wind_17 : decode cX4_wind 17 = .ok (.getfield 26, 3) := by decide +kernel
theorem dX4_wind_20 : decode cX4_wind 20 = .ok (.invokevirtual 100, 3) := by decide +kernel
theorem dX4_wind_23 : decode cX4_wind 23 = .ok (.iload_n 1, 1) := by decide +kernel
theorem dX4_wind_24 : decode cX4_wind 24 = .ok (.iadd, 1) := by decide +kernel
theorem dX4_wind_25 : decode cX4_wind 25 = .ok (.invokevirtual 103, 3) := by decide +kernel
theorem dX4_wind_28 : decode cX4_wind 28 = .ok (.ireturn, 1) := by decide +kernel
theorem dX4_put_0 : decode cX4_put 0 = .ok (.aload_n 0, 1) := by decide +kernel
theorem dX4_put_1 : decode cX4_put 1 = .ok (.iload_n 1, 1) := by decide +kernel
theorem dX4_put_2 : decode cX4_put 2 = .ok (.iload_n 2, 1) := by decide +kernel
theorem dX4_put_3 : decode cX4_put 3 = .ok (.invokevirtual 113, 3) := by decide +kernel
theorem dX4_put_6 : decode cX4_put 6 = .ok (.ifCond .eq 10, 3) := by decide +kernel
theorem dX4_put_9 : decode cX4_put 9 = .ok (.iload_n 3, 1) := by decide +kernel
theorem dX4_put_10 : decode cX4_put 10 = .ok (.invokestatic 126, 3) := by decide +kernel
theorem dX4_put_13 : decode cX4_put 13 = .ok (.ifCond .ne 5, 3) := by decide +kernel
theorem dX4_put_16 : decode cX4_put 16 = .ok (.iconst (-1), 1) := by decide +kernel
theorem dX4_put_17 : decode cX4_put 17 = .ok (.ireturn, 1) := by decide +kernel
theorem dX4_put_18 : decode cX4_put 18 = .ok (.aload_n 0, 1) := by decide +kernel
theorem dX4_put_19 : decode cX4_put 19 = .ok (.getfield 26, 3) := by decide +kernel
theorem dX4_put_22 : decode cX4_put 22 = .ok (.iload_n 1, 1) := by decide +kernel
theorem dX4_put_23 : decode cX4_put 23 = .ok (.iload_n 2, 1) := by decide +kernel
theorem dX4_put_24 : decode cX4_put 24 = .ok (.invokevirtual 129, 3) := by decide +kernel
theorem dX4_put_27 : decode cX4_put 27 = .ok (.ifCond .ne 6, 3) := by decide +kernel
theorem dX4_put_30 : decode cX4_put 30 = .ok (.bipush (-2), 2) := by decide +kernel
theorem dX4_put_32 : decode cX4_put 32 = .ok (.ireturn, 1) := by decide +kernel
theorem dX4_put_33 : decode cX4_put 33 = .ok (.aload_n 0, 1) := by decide +kernel
theorem dX4_put_34 : decode cX4_put 34 = .ok (.getfield 38, 3) := by decide +kernel
theorem dX4_put_37 : decode cX4_put 37 = .ok (.aload_n 0, 1) := by decide +kernel
theorem dX4_put_38 : decode cX4_put 38 = .ok (.getfield 26, 3) := by decide +kernel
theorem dX4_put_41 : decode cX4_put 41 = .ok (.invokevirtual 132, 3) := by decide +kernel
theorem dX4_put_44 : decode cX4_put 44 = .ok (.aload_n 0, 1) := by decide +kernel
theorem dX4_put_45 : decode cX4_put 45 = .ok (.getfield 26, 3) := by decide +kernel
theorem dX4_put_48 : decode cX4_put 48 = .ok (.iload_n 1, 1) := by decide +kernel
theorem dX4_put_49 : decode cX4_put 49 = .ok (.iload_n 2, 1) := by decide +kernel
theorem dX4_put_50 : decode cX4_put 50 = .ok (.iload_n 3, 1) := by decide +kernel
theorem dX4_put_51 : decode cX4_put 51 = .ok (.invokevirtual 136, 3) := by decide +kernel
theorem dX4_put_54 : decode cX4_put 54 = .ok (.aload_n 0, 1) := by decide +kernel
theorem dX4_put_55 : decode cX4_put 55 = .ok (.getfield 26, 3) := by decide +kernel
theorem dX4_put_58 : decode cX4_put 58 = .ok (.iload_n 1, 1) := by decide +kernel
theorem dX4_put_59 : decode cX4_put 59 = .ok (.invokevirtual 94, 3) := by decide +kernel
theorem dX4_put_62 : decode cX4_put 62 = .ok (.ireturn, 1) := by decide +kernel
theorem dX4_take_0 : decode cX4_take 0 = .ok (.aload_n 0, 1) := by decide +kernel
theorem dX4_take_1 : decode cX4_take 1 = .ok (.iload_n 1, 1) := by decide +kernel
theorem dX4_take_2 : decode cX4_take 2 = .ok (.iload_n 2, 1) := by decide +kernel
theorem dX4_take_3 : decode cX4_take 3 = .ok (.invokevirtual 113, 3) := by decide +kernel
theorem dX4_take_6 : decode cX4_take 6 = .ok (.ifCond .ne 5, 3) := by decide +kernel
theorem dX4_take_9 : decode cX4_take 9 = .ok (.iconst (-1), 1) := by decide +kernel
theorem dX4_take_10 : decode cX4_take 10 = .ok (.ireturn, 1) := by decide +kernel
theorem dX4_take_11 : decode cX4_take 11 = .ok (.aload_n 0, 1) := by decide +kernel
theorem dX4_take_12 : decode cX4_take 12 = .ok (.getfield 26, 3) := by decide +kernel
theorem dX4_take_15 : decode cX4_take 15 = .ok (.iload_n 1, 1) := by decide +kernel
theorem dX4_take_16 : decode cX4_take 16 = .ok (.iload_n 2, 1) := by decide +kernel
theorem dX4_take_17 : decode cX4_take 17 = .ok (.invokevirtual 140, 3) := by decide +kernel
theorem dX4_take_20 : decode cX4_take 20 = .ok (.ifCond .ne 6, 3) := by decide +kernel
theorem dX4_take_23 : decode cX4_take 23 = .ok (.bipush (-2), 2) := by decide +kernel
theorem dX4_take_25 : decode cX4_take 25 = .ok (.ireturn, 1) := by decide +kernel
theorem dX4_take_26 : decode cX4_take 26 = .ok (.aload_n 0, 1) := by decide +kernel
theorem dX4_take_27 : decode cX4_take 27 = .ok (.getfield 38, 3) := by decide +kernel
theorem dX4_take_30 : decode cX4_take 30 = .ok (.aload_n 0, 1) := by decide +kernel
theorem dX4_take_31 : decode cX4_take 31 = .ok (.getfield 26, 3) := by decide +kernel
theorem dX4_take_34 : decode cX4_take 34 = .ok (.invokevirtual 132, 3) := by decide +kernel
theorem dX4_take_37 : decode cX4_take 37 = .ok (.aload_n 0, 1) := by decide +kernel
theorem dX4_take_38 : decode cX4_take 38 = .ok (.getfield 26, 3) := by decide +kernel
theorem dX4_take_41 : decode cX4_take 41 = .ok (.iload_n 1, 1) := by decide +kernel
theorem dX4_take_42 : decode cX4_take 42 = .ok (.iload_n 2, 1) := by decide +kernel
theorem dX4_take_43 : decode cX4_take 43 = .ok (.invokevirtual 143, 3) := by decide +kernel
theorem dX4_take_46 : decode cX4_take 46 = .ok (.aload_n 0, 1) := by decide +kernel
theorem dX4_take_47 : decode cX4_take 47 = .ok (.getfield 26, 3) := by decide +kernel
theorem dX4_take_50 : decode cX4_take 50 = .ok (.iload_n 1, 1) := by decide +kernel
theorem dX4_take_51 : decode cX4_take 51 = .ok (.invokevirtual 94, 3) := by decide +kernel
theorem dX4_take_54 : decode cX4_take 54 = .ok (.ireturn, 1) := by decide +kernel
theorem dX4_pin_0 : decode cX4_pin 0 = .ok (.aload_n 0, 1) := by decide +kernel
theorem dX4_pin_1 : decode cX4_pin 1 = .ok (.iload_n 1, 1) := by decide +kernel
theorem dX4_pin_2 : decode cX4_pin 2 = .ok (.iload_n 2, 1) := by decide +kernel
theorem dX4_pin_3 : decode cX4_pin 3 = .ok (.invokevirtual 113, 3) := by decide +kernel
theorem dX4_pin_6 : decode cX4_pin 6 = .ok (.ifCond .eq 10, 3) := by decide +kernel
theorem dX4_pin_9 : decode cX4_pin 9 = .ok (.iload_n 3, 1) := by decide +kernel
theorem dX4_pin_10 : decode cX4_pin 10 = .ok (.invokestatic 126, 3) := by decide +kernel
theorem dX4_pin_13 : decode cX4_pin 13 = .ok (.ifCond .ne 5, 3) := by decide +kernel
theorem dX4_pin_16 : decode cX4_pin 16 = .ok (.iconst (-1), 1) := by decide +kernel
theorem dX4_pin_17 : decode cX4_pin 17 = .ok (.ireturn, 1) := by decide +kernel
theorem dX4_pin_18 : decode cX4_pin 18 = .ok (.aload_n 0, 1) := by decide +kernel
theorem dX4_pin_19 : decode cX4_pin 19 = .ok (.getfield 26, 3) := by decide +kernel
theorem dX4_pin_22 : decode cX4_pin 22 = .ok (.iload_n 1, 1) := by decide +kernel
theorem dX4_pin_23 : decode cX4_pin 23 = .ok (.iload_n 2, 1) := by decide +kernel
theorem dX4_pin_24 : decode cX4_pin 24 = .ok (.invokevirtual 140, 3) := by decide +kernel
theorem dX4_pin_27 : decode cX4_pin 27 = .ok (.ifCond .ne 6, 3) := by decide +kernel
theorem dX4_pin_30 : decode cX4_pin 30 = .ok (.bipush (-2), 2) := by decide +kernel
theorem dX4_pin_32 : decode cX4_pin 32 = .ok (.ireturn, 1) := by decide +kernel
theorem dX4_pin_33 : decode cX4_pin 33 = .ok (.aload_n 0, 1) := by decide +kernel
theorem dX4_pin_34 : decode cX4_pin 34 = .ok (.getfield 26, 3) := by decide +kernel
theorem dX4_pin_37 : decode cX4_pin 37 = .ok (.iload_n 1, 1) := by decide +kernel
theorem dX4_pin_38 : decode cX4_pin 38 = .ok (.iload_n 2, 1) := by decide +kernel
theorem dX4_pin_39 : decode cX4_pin 39 = .ok (.invokevirtual 117, 3) := by decide +kernel
theorem dX4_pin_42 : decode cX4_pin 42 = .ok (.istore 4, 2) := by decide +kernel
theorem dX4_pin_44 : decode cX4_pin 44 = .ok (.aload_n 0, 1) := by decide +kernel
theorem dX4_pin_45 : decode cX4_pin 45 = .ok (.getfield 38, 3) := by decide +kernel
theorem dX4_pin_48 : decode cX4_pin 48 = .ok (.aload_n 0, 1) := by decide +kernel
theorem dX4_pin_49 : decode cX4_pin 49 = .ok (.getfield 26, 3) := by decide +kernel
theorem dX4_pin_52 : decode cX4_pin 52 = .ok (.invokevirtual 132, 3) := by decide +kernel
theorem dX4_pin_55 : decode cX4_pin 55 = .ok (.aload_n 0, 1) := by decide +kernel
theorem dX4_pin_56 : decode cX4_pin 56 = .ok (.getfield 26, 3) := by decide +kernel
theorem dX4_pin_59 : decode cX4_pin 59 = .ok (.iload_n 1, 1) := by decide +kernel
theorem dX4_pin_60 : decode cX4_pin 60 = .ok (.iload_n 2, 1) := by decide +kernel
theorem dX4_pin_61 : decode cX4_pin 61 = .ok (.iload_n 3, 1) := by decide +kernel
theorem dX4_pin_62 : decode cX4_pin 62 = .ok (.invokevirtual 147, 3) := by decide +kernel
theorem dX4_pin_65 : decode cX4_pin 65 = .ok (.iload 4, 2) := by decide +kernel
theorem dX4_pin_67 : decode cX4_pin 67 = .ok (.ireturn, 1) := by decide +kernel
theorem dX4_pass_0 : decode cX4_pass 0 = .ok (.iload_n 1, 1) := by decide +kernel
theorem dX4_pass_1 : decode cX4_pass 1 = .ok (.iconst 1, 1) := by decide +kernel
theorem dX4_pass_2 : decode cX4_pass 2 = .ok (.if_icmp .lt 9, 3) := by decide +kernel
theorem dX4_pass_5 : decode cX4_pass 5 = .ok (.iload_n 1, 1) := by decide +kernel
theorem dX4_pass_6 : decode cX4_pass 6 = .ok (.bipush 20, 2) := by decide +kernel
theorem dX4_pass_8 : decode cX4_pass 8 = .ok (.if_icmp .le 5, 3) := by decide +kernel
theorem dX4_pass_11 : decode cX4_pass 11 = .ok (.iconst (-1), 1) := by decide +kernel
theorem dX4_pass_12 : decode cX4_pass 12 = .ok (.ireturn, 1) := by decide +kernel
theorem dX4_pass_13 : decode cX4_pass 13 = .ok (.aload_n 0, 1) := by decide +kernel
theorem dX4_pass_14 : decode cX4_pass 14 = .ok (.getfield 26, 3) := by decide +kernel
theorem dX4_pass_17 : decode cX4_pass 17 = .ok (.invokevirtual 100, 3) := by decide +kernel
theorem dX4_pass_20 : decode cX4_pass 20 = .ok (.iload_n 1, 1) := by decide +kernel
theorem dX4_pass_21 : decode cX4_pass 21 = .ok (.iadd, 1) := by decide +kernel
theorem dX4_pass_22 : decode cX4_pass 22 = .ok (.sipush 999, 3) := by decide +kernel
theorem dX4_pass_25 : decode cX4_pass 25 = .ok (.if_icmp .le 6, 3) := by decide +kernel
theorem dX4_pass_28 : decode cX4_pass 28 = .ok (.bipush (-2), 2) := by decide +kernel
theorem dX4_pass_30 : decode cX4_pass 30 = .ok (.ireturn, 1) := by decide +kernel
theorem dX4_pass_31 : decode cX4_pass 31 = .ok (.aload_n 0, 1) := by decide +kernel
theorem dX4_pass_32 : decode cX4_pass 32 = .ok (.getfield 38, 3) := by decide +kernel
theorem dX4_pass_35 : decode cX4_pass 35 = .ok (.aload_n 0, 1) := by decide +kernel
theorem dX4_pass_36 : decode cX4_pass 36 = .ok (.getfield 26, 3) := by decide +kernel
theorem dX4_pass_39 : decode cX4_pass 39 = .ok (.invokevirtual 132, 3) := by decide +kernel
theorem dX4_pass_42 : decode cX4_pass 42 = .ok (.aload_n 0, 1) := by decide +kernel
theorem dX4_pass_43 : decode cX4_pass 43 = .ok (.aload_n 0, 1) := by decide +kernel
theorem dX4_pass_44 : decode cX4_pass 44 = .ok (.getfield 26, 3) := by decide +kernel
theorem dX4_pass_47 : decode cX4_pass 47 = .ok (.iload_n 1, 1) := by decide +kernel
theorem dX4_pass_48 : decode cX4_pass 48 = .ok (.invokevirtual 150, 3) := by decide +kernel
theorem dX4_pass_51 : decode cX4_pass 51 = .ok (.aload_n 0, 1) := by decide +kernel
theorem dX4_pass_52 : decode cX4_pass 52 = .ok (.getfield 26, 3) := by decide +kernel
theorem dX4_pass_55 : decode cX4_pass 55 = .ok (.invokevirtual 100, 3) := by decide +kernel
theorem dX4_pass_58 : decode cX4_pass 58 = .ok (.ireturn, 1) := by decide +kernel
theorem dX4_undo_0 : decode cX4_undo 0 = .ok (.aload_n 0, 1) := by decide +kernel
theorem dX4_undo_1 : decode cX4_undo 1 = .ok (.getfield 38, 3) := by decide +kernel
theorem dX4_undo_4 : decode cX4_undo 4 = .ok (.aload_n 0, 1) := by decide +kernel
theorem dX4_undo_5 : decode cX4_undo 5 = .ok (.getfield 26, 3) := by decide +kernel
theorem dX4_undo_8 : decode cX4_undo 8 = .ok (.invokevirtual 154, 3) := by decide +kernel
theorem dX4_undo_11 : decode cX4_undo 11 = .ok (.ifCond .eq 13, 3) := by decide +kernel
theorem dX4_undo_14 : decode cX4_undo 14 = .ok (.aload_n 0, 1) := by decide +kernel
theorem dX4_undo_15 : decode cX4_undo 15 = .ok (.getfield 38, 3) := by decide +kernel
theorem dX4_undo_18 : decode cX4_undo 18 = .ok (.getfield 158, 3) := by decide +kernel
theorem dX4_undo_21 : decode cX4_undo 21 = .ok (.goto 5, 3) := by decide +kernel
theorem dX4_undo_24 : decode cX4_undo 24 = .ok (.bipush (-2), 2) := by decide +kernel
theorem dX4_undo_26 : decode cX4_undo 26 = .ok (.ireturn, 1) := by decide +kernel
theorem dX4_alike_0 : decode cX4_alike 0 = .ok (.iload_n 1, 1) := by decide +kernel
theorem dX4_alike_1 : decode cX4_alike 1 = .ok (.invokestatic 161, 3) := by decide +kernel
theorem dX4_alike_4 : decode cX4_alike 4 = .ok (.ifCond .ne 5, 3) := by decide +kernel
theorem dX4_alike_7 : decode cX4_alike 7 = .ok (.iconst (-1), 1) := by decide +kernel
theorem dX4_alike_8 : decode cX4_alike 8 = .ok (.ireturn, 1) := by decide +kernel
theorem dX4_alike_9 : decode cX4_alike 9 = .ok (.aload_n 0, 1) := by decide +kernel
theorem dX4_alike_10 : decode cX4_alike 10 = .ok (.aload_n 0, 1) := by decide +kernel
theorem dX4_alike_11 : decode cX4_alike 11 = .ok (.getfield 26, 3) := by decide +kernel
theorem dX4_alike_14 : decode cX4_alike 14 = .ok (.invokevirtual 164, 3) := by decide +kernel
theorem dX4_alike_17 : decode cX4_alike 17 = .ok (.iload_n 1, 1) := by decide +kernel
theorem dX4_alike_18 : decode cX4_alike 18 = .ok (.ifCond .ne 12, 3) := by decide +kernel
theorem dX4_alike_21 : decode cX4_alike 21 = .ok (.aload_n 0, 1) := by decide +kernel
theorem dX4_alike_22 : decode cX4_alike 22 = .ok (.bipush 31, 2) := by decide +kernel
theorem dX4_alike_24 : decode cX4_alike 24 = .ok (.invokevirtual 167, 3) := by decide +kernel
theorem dX4_alike_27 : decode cX4_alike 27 = .ok (.goto 7, 3) := by decide +kernel
theorem dX4_alike_30 : decode cX4_alike 30 = .ok (.aload_n 0, 1) := by decide +kernel
theorem dX4_alike_31 : decode cX4_alike 31 = .ok (.invokevirtual 170, 3) := by decide +kernel
theorem dX4_alike_34 : decode cX4_alike 34 = .ok (.ireturn, 1) := by decide +kernel
theorem dX4_known_0 : decode cX4_known 0 = .ok (.aload_n 0, 1) := by decide +kernel
theorem dX4_known_1 : decode cX4_known 1 = .ok (.getfield 19, 3) := by decide +kernel
theorem dX4_known_4 : decode cX4_known 4 = .ok (.iload_n 1, 1) := by decide +kernel
theorem dX4_known_5 : decode cX4_known 5 = .ok (.invokevirtual 83, 3) := by decide +kernel
theorem dX4_known_8 : decode cX4_known 8 = .ok (.ifCond .eq 18, 3) := by decide +kernel
theorem dX4_known_11 : decode cX4_known 11 = .ok (.aload_n 0, 1) := by decide +kernel
theorem dX4_known_12 : decode cX4_known 12 = .ok (.aload_n 0, 1) := by decide +kernel
theorem dX4_known_13 : decode cX4_known 13 = .ok (.getfield 26, 3) := by decide +kernel
theorem dX4_known_16 : decode cX4_known 16 = .ok (.iload_n 1, 1) := by decide +kernel
theorem dX4_known_17 : decode cX4_known 17 = .ok (.invokevirtual 97, 3) := by decide +kernel
theorem dX4_known_20 : decode cX4_known 20 = .ok (.invokevirtual 173, 3) := by decide +kernel
theorem dX4_known_23 : decode cX4_known 23 = .ok (.goto 4, 3) := by decide +kernel
theorem dX4_known_26 : decode cX4_known 26 = .ok (.iconst (-1), 1) := by decide +kernel
theorem dX4_known_27 : decode cX4_known 27 = .ok (.ireturn, 1) := by decide +kernel
theorem dX4_behind_0 : decode cX4_behind 0 = .ok (.iload_n 1, 1) := by decide +kernel
theorem dX4_behind_1 : decode cX4_behind 1 = .ok (.ifCond .lt 20, 3) := by decide +kernel
theorem dX4_behind_4 : decode cX4_behind 4 = .ok (.iload_n 1, 1) := by decide +kernel
theorem dX4_behind_5 : decode cX4_behind 5 = .ok (.bipush 20, 2) := by decide +kernel
theorem dX4_behind_7 : decode cX4_behind 7 = .ok (.if_icmp .gt 14, 3) := by decide +kernel
theorem dX4_behind_10 : decode cX4_behind 10 = .ok (.aload_n 0, 1) := by decide +kernel
theorem dX4_behind_11 : decode cX4_behind 11 = .ok (.getfield 19, 3) := by decide +kernel
theorem dX4_behind_14 : decode cX4_behind 14 = .ok (.iload_n 2, 1) := by decide +kernel
theorem dX4_behind_15 : decode cX4_behind 15 = .ok (.invokevirtual 83, 3) := by decide +kernel
theorem dX4_behind_18 : decode cX4_behind 18 = .ok (.ifCond .ne 5, 3) := by decide +kernel
theorem dX4_behind_21 : decode cX4_behind 21 = .ok (.iconst (-1), 1) := by decide +kernel
theorem dX4_behind_22 : decode cX4_behind 22 = .ok (.ireturn, 1) := by decide +kernel
theorem dX4_behind_23 : decode cX4_behind 23 = .ok (.aload_n 0, 1) := by decide +kernel
theorem dX4_behind_24 : decode cX4_behind 24 = .ok (.getfield 30, 3) := by decide +kernel
theorem dX4_behind_27 : decode cX4_behind 27 = .ok (.aload_n 0, 1) := by decide +kernel
theorem dX4_behind_28 : decode cX4_behind 28 = .ok (.getfield 26, 3) := by decide +kernel
theorem dX4_behind_31 : decode cX4_behind 31 = .ok (.invokevirtual 176, 3) := by decide +kernel
theorem dX4_behind_34 : decode cX4_behind 34 = .ok (.aload_n 0, 1) := by decide +kernel
theorem dX4_behind_35 : decode cX4_behind 35 = .ok (.aload_n 0, 1) := by decide +kernel
theorem dX4_behind_36 : decode cX4_behind 36 = .ok (.getfield 30, 3) := by decide +kernel
theorem dX4_behind_39 : decode cX4_behind 39 = .ok (.iload_n 1, 1) := by decide +kernel
theorem dX4_behind_40 : decode cX4_behind 40 = .ok (.invokevirtual 150, 3) := by decide +kernel
theorem dX4_behind_43 : decode cX4_behind 43 = .ok (.aload_n 0, 1) := by decide +kernel
theorem dX4_behind_44 : decode cX4_behind 44 = .ok (.getfield 30, 3) := by decide +kernel
theorem dX4_behind_47 : decode cX4_behind 47 = .ok (.iload_n 2, 1) := by decide +kernel
theorem dX4_behind_48 : decode cX4_behind 48 = .ok (.invokevirtual 94, 3) := by decide +kernel
theorem dX4_behind_51 : decode cX4_behind 51 = .ok (.ireturn, 1) := by decide +kernel
theorem dX4_goes_0 : decode cX4_goes 0 = .ok (.aload_n 0, 1) := by decide +kernel
theorem dX4_goes_1 : decode cX4_goes 1 = .ok (.iload_n 1, 1) := by decide +kernel
theorem dX4_goes_2 : decode cX4_goes 2 = .ok (.iload_n 2, 1) := by decide +kernel
theorem dX4_goes_3 : decode cX4_goes 3 = .ok (.invokevirtual 113, 3) := by decide +kernel
theorem dX4_goes_6 : decode cX4_goes 6 = .ok (.ifCond .ne 5, 3) := by decide +kernel
theorem dX4_goes_9 : decode cX4_goes 9 = .ok (.iconst (-1), 1) := by decide +kernel
theorem dX4_goes_10 : decode cX4_goes 10 = .ok (.ireturn, 1) := by decide +kernel
theorem dX4_goes_11 : decode cX4_goes 11 = .ok (.aload_n 0, 1) := by decide +kernel
theorem dX4_goes_12 : decode cX4_goes 12 = .ok (.getfield 26, 3) := by decide +kernel
theorem dX4_goes_15 : decode cX4_goes 15 = .ok (.iload_n 1, 1) := by decide +kernel
theorem dX4_goes_16 : decode cX4_goes 16 = .ok (.iload_n 2, 1) := by decide +kernel
theorem dX4_goes_17 : decode cX4_goes 17 = .ok (.invokevirtual 140, 3) := by decide +kernel
theorem dX4_goes_20 : decode cX4_goes 20 = .ok (.ifCond .ne 6, 3) := by decide +kernel
theorem dX4_goes_23 : decode cX4_goes 23 = .ok (.bipush (-2), 2) := by decide +kernel
theorem dX4_goes_25 : decode cX4_goes 25 = .ok (.ireturn, 1) := by decide +kernel
theorem dX4_goes_26 : decode cX4_goes 26 = .ok (.aload_n 0, 1) := by decide +kernel
theorem dX4_goes_27 : decode cX4_goes 27 = .ok (.getfield 30, 3) := by decide +kernel
theorem dX4_goes_30 : decode cX4_goes 30 = .ok (.aload_n 0, 1) := by decide +kernel
theorem dX4_goes_31 : decode cX4_goes 31 = .ok (.getfield 26, 3) := by decide +kernel
theorem dX4_goes_34 : decode cX4_goes 34 = .ok (.invokevirtual 176, 3) := by decide +kernel
theorem dX4_goes_37 : decode cX4_goes 37 = .ok (.iconst 1, 1) := by decide +kernel
theorem dX4_goes_38 : decode cX4_goes 38 = .ok (.istore_n 3, 1) := by decide +kernel
theorem dX4_goes_39 : decode cX4_goes 39 = .ok (.iload_n 3, 1) := by decide +kernel
theorem dX4_goes_40 : decode cX4_goes 40 = .ok (.bipush 60, 2) := by decide +kernel
theorem dX4_goes_42 : decode cX4_goes 42 = .ok (.if_icmp .gt 34, 3) := by decide +kernel
theorem dX4_goes_45 : decode cX4_goes 45 = .ok (.aload_n 0, 1) := by decide +kernel
theorem dX4_goes_46 : decode cX4_goes 46 = .ok (.getfield 30, 3) := by decide +kernel
theorem dX4_goes_49 : decode cX4_goes 49 = .ok (.aload_n 0, 1) := by decide +kernel
theorem dX4_goes_50 : decode cX4_goes 50 = .ok (.getfield 19, 3) := by decide +kernel
theorem dX4_goes_53 : decode cX4_goes 53 = .ok (.invokevirtual 179, 3) := by decide +kernel
theorem dX4_goes_56 : decode cX4_goes 56 = .ok (.aload_n 0, 1) := by decide +kernel
theorem dX4_goes_57 : decode cX4_goes 57 = .ok (.getfield 30, 3) := by decide +kernel
theorem dX4_goes_60 : decode cX4_goes 60 = .ok (.iload_n 1, 1) := by decide +kernel
theorem dX4_goes_61 : decode cX4_goes 61 = .ok (.iload_n 2, 1) := by decide +kernel
theorem dX4_goes_62 : decode cX4_goes 62 = .ok (.invokevirtual 140, 3) := by decide +kernel
theorem dX4_goes_65 : decode cX4_goes 65 = .ok (.ifCond .ne 5, 3) := by decide +kernel
theorem dX4_goes_68 : decode cX4_goes 68 = .ok (.iload_n 3, 1) := by decide +kernel
theorem dX4_goes_69 : decode cX4_goes 69 = .ok (.ireturn, 1) := by decide +kernel
theorem dX4_goes_70 : decode cX4_goes 70 = .ok (.iinc 3 1, 3) := by decide +kernel
theorem dX4_goes_73 : decode cX4_goes 73 = .ok (.goto (-34), 3) := by decide +kernel
theorem dX4_goes_76 : decode cX4_goes 76 = .ok (.bipush (-4), 2) := by decide +kernel
theorem dX4_goes_78 : decode cX4_goes 78 = .ok (.ireturn, 1) := by decide +kernel
theorem dX4_hold_0 : decode cX4_hold 0 = .ok (.iload_n 1, 1) := by decide +kernel
theorem dX4_hold_1 : decode cX4_hold 1 = .ok (.iconst 1, 1) := by decide +kernel
theorem dX4_hold_2 : decode cX4_hold 2 = .ok (.if_icmp .lt 9, 3) := by decide +kernel
theorem dX4_hold_5 : decode cX4_hold 5 = .ok (.iload_n 1, 1) := by decide +kernel
theorem dX4_hold_6 : decode cX4_hold 6 = .ok (.bipush 20, 2) := by decide +kernel
theorem dX4_hold_8 : decode cX4_hold 8 = .ok (.if_icmp .le 5, 3) := by decide +kernel
theorem dX4_hold_11 : decode cX4_hold 11 = .ok (.iconst (-1), 1) := by decide +kernel
theorem dX4_hold_12 : decode cX4_hold 12 = .ok (.ireturn, 1) := by decide +kernel
theorem dX4_hold_13 : decode cX4_hold 13 = .ok (.iconst 0, 1) := by decide +kernel
theorem dX4_hold_14 : decode cX4_hold 14 = .ok (.istore_n 2, 1) := by decide +kernel
theorem dX4_hold_15 : decode cX4_hold 15 = .ok (.iconst 0, 1) := by decide +kernel
theorem dX4_hold_16 : decode cX4_hold 16 = .ok (.istore_n 3, 1) := by decide +kernel
theorem dX4_hold_17 : decode cX4_hold 17 = .ok (.iload_n 3, 1) := by decide +kernel
theorem dX4_hold_18 : decode cX4_hold 18 = .ok (.aload_n 0, 1) := by decide +kernel
theorem dX4_hold_19 : decode cX4_hold 19 = .ok (.getfield 19, 3) := by decide +kernel
theorem dX4_hold_22 : decode cX4_hold 22 = .ok (.getfield 80, 3) := by decide +kernel
theorem dX4_hold_25 : decode cX4_hold 25 = .ok (.if_icmp .ge 18, 3) := by decide +kernel
theorem dX4_hold_28 : decode cX4_hold 28 = .ok (.iload_n 2, 1) := by decide +kernel
theorem dX4_hold_29 : decode cX4_hold 29 = .ok (.aload_n 0, 1) := by decide +kernel
theorem dX4_hold_30 : decode cX4_hold 30 = .ok (.iload_n 3, 1) := by decide +kernel
theorem dX4_hold_31 : decode cX4_hold 31 = .ok (.iload_n 1, 1) := by decide +kernel
theorem dX4_hold_32 : decode cX4_hold 32 = .ok (.invokevirtual 183, 3) := by decide +kernel
theorem dX4_hold_35 : decode cX4_hold 35 = .ok (.iadd, 1) := by decide +kernel
theorem dX4_hold_36 : decode cX4_hold 36 = .ok (.istore_n 2, 1) := by decide +kernel
theorem dX4_hold_37 : decode cX4_hold 37 = .ok (.iinc 3 1, 3) := by decide +kernel
theorem dX4_hold_40 : decode cX4_hold 40 = .ok (.goto (-23), 3) := by decide +kernel
theorem dX4_hold_43 : decode cX4_hold 43 = .ok (.iload_n 2, 1) := by decide +kernel
theorem dX4_hold_44 : decode cX4_hold 44 = .ok (.ireturn, 1) := by decide +kernel
theorem dX4_tell_0 : decode cX4_tell 0 = .ok (.iload_n 1, 1) := by decide +kernel
theorem dX4_tell_1 : decode cX4_tell 1 = .ok (.invokestatic 161, 3) := by decide +kernel
theorem dX4_tell_4 : decode cX4_tell 4 = .ok (.ifCond .ne 5, 3) := by decide +kernel
theorem dX4_tell_7 : decode cX4_tell 7 = .ok (.iconst (-1), 1) := by decide +kernel
theorem dX4_tell_8 : decode cX4_tell 8 = .ok (.ireturn, 1) := by decide +kernel
theorem dX4_tell_9 : decode cX4_tell 9 = .ok (.aload_n 0, 1) := by decide +kernel
theorem dX4_tell_10 : decode cX4_tell 10 = .ok (.invokevirtual 186, 3) := by decide +kernel
theorem dX4_tell_13 : decode cX4_tell 13 = .ok (.istore_n 2, 1) := by decide +kernel
theorem dX4_tell_14 : decode cX4_tell 14 = .ok (.iload_n 2, 1) := by decide +kernel
theorem dX4_tell_15 : decode cX4_tell 15 = .ok (.bipush (-4), 2) := by decide +kernel
theorem dX4_tell_17 : decode cX4_tell 17 = .ok (.if_icmp .ne 6, 3) := by decide +kernel
theorem dX4_tell_20 : decode cX4_tell 20 = .ok (.bipush (-4), 2) := by decide +kernel
theorem dX4_tell_22 : decode cX4_tell 22 = .ok (.ireturn, 1) := by decide +kernel
theorem dX4_tell_23 : decode cX4_tell 23 = .ok (.iload_n 1, 1) := by decide +kernel
theorem dX4_tell_24 : decode cX4_tell 24 = .ok (.ifCond .ne 10, 3) := by decide +kernel
theorem dX4_tell_27 : decode cX4_tell 27 = .ok (.iload_n 2, 1) := by decide +kernel
theorem dX4_tell_28 : decode cX4_tell 28 = .ok (.invokestatic 189, 3) := by decide +kernel
theorem dX4_tell_31 : decode cX4_tell 31 = .ok (.goto 4, 3) := by decide +kernel
theorem dX4_tell_34 : decode cX4_tell 34 = .ok (.iload_n 2, 1) := by decide +kernel
theorem dX4_tell_35 : decode cX4_tell 35 = .ok (.ireturn, 1) := by decide +kernel
theorem dX4_add_0 : decode cX4_add 0 = .ok (.iload_n 1, 1) := by decide +kernel
theorem dX4_add_1 : decode cX4_add 1 = .ok (.iconst (-1), 1) := by decide +kernel
theorem dX4_add_2 : decode cX4_add 2 = .ok (.if_icmp .lt 8, 3) := by decide +kernel
theorem dX4_add_5 : decode cX4_add 5 = .ok (.iload_n 1, 1) := by decide +kernel
theorem dX4_add_6 : decode cX4_add 6 = .ok (.iconst 1, 1) := by decide +kernel
theorem dX4_add_7 : decode cX4_add 7 = .ok (.if_icmp .le 5, 3) := by decide +kernel
theorem dX4_add_10 : decode cX4_add 10 = .ok (.iconst (-1), 1) := by decide +kernel
theorem dX4_add_11 : decode cX4_add 11 = .ok (.ireturn, 1) := by decide +kernel
theorem dX4_add_12 : decode cX4_add 12 = .ok (.aload_n 0, 1) := by decide +kernel
theorem dX4_add_13 : decode cX4_add 13 = .ok (.invokevirtual 194, 3) := by decide +kernel
theorem dX4_add_16 : decode cX4_add 16 = .ok (.istore_n 2, 1) := by decide +kernel
theorem dX4_add_17 : decode cX4_add 17 = .ok (.iload_n 2, 1) := by decide +kernel
theorem dX4_add_18 : decode cX4_add 18 = .ok (.bipush (-4), 2) := by decide +kernel
theorem dX4_add_20 : decode cX4_add 20 = .ok (.if_icmp .eq 8, 3) := by decide +kernel
theorem dX4_add_23 : decode cX4_add 23 = .ok (.iload_n 1, 1) := by decide +kernel
theorem dX4_add_24 : decode cX4_add 24 = .ok (.iconst (-1), 1) := by decide +kernel
theorem dX4_add_25 : decode cX4_add 25 = .ok (.if_icmp .ne 5, 3) := by decide +kernel
theorem dX4_add_28 : decode cX4_add 28 = .ok (.iload_n 2, 1) := by decide +kernel
theorem dX4_add_29 : decode cX4_add 29 = .ok (.ireturn, 1) := by decide +kernel
theorem dX4_add_30 : decode cX4_add 30 = .ok (.iload_n 1, 1) := by decide +kernel
theorem dX4_add_31 : decode cX4_add 31 = .ok (.iload_n 2, 1) := by decide +kernel
theorem dX4_add_32 : decode cX4_add 32 = .ok (.if_icmp .ge 15, 3) := by decide +kernel
theorem dX4_add_35 : decode cX4_add 35 = .ok (.aload_n 0, 1) := by decide +kernel
theorem dX4_add_36 : decode cX4_add 36 = .ok (.getfield 49, 3) := by decide +kernel
theorem dX4_add_39 : decode cX4_add 39 = .ok (.iload_n 1, 1) := by decide +kernel
theorem dX4_add_40 : decode cX4_add 40 = .ok (.iaload, 1) := by decide +kernel
theorem dX4_add_41 : decode cX4_add 41 = .ok (.invokestatic 197, 3) := by decide +kernel
theorem dX4_add_44 : decode cX4_add 44 = .ok (.goto 5, 3) := by decide +kernel
theorem dX4_add_47 : decode cX4_add 47 = .ok (.bipush (-4), 2) := by decide +kernel
theorem dX4_add_49 : decode cX4_add 49 = .ok (.ireturn, 1) := by decide +kernel
theorem dX4_say_0 : decode cX4_say 0 = .ok (.iload_n 1, 1) := by decide +kernel
theorem dX4_say_1 : decode cX4_say 1 = .ok (.invokestatic 120, 3) := by decide +kernel
theorem dX4_say_4 : decode cX4_say 4 = .ok (.ifCond .eq 10, 3) := by decide +kernel
theorem dX4_say_7 : decode cX4_say 7 = .ok (.iload_n 2, 1) := by decide +kernel
theorem dX4_say_8 : decode cX4_say 8 = .ok (.invokestatic 161, 3) := by decide +kernel
theorem dX4_say_11 : decode cX4_say 11 = .ok (.ifCond .ne 5, 3) := by decide +kernel
theorem dX4_say_14 : decode cX4_say 14 = .ok (.iconst (-1), 1) := by decide +kernel
theorem dX4_say_15 : decode cX4_say 15 = .ok (.ireturn, 1) := by decide +kernel
theorem dX4_say_16 : decode cX4_say 16 = .ok (.aload_n 0, 1) := by decide +kernel
theorem dX4_say_17 : decode cX4_say 17 = .ok (.getfield 200, 3) := by decide +kernel
theorem dX4_say_20 : decode cX4_say 20 = .ok (.bipush 6, 2) := by decide +kernel
theorem dX4_say_22 : decode cX4_say 22 = .ok (.if_icmp .lt 6, 3) := by decide +kernel
theorem dX4_say_25 : decode cX4_say 25 = .ok (.bipush (-3), 2) := by decide +kernel
theorem dX4_say_27 : decode cX4_say 27 = .ok (.ireturn, 1) := by decide +kernel
theorem dX4_say_28 : decode cX4_say 28 = .ok (.iload_n 2, 1) := by decide +kernel
theorem dX4_say_29 : decode cX4_say 29 = .ok (.iconst 1, 1) := by decide +kernel
theorem dX4_say_30 : decode cX4_say 30 = .ok (.if_icmp .ne 18, 3) := by decide +kernel
theorem dX4_say_33 : decode cX4_say 33 = .ok (.aload_n 0, 1) := by decide +kernel
theorem dX4_say_34 : decode cX4_say 34 = .ok (.dup, 1) := by decide +kernel
theorem dX4_say_35 : decode cX4_say 35 = .ok (.getfield 203, 3) := by decide +kernel
theorem dX4_say_38 : decode cX4_say 38 = .ok (.iconst 1, 1) := by decide +kernel
theorem dX4_say_39 : decode cX4_say 39 = .ok (.iload_n 1, 1) := by decide +kernel
theorem dX4_say_40 : decode cX4_say 40 = .ok (.ishl, 1) := by decide +kernel
theorem dX4_say_41 : decode cX4_say 41 = .ok (.ior, 1) := by decide +kernel
theorem dX4_say_42 : decode cX4_say 42 = .ok (.putfield 203, 3) := by decide +kernel
theorem dX4_say_45 : decode cX4_say 45 = .ok (.goto 15, 3) := by decide +kernel
theorem dX4_say_48 : decode cX4_say 48 = .ok (.aload_n 0, 1) := by decide +kernel
theorem dX4_say_49 : decode cX4_say 49 = .ok (.dup, 1) := by decide +kernel
theorem dX4_say_50 : decode cX4_say 50 = .ok (.getfield 206, 3) := by decide +kernel
theorem dX4_say_53 : decode cX4_say 53 = .ok (.iconst 1, 1) := by decide +kernel
theorem dX4_say_54 : decode cX4_say 54 = .ok (.iload_n 1, 1) := by decide +kernel
theorem dX4_say_55 : decode cX4_say 55 = .ok (.ishl, 1) := by decide +kernel
theorem dX4_say_56 : decode cX4_say 56 = .ok (.ior, 1) := by decide +kernel
theorem dX4_say_57 : decode cX4_say 57 = .ok (.putfield 206, 3) := by decide +kernel
theorem dX4_say_60 : decode cX4_say 60 = .ok (.aload_n 0, 1) := by decide +kernel
theorem dX4_say_61 : decode cX4_say 61 = .ok (.dup, 1) := by decide +kernel
theorem dX4_say_62 : decode cX4_say 62 = .ok (.getfield 200, 3) := by decide +kernel
theorem dX4_say_65 : decode cX4_say 65 = .ok (.iconst 1, 1) := by decide +kernel
theorem dX4_say_66 : decode cX4_say 66 = .ok (.iadd, 1) := by decide +kernel
theorem dX4_say_67 : decode cX4_say 67 = .ok (.putfield 200, 3) := by decide +kernel
theorem dX4_say_70 : decode cX4_say 70 = .ok (.aload_n 0, 1) := by decide +kernel
theorem dX4_say_71 : decode cX4_say 71 = .ok (.getfield 200, 3) := by decide +kernel
theorem dX4_say_74 : decode cX4_say 74 = .ok (.ireturn, 1) := by decide +kernel
theorem dX4_forget_0 : decode cX4_forget 0 = .ok (.aload_n 0, 1) := by decide +kernel
theorem dX4_forget_1 : decode cX4_forget 1 = .ok (.getfield 200, 3) := by decide +kernel
theorem dX4_forget_4 : decode cX4_forget 4 = .ok (.istore_n 1, 1) := by decide +kernel
theorem dX4_forget_5 : decode cX4_forget 5 = .ok (.aload_n 0, 1) := by decide +kernel
theorem dX4_forget_6 : decode cX4_forget 6 = .ok (.iconst 0, 1) := by decide +kernel
theorem dX4_forget_7 : decode cX4_forget 7 = .ok (.putfield 203, 3) := by decide +kernel
theorem dX4_forget_10 : decode cX4_forget 10 = .ok (.aload_n 0, 1) := by decide +kernel
theorem dX4_forget_11 : decode cX4_forget 11 = .ok (.iconst 0, 1) := by decide +kernel
theorem dX4_forget_12 : decode cX4_forget 12 = .ok (.putfield 206, 3) := by decide +kernel
theorem dX4_forget_15 : decode cX4_forget 15 = .ok (.aload_n 0, 1) := by decide +kernel
theorem dX4_forget_16 : decode cX4_forget 16 = .ok (.iconst 0, 1) := by decide +kernel
theorem dX4_forget_17 : decode cX4_forget 17 = .ok (.putfield 200, 3) := by decide +kernel
theorem dX4_forget_20 : decode cX4_forget 20 = .ok (.iload_n 1, 1) := by decide +kernel
theorem dX4_forget_21 : decode cX4_forget 21 = .ok (.ireturn, 1) := by decide +kernel
theorem dX4_which_0 : decode cX4_which 0 = .ok (.iconst 0, 1) := by decide +kernel
theorem dX4_which_1 : decode cX4_which 1 = .ok (.istore_n 1, 1) := by decide +kernel
theorem dX4_which_2 : decode cX4_which 2 = .ok (.iconst 0, 1) := by decide +kernel
theorem dX4_which_3 : decode cX4_which 3 = .ok (.istore_n 2, 1) := by decide +kernel
theorem dX4_which_4 : decode cX4_which 4 = .ok (.iload_n 2, 1) := by decide +kernel
theorem dX4_which_5 : decode cX4_which 5 = .ok (.aload_n 0, 1) := by decide +kernel
theorem dX4_which_6 : decode cX4_which 6 = .ok (.getfield 19, 3) := by decide +kernel
theorem dX4_which_9 : decode cX4_which 9 = .ok (.getfield 80, 3) := by decide +kernel
theorem dX4_which_12 : decode cX4_which 12 = .ok (.if_icmp .ge 46, 3) := by decide +kernel
theorem dX4_which_15 : decode cX4_which 15 = .ok (.aload_n 0, 1) := by decide +kernel
theorem dX4_which_16 : decode cX4_which 16 = .ok (.getfield 26, 3) := by decide +kernel
theorem dX4_which_19 : decode cX4_which 19 = .ok (.iload_n 2, 1) := by decide +kernel
theorem dX4_which_20 : decode cX4_which 20 = .ok (.invokevirtual 94, 3) := by decide +kernel
theorem dX4_which_23 : decode cX4_which 23 = .ok (.istore_n 3, 1) := by decide +kernel
theorem dX4_which_24 : decode cX4_which 24 = .ok (.iload_n 3, 1) := by decide +kernel
theorem dX4_which_25 : decode cX4_which 25 = .ok (.aload_n 0, 1) := by decide +kernel
theorem dX4_which_26 : decode cX4_which 26 = .ok (.getfield 203, 3) := by decide +kernel
theorem dX4_which_29 : decode cX4_which 29 = .ok (.iand, 1) := by decide +kernel
theorem dX4_which_30 : decode cX4_which 30 = .ok (.aload_n 0, 1) := by decide +kernel
theorem dX4_which_31 : decode cX4_which 31 = .ok (.getfield 203, 3) := by decide +kernel
theorem dX4_which_34 : decode cX4_which 34 = .ok (.if_icmp .ne 18, 3) := by decide +kernel
theorem dX4_which_37 : decode cX4_which 37 = .ok (.iload_n 3, 1) := by decide +kernel
theorem dX4_which_38 : decode cX4_which 38 = .ok (.aload_n 0, 1) := by decide +kernel
theorem dX4_which_39 : decode cX4_which 39 = .ok (.getfield 206, 3) := by decide +kernel
theorem dX4_which_42 : decode cX4_which 42 = .ok (.iand, 1) := by decide +kernel
theorem dX4_which_43 : decode cX4_which 43 = .ok (.ifCond .ne 9, 3) := by decide +kernel
theorem dX4_which_46 : decode cX4_which 46 = .ok (.iload_n 1, 1) := by decide +kernel
theorem dX4_which_47 : decode cX4_which 47 = .ok (.iconst 1, 1) := by decide +kernel
theorem dX4_which_48 : decode cX4_which 48 = .ok (.iload_n 2, 1) := by decide +kernel
theorem dX4_which_49 : decode cX4_which 49 = .ok (.ishl, 1) := by decide +kernel
theorem dX4_which_50 : decode cX4_which 50 = .ok (.ior, 1) := by decide +kernel
theorem dX4_which_51 : decode cX4_which 51 = .ok (.istore_n 1, 1) := by decide +kernel
theorem dX4_which_52 : decode cX4_which 52 = .ok (.iinc 2 1, 3) := by decide +kernel
theorem dX4_which_55 : decode cX4_which 55 = .ok (.goto (-51), 3) := by decide +kernel
theorem dX4_which_58 : decode cX4_which 58 = .ok (.iload_n 1, 1) := by decide +kernel
theorem dX4_which_59 : decode cX4_which 59 = .ok (.ireturn, 1) := by decide +kernel
theorem dX4_ask_0 : decode cX4_ask 0 = .ok (.iload_n 1, 1) := by decide +kernel
theorem dX4_ask_1 : decode cX4_ask 1 = .ok (.invokestatic 161, 3) := by decide +kernel
theorem dX4_ask_4 : decode cX4_ask 4 = .ok (.ifCond .ne 5, 3) := by decide +kernel
theorem dX4_ask_7 : decode cX4_ask 7 = .ok (.iconst (-1), 1) := by decide +kernel
theorem dX4_ask_8 : decode cX4_ask 8 = .ok (.ireturn, 1) := by decide +kernel
theorem dX4_ask_9 : decode cX4_ask 9 = .ok (.aload_n 0, 1) := by decide +kernel
theorem dX4_ask_10 : decode cX4_ask 10 = .ok (.invokevirtual 209, 3) := by decide +kernel
theorem dX4_ask_13 : decode cX4_ask 13 = .ok (.istore_n 2, 1) := by decide +kernel
theorem dX4_ask_14 : decode cX4_ask 14 = .ok (.iload_n 2, 1) := by decide +kernel
theorem dX4_ask_15 : decode cX4_ask 15 = .ok (.ifCond .ne 8, 3) := by decide +kernel
theorem dX4_ask_18 : decode cX4_ask 18 = .ok (.bipush (-4), 2) := by decide +kernel
theorem dX4_ask_20 : decode cX4_ask 20 = .ok (.goto 8, 3) := by decide +kernel
theorem dX4_ask_23 : decode cX4_ask 23 = .ok (.aload_n 0, 1) := by decide +kernel
theorem dX4_ask_24 : decode cX4_ask 24 = .ok (.iload_n 2, 1) := by decide +kernel
theorem dX4_ask_25 : decode cX4_ask 25 = .ok (.invokevirtual 212, 3) := by decide +kernel
theorem dX4_ask_28 : decode cX4_ask 28 = .ok (.istore_n 3, 1) := by decide +kernel
theorem dX4_ask_29 : decode cX4_ask 29 = .ok (.iload_n 3, 1) := by decide +kernel
theorem dX4_ask_30 : decode cX4_ask 30 = .ok (.bipush (-4), 2) := by decide +kernel
theorem dX4_ask_32 : decode cX4_ask 32 = .ok (.if_icmp .eq 7, 3) := by decide +kernel
theorem dX4_ask_35 : decode cX4_ask 35 = .ok (.iload_n 1, 1) := by decide +kernel
theorem dX4_ask_36 : decode cX4_ask 36 = .ok (.ifCond .ne 7, 3) := by decide +kernel
theorem dX4_ask_39 : decode cX4_ask 39 = .ok (.iload_n 3, 1) := by decide +kernel
theorem dX4_ask_40 : decode cX4_ask 40 = .ok (.goto 9, 3) := by decide +kernel
theorem dX4_ask_43 : decode cX4_ask 43 = .ok (.aload_n 0, 1) := by decide +kernel
theorem dX4_ask_44 : decode cX4_ask 44 = .ok (.iload_n 2, 1) := by decide +kernel
theorem dX4_ask_45 : decode cX4_ask 45 = .ok (.iload_n 3, 1) := by decide +kernel
theorem dX4_ask_46 : decode cX4_ask 46 = .ok (.invokevirtual 215, 3) := by decide +kernel
theorem dX4_ask_49 : decode cX4_ask 49 = .ok (.ireturn, 1) := by decide +kernel
theorem dX4_match_0 : decode cX4_match 0 = .ok (.iload_n 1, 1) := by decide +kernel
theorem dX4_match_1 : decode cX4_match 1 = .ok (.iconst (-1), 1) := by decide +kernel
theorem dX4_match_2 : decode cX4_match 2 = .ok (.if_icmp .eq 16, 3) := by decide +kernel
theorem dX4_match_5 : decode cX4_match 5 = .ok (.aload_n 0, 1) := by decide +kernel
theorem dX4_match_6 : decode cX4_match 6 = .ok (.getfield 19, 3) := by decide +kernel
theorem dX4_match_9 : decode cX4_match 9 = .ok (.iload_n 1, 1) := by decide +kernel
theorem dX4_match_10 : decode cX4_match 10 = .ok (.invokevirtual 83, 3) := by decide +kernel
theorem dX4_match_13 : decode cX4_match 13 = .ok (.ifCond .ne 5, 3) := by decide +kernel
theorem dX4_match_16 : decode cX4_match 16 = .ok (.iconst (-1), 1) := by decide +kernel
theorem dX4_match_17 : decode cX4_match 17 = .ok (.ireturn, 1) := by decide +kernel
theorem dX4_match_18 : decode cX4_match 18 = .ok (.aload_n 0, 1) := by decide +kernel
theorem dX4_match_19 : decode cX4_match 19 = .ok (.invokevirtual 218, 3) := by decide +kernel
theorem dX4_match_22 : decode cX4_match 22 = .ok (.iload_n 1, 1) := by decide +kernel
theorem dX4_match_23 : decode cX4_match 23 = .ok (.iconst (-1), 1) := by decide +kernel
theorem dX4_match_24 : decode cX4_match 24 = .ok (.if_icmp .ne 10, 3) := by decide +kernel
theorem dX4_match_27 : decode cX4_match 27 = .ok (.aload_n 0, 1) := by decide +kernel
theorem dX4_match_28 : decode cX4_match 28 = .ok (.getfield 52, 3) := by decide +kernel
theorem dX4_match_31 : decode cX4_match 31 = .ok (.iconst 0, 1) := by decide +kernel
theorem dX4_match_32 : decode cX4_match 32 = .ok (.iaload, 1) := by decide +kernel
theorem dX4_match_33 : decode cX4_match 33 = .ok (.ireturn, 1) := by decide +kernel
theorem dX4_match_34 : decode cX4_match 34 = .ok (.aload_n 0, 1) := by decide +kernel
theorem dX4_match_35 : decode cX4_match 35 = .ok (.getfield 52, 3) := by decide +kernel
theorem dX4_match_38 : decode cX4_match 38 = .ok (.iconst 0, 1) := by decide +kernel
theorem dX4_match_39 : decode cX4_match 39 = .ok (.iaload, 1) := by decide +kernel
theorem dX4_match_40 : decode cX4_match 40 = .ok (.ifCond .ne 8, 3) := by decide +kernel
theorem dX4_match_43 : decode cX4_match 43 = .ok (.bipush (-4), 2) := by decide +kernel
theorem dX4_match_45 : decode cX4_match 45 = .ok (.goto 8, 3) := by decide +kernel
theorem dX4_match_48 : decode cX4_match 48 = .ok (.aload_n 0, 1) := by decide +kernel
theorem dX4_match_49 : decode cX4_match 49 = .ok (.iload_n 1, 1) := by decide +kernel
theorem dX4_match_50 : decode cX4_match 50 = .ok (.invokevirtual 221, 3) := by decide +kernel
theorem dX4_match_53 : decode cX4_match 53 = .ok (.ireturn, 1) := by decide +kernel
theorem dX4_storms_0 : decode cX4_storms 0 = .ok (.aload_n 0, 1) := by decide +kernel
theorem dX4_storms_1 : decode cX4_storms 1 = .ok (.iload_n 1, 1) := by decide +kernel
theorem dX4_storms_2 : decode cX4_storms 2 = .ok (.iload_n 2, 1) := by decide +kernel
theorem dX4_storms_3 : decode cX4_storms 3 = .ok (.invokevirtual 113, 3) := by decide +kernel
theorem dX4_storms_6 : decode cX4_storms 6 = .ok (.ifCond .eq 33, 3) := by decide +kernel
theorem dX4_storms_9 : decode cX4_storms 9 = .ok (.iload_n 3, 1) := by decide +kernel
theorem dX4_storms_10 : decode cX4_storms 10 = .ok (.ifCond .lt 29, 3) := by decide +kernel
theorem dX4_storms_13 : decode cX4_storms 13 = .ok (.iload_n 3, 1) := by decide +kernel
theorem dX4_storms_14 : decode cX4_storms 14 = .ok (.bipush 8, 2) := by decide +kernel
theorem dX4_storms_16 : decode cX4_storms 16 = .ok (.if_icmp .gt 23, 3) := by decide +kernel
theorem dX4_storms_19 : decode cX4_storms 19 = .ok (.iload 4, 2) := by decide +kernel
theorem dX4_storms_21 : decode cX4_storms 21 = .ok (.ifCond .lt 18, 3) := by decide +kernel
theorem dX4_storms_24 : decode cX4_storms 24 = .ok (.iload 4, 2) := by decide +kernel
theorem dX4_storms_26 : decode cX4_storms 26 = .ok (.bipush 10, 2) := by decide +kernel
theorem dX4_storms_28 : decode cX4_storms 28 = .ok (.if_icmp .gt 11, 3) := by decide +kernel
theorem dX4_storms_31 : decode cX4_storms 31 = .ok (.iload 5, 2) := by decide +kernel
theorem dX4_storms_33 : decode cX4_storms 33 = .ok (.invokestatic 161, 3) := by decide +kernel
theorem dX4_storms_36 : decode cX4_storms 36 = .ok (.ifCond .ne 5, 3) := by decide +kernel
theorem dX4_storms_39 : decode cX4_storms 39 = .ok (.iconst (-1), 1) := by decide +kernel
theorem dX4_storms_40 : decode cX4_storms 40 = .ok (.ireturn, 1) := by decide +kernel
theorem dX4_storms_41 : decode cX4_storms 41 = .ok (.iconst 0, 1) := by decide +kernel
theorem dX4_storms_42 : decode cX4_storms 42 = .ok (.istore 6, 2) := by decide +kernel
theorem dX4_storms_44 : decode cX4_storms 44 = .ok (.iload 6, 2) := by decide +kernel
theorem dX4_storms_46 : decode cX4_storms 46 = .ok (.iconst 5, 1) := by decide +kernel
theorem dX4_storms_47 : decode cX4_storms 47 = .ok (.if_icmp .ge 26, 3) := by decide +kernel
theorem dX4_storms_50 : decode cX4_storms 50 = .ok (.aload_n 0, 1) := by decide +kernel
theorem dX4_storms_51 : decode cX4_storms 51 = .ok (.getfield 55, 3) := by decide +kernel
theorem dX4_storms_54 : decode cX4_storms 54 = .ok (.iload 6, 2) := by decide +kernel
theorem dX4_storms_56 : decode cX4_storms 56 = .ok (.aload_n 0, 1) := by decide +kernel
theorem dX4_storms_57 : decode cX4_storms 57 = .ok (.getfield 26, 3) := by decide +kernel
theorem dX4_storms_60 : decode cX4_storms 60 = .ok (.iload_n 1, 1) := by decide +kernel
theorem dX4_storms_61 : decode cX4_storms 61 = .ok (.iload 6, 2) := by decide +kernel
theorem dX4_storms_63 : decode cX4_storms 63 = .ok (.invokevirtual 117, 3) := by decide +kernel
theorem dX4_storms_66 : decode cX4_storms 66 = .ok (.iastore, 1) := by decide +kernel
theorem dX4_storms_67 : decode cX4_storms 67 = .ok (.iinc 6 1, 3) := by decide +kernel
theorem dX4_storms_70 : decode cX4_storms 70 = .ok (.goto (-26), 3) := by decide +kernel
theorem dX4_storms_73 : decode cX4_storms 73 = .ok (.aload_n 0, 1) := by decide +kernel
theorem dX4_storms_74 : decode cX4_storms 74 = .ok (.iconst 0, 1) := by decide +kernel
theorem dX4_storms_75 : decode cX4_storms 75 = .ok (.iload_n 3, 1) := by decide +kernel
theorem dX4_storms_76 : decode cX4_storms 76 = .ok (.iload_n 1, 1) := by decide +kernel
theorem dX4_storms_77 : decode cX4_storms 77 = .ok (.iload_n 2, 1) := by decide +kernel
theorem dX4_storms_78 : decode cX4_storms 78 = .ok (.iload 4, 2) := by decide +kernel
theorem dX4_storms_80 : decode cX4_storms 80 = .ok (.invokevirtual 224, 3) := by decide +kernel
theorem dX4_storms_83 : decode cX4_storms 83 = .ok (.istore 6, 2) := by decide +kernel
theorem dX4_storms_85 : decode cX4_storms 85 = .ok (.iconst 1, 1) := by decide +kernel
theorem dX4_storms_86 : decode cX4_storms 86 = .ok (.istore 7, 2) := by decide +kernel
theorem dX4_storms_88 : decode cX4_storms 88 = .ok (.iconst 0, 1) := by decide +kernel
theorem dX4_storms_89 : decode cX4_storms 89 = .ok (.istore 8, 2) := by decide +kernel
theorem dX4_storms_91 : decode cX4_storms 91 = .ok (.iload 8, 2) := by decide +kernel
theorem dX4_storms_93 : decode cX4_storms 93 = .ok (.iload_n 3, 1) := by decide +kernel
theorem dX4_storms_94 : decode cX4_storms 94 = .ok (.if_icmp .ge 16, 3) := by decide +kernel
theorem dX4_storms_97 : decode cX4_storms 97 = .ok (.iload 7, 2) := by decide +kernel
theorem dX4_storms_99 : decode cX4_storms 99 = .ok (.bipush 10, 2) := by decide +kernel
theorem dX4_storms_101 : decode cX4_storms 101 = .ok (.imul, 1) := by decide +kernel
theorem dX4_storms_102 : decode cX4_storms 102 = .ok (.istore 7, 2) := by decide +kernel
theorem dX4_storms_104 : decode cX4_storms 104 = .ok (.iinc 8 1, 3) := by decide +kernel
theorem dX4_storms_107 : decode cX4_storms 107 = .ok (.goto (-16), 3) := by decide +kernel
theorem dX4_storms_110 : decode cX4_storms 110 = .ok (.iload 5, 2) := by decide +kernel
theorem dX4_storms_112 : decode cX4_storms 112 = .ok (.ifCond .ne 14, 3) := by decide +kernel
theorem dX4_storms_115 : decode cX4_storms 115 = .ok (.iload 6, 2) := by decide +kernel
theorem dX4_storms_117 : decode cX4_storms 117 = .ok (.iload 7, 2) := by decide +kernel
theorem dX4_storms_119 : decode cX4_storms 119 = .ok (.iload_n 3, 1) := by decide +kernel
theorem dX4_storms_120 : decode cX4_storms 120 = .ok (.invokestatic 228, 3) := by decide +kernel
theorem dX4_storms_123 : decode cX4_storms 123 = .ok (.goto 11, 3) := by decide +kernel
theorem dX4_storms_126 : decode cX4_storms 126 = .ok (.iload 7, 2) := by decide +kernel
theorem dX4_storms_128 : decode cX4_storms 128 = .ok (.iload 6, 2) := by decide +kernel
theorem dX4_storms_130 : decode cX4_storms 130 = .ok (.iload_n 3, 1) := by decide +kernel
theorem dX4_storms_131 : decode cX4_storms 131 = .ok (.invokestatic 228, 3) := by decide +kernel
theorem dX4_storms_134 : decode cX4_storms 134 = .ok (.ireturn, 1) := by decide +kernel
theorem dX4_century_0 : decode cX4_century 0 = .ok (.iload_n 1, 1) := by decide +kernel
theorem dX4_century_1 : decode cX4_century 1 = .ok (.ifCond .lt 28, 3) := by decide +kernel
theorem dX4_century_4 : decode cX4_century 4 = .ok (.iload_n 1, 1) := by decide +kernel
theorem dX4_century_5 : decode cX4_century 5 = .ok (.sipush 9999, 3) := by decide +kernel
theorem dX4_century_8 : decode cX4_century 8 = .ok (.if_icmp .gt 21, 3) := by decide +kernel
theorem dX4_century_11 : decode cX4_century 11 = .ok (.iload_n 2, 1) := by decide +kernel
theorem dX4_century_12 : decode cX4_century 12 = .ok (.iconst 1, 1) := by decide +kernel
theorem dX4_century_13 : decode cX4_century 13 = .ok (.if_icmp .lt 16, 3) := by decide +kernel
theorem dX4_century_16 : decode cX4_century 16 = .ok (.iload_n 2, 1) := by decide +kernel
theorem dX4_century_17 : decode cX4_century 17 = .ok (.bipush 60, 2) := by decide +kernel
theorem dX4_century_19 : decode cX4_century 19 = .ok (.if_icmp .gt 10, 3) := by decide +kernel
theorem dX4_century_22 : decode cX4_century 22 = .ok (.iload_n 3, 1) := by decide +kernel
theorem dX4_century_23 : decode cX4_century 23 = .ok (.invokestatic 161, 3) := by decide +kernel
theorem dX4_century_26 : decode cX4_century 26 = .ok (.ifCond .ne 5, 3) := by decide +kernel
theorem dX4_century_29 : decode cX4_century 29 = .ok (.iconst (-1), 1) := by decide +kernel
theorem dX4_century_30 : decode cX4_century 30 = .ok (.ireturn, 1) := by decide +kernel
theorem dX4_century_31 : decode cX4_century 31 = .ok (.aload_n 0, 1) := by decide +kernel
theorem dX4_century_32 : decode cX4_century 32 = .ok (.getfield 30, 3) := by decide +kernel
theorem dX4_century_35 : decode cX4_century 35 = .ok (.aload_n 0, 1) := by decide +kernel
theorem dX4_century_36 : decode cX4_century 36 = .ok (.getfield 26, 3) := by decide +kernel
theorem dX4_century_39 : decode cX4_century 39 = .ok (.invokevirtual 176, 3) := by decide +kernel
theorem dX4_century_42 : decode cX4_century 42 = .ok (.iconst 0, 1) := by decide +kernel
theorem dX4_century_43 : decode cX4_century 43 = .ok (.istore 4, 2) := by decide +kernel
theorem dX4_century_45 : decode cX4_century 45 = .ok (.iload 4, 2) := by decide +kernel
theorem dX4_century_47 : decode cX4_century 47 = .ok (.iload_n 2, 1) := by decide +kernel
theorem dX4_century_48 : decode cX4_century 48 = .ok (.if_icmp .ge 34, 3) := by decide +kernel
theorem dX4_century_51 : decode cX4_century 51 = .ok (.aload_n 0, 1) := by decide +kernel
theorem dX4_century_52 : decode cX4_century 52 = .ok (.aload_n 0, 1) := by decide +kernel
theorem dX4_century_53 : decode cX4_century 53 = .ok (.getfield 30, 3) := by decide +kernel
theorem dX4_century_56 : decode cX4_century 56 = .ok (.iload_n 1, 1) := by decide +kernel
theorem dX4_century_57 : decode cX4_century 57 = .ok (.iload 4, 2) := by decide +kernel
theorem dX4_century_59 : decode cX4_century 59 = .ok (.invokestatic 232, 3) := by decide +kernel
theorem dX4_century_62 : decode cX4_century 62 = .ok (.invokevirtual 235, 3) := by decide +kernel
theorem dX4_century_65 : decode cX4_century 65 = .ok (.aload_n 0, 1) := by decide +kernel
theorem dX4_century_66 : decode cX4_century 66 = .ok (.getfield 30, 3) := by decide +kernel
theorem dX4_century_69 : decode cX4_century 69 = .ok (.aload_n 0, 1) := by decide +kernel
theorem dX4_century_70 : decode cX4_century 70 = .ok (.getfield 19, 3) := by decide +kernel
theorem dX4_century_73 : decode cX4_century 73 = .ok (.invokevirtual 179, 3) := by decide +kernel
theorem dX4_century_76 : decode cX4_century 76 = .ok (.iinc 4 1, 3) := by decide +kernel
theorem dX4_century_79 : decode cX4_century 79 = .ok (.goto (-34), 3) := by decide +kernel
theorem dX4_century_82 : decode cX4_century 82 = .ok (.aload_n 0, 1) := by decide +kernel
theorem dX4_century_83 : decode cX4_century 83 = .ok (.aload_n 0, 1) := by decide +kernel
theorem dX4_century_84 : decode cX4_century 84 = .ok (.getfield 30, 3) := by decide +kernel
theorem dX4_century_87 : decode cX4_century 87 = .ok (.invokevirtual 164, 3) := by decide +kernel
theorem dX4_century_90 : decode cX4_century 90 = .ok (.iload_n 3, 1) := by decide +kernel
theorem dX4_century_91 : decode cX4_century 91 = .ok (.ifCond .ne 13, 3) := by decide +kernel
theorem dX4_century_94 : decode cX4_century 94 = .ok (.aload_n 0, 1) := by decide +kernel
theorem dX4_century_95 : decode cX4_century 95 = .ok (.getfield 30, 3) := by decide +kernel
theorem dX4_century_98 : decode cX4_century 98 = .ok (.invokevirtual 238, 3) := by decide +kernel
theorem dX4_century_101 : decode cX4_century 101 = .ok (.goto 9, 3) := by decide +kernel
theorem dX4_century_104 : decode cX4_century 104 = .ok (.aload_n 0, 1) := by decide +kernel
theorem dX4_century_105 : decode cX4_century 105 = .ok (.bipush 31, 2) := by decide +kernel
theorem dX4_century_107 : decode cX4_century 107 = .ok (.invokevirtual 167, 3) := by decide +kernel
theorem dX4_century_110 : decode cX4_century 110 = .ok (.ireturn, 1) := by decide +kernel
theorem dX4_keep_0 : decode cX4_keep 0 = .ok (.aload_n 0, 1) := by decide +kernel
theorem dX4_keep_1 : decode cX4_keep 1 = .ok (.getfield 42, 3) := by decide +kernel
theorem dX4_keep_4 : decode cX4_keep 4 = .ok (.getfield 158, 3) := by decide +kernel
theorem dX4_keep_7 : decode cX4_keep 7 = .ok (.iconst 2, 1) := by decide +kernel
theorem dX4_keep_8 : decode cX4_keep 8 = .ok (.if_icmp .lt 6, 3) := by decide +kernel
theorem dX4_keep_11 : decode cX4_keep 11 = .ok (.bipush (-3), 2) := by decide +kernel
theorem dX4_keep_13 : decode cX4_keep 13 = .ok (.ireturn, 1) := by decide +kernel
theorem dX4_keep_14 : decode cX4_keep 14 = .ok (.aload_n 0, 1) := by decide +kernel
theorem dX4_keep_15 : decode cX4_keep 15 = .ok (.getfield 42, 3) := by decide +kernel
theorem dX4_keep_18 : decode cX4_keep 18 = .ok (.aload_n 0, 1) := by decide +kernel
theorem dX4_keep_19 : decode cX4_keep 19 = .ok (.getfield 26, 3) := by decide +kernel
theorem dX4_keep_22 : decode cX4_keep 22 = .ok (.invokevirtual 132, 3) := by decide +kernel
theorem dX4_keep_25 : decode cX4_keep 25 = .ok (.aload_n 0, 1) := by decide +kernel
theorem dX4_keep_26 : decode cX4_keep 26 = .ok (.getfield 42, 3) := by decide +kernel
theorem dX4_keep_29 : decode cX4_keep 29 = .ok (.getfield 158, 3) := by decide +kernel
theorem dX4_keep_32 : decode cX4_keep 32 = .ok (.ireturn, 1) := by decide +kernel
theorem dX4_back_0 : decode cX4_back 0 = .ok (.aload_n 0, 1) := by decide +kernel
theorem dX4_back_1 : decode cX4_back 1 = .ok (.getfield 42, 3) := by decide +kernel
theorem dX4_back_4 : decode cX4_back 4 = .ok (.aload_n 0, 1) := by decide +kernel
theorem dX4_back_5 : decode cX4_back 5 = .ok (.getfield 26, 3) := by decide +kernel
theorem dX4_back_8 : decode cX4_back 8 = .ok (.invokevirtual 154, 3) := by decide +kernel
theorem dX4_back_11 : decode cX4_back 11 = .ok (.ifCond .ne 6, 3) := by decide +kernel
theorem dX4_back_14 : decode cX4_back 14 = .ok (.bipush (-2), 2) := by decide +kernel
theorem dX4_back_16 : decode cX4_back 16 = .ok (.ireturn, 1) := by decide +kernel
theorem dX4_back_17 : decode cX4_back 17 = .ok (.aload_n 0, 1) := by decide +kernel
theorem dX4_back_18 : decode cX4_back 18 = .ok (.getfield 38, 3) := by decide +kernel
theorem dX4_back_21 : decode cX4_back 21 = .ok (.iconst 0, 1) := by decide +kernel
theorem dX4_back_22 : decode cX4_back 22 = .ok (.putfield 158, 3) := by decide +kernel
theorem dX4_back_25 : decode cX4_back 25 = .ok (.aload_n 0, 1) := by decide +kernel
theorem dX4_back_26 : decode cX4_back 26 = .ok (.getfield 42, 3) := by decide +kernel
theorem dX4_back_29 : decode cX4_back 29 = .ok (.getfield 158, 3) := by decide +kernel
theorem dX4_back_32 : decode cX4_back 32 = .ok (.ireturn, 1) := by decide +kernel
theorem dX4_count_0 : decode cX4_count 0 = .ok (.iload_n 1, 1) := by decide +kernel
theorem dX4_count_1 : decode cX4_count 1 = .ok (.tableswitch 135 0 9 #[55, 63, 71, 79, 90, 101, 106, 111, 119, 127], 55) := by decide +kernel
theorem dX4_count_56 : decode cX4_count 56 = .ok (.aload_n 0, 1) := by decide +kernel
theorem dX4_count_57 : decode cX4_count 57 = .ok (.getfield 19, 3) := by decide +kernel
theorem dX4_count_60 : decode cX4_count 60 = .ok (.getfield 80, 3) := by decide +kernel
theorem dX4_count_63 : decode cX4_count 63 = .ok (.ireturn, 1) := by decide +kernel
theorem dX4_count_64 : decode cX4_count 64 = .ok (.aload_n 0, 1) := by decide +kernel
theorem dX4_count_65 : decode cX4_count 65 = .ok (.getfield 26, 3) := by decide +kernel
theorem dX4_count_68 : decode cX4_count 68 = .ok (.invokevirtual 100, 3) := by decide +kernel
theorem dX4_count_71 : decode cX4_count 71 = .ok (.ireturn, 1) := by decide +kernel
theorem dX4_count_72 : decode cX4_count 72 = .ok (.aload_n 0, 1) := by decide +kernel
theorem dX4_count_73 : decode cX4_count 73 = .ok (.getfield 26, 3) := by decide +kernel
theorem dX4_count_76 : decode cX4_count 76 = .ok (.invokevirtual 238, 3) := by decide +kernel
theorem dX4_count_79 : decode cX4_count 79 = .ok (.ireturn, 1) := by decide +kernel
theorem dX4_count_80 : decode cX4_count 80 = .ok (.aload_n 0, 1) := by decide +kernel
theorem dX4_count_81 : decode cX4_count 81 = .ok (.getfield 26, 3) := by decide +kernel
theorem dX4_count_84 : decode cX4_count 84 = .ok (.bipush 30, 2) := by decide +kernel
theorem dX4_count_86 : decode cX4_count 86 = .ok (.iconst 5, 1) := by decide +kernel
theorem dX4_count_87 : decode cX4_count 87 = .ok (.invokevirtual 241, 3) := by decide +kernel
theorem dX4_count_90 : decode cX4_count 90 = .ok (.ireturn, 1) := by decide +kernel
theorem dX4_count_91 : decode cX4_count 91 = .ok (.aload_n 0, 1) := by decide +kernel
theorem dX4_count_92 : decode cX4_count 92 = .ok (.getfield 26, 3) := by decide +kernel
theorem dX4_count_95 : decode cX4_count 95 = .ok (.iconst 0, 1) := by decide +kernel
theorem dX4_count_96 : decode cX4_count 96 = .ok (.bipush 30, 2) := by decide +kernel
theorem dX4_count_98 : decode cX4_count 98 = .ok (.invokevirtual 241, 3) := by decide +kernel
theorem dX4_count_101 : decode cX4_count 101 = .ok (.ireturn, 1) := by decide +kernel
theorem dX4_count_102 : decode cX4_count 102 = .ok (.aload_n 0, 1) := by decide +kernel
theorem dX4_count_103 : decode cX4_count 103 = .ok (.invokevirtual 244, 3) := by decide +kernel
theorem dX4_count_106 : decode cX4_count 106 = .ok (.ireturn, 1) := by decide +kernel
theorem dX4_count_107 : decode cX4_count 107 = .ok (.aload_n 0, 1) := by decide +kernel
theorem dX4_count_108 : decode cX4_count 108 = .ok (.getfield 200, 3) := by decide +kernel
theorem dX4_count_111 : decode cX4_count 111 = .ok (.ireturn, 1) := by decide +kernel
theorem dX4_count_112 : decode cX4_count 112 = .ok (.aload_n 0, 1) := by decide +kernel
theorem dX4_count_113 : decode cX4_count 113 = .ok (.getfield 38, 3) := by decide +kernel
theorem dX4_count_116 : decode cX4_count 116 = .ok (.getfield 158, 3) := by decide +kernel
theorem dX4_count_119 : decode cX4_count 119 = .ok (.ireturn, 1) := by decide +kernel
theorem dX4_count_120 : decode cX4_count 120 = .ok (.aload_n 0, 1) := by decide +kernel
theorem dX4_count_121 : decode cX4_count 121 = .ok (.getfield 42, 3) := by decide +kernel
theorem dX4_count_124 : decode cX4_count 124 = .ok (.getfield 158, 3) := by decide +kernel
theorem dX4_count_127 : decode cX4_count 127 = .ok (.ireturn, 1) := by decide +kernel
theorem dX4_count_128 : decode cX4_count 128 = .ok (.aload_n 0, 1) := by decide +kernel
theorem dX4_count_129 : decode cX4_count 129 = .ok (.getfield 10, 3) := by decide +kernel
theorem dX4_count_132 : decode cX4_count 132 = .ok (.getfield 68, 3) := by decide +kernel
theorem dX4_count_135 : decode cX4_count 135 = .ok (.ireturn, 1) := by decide +kernel
theorem dX4_count_136 : decode cX4_count 136 = .ok (.iconst (-1), 1) := by decide +kernel
theorem dX4_count_137 : decode cX4_count 137 = .ok (.ireturn, 1) := by decide +kernel
theorem dX4_isZeroOrOne_0 : decode cX4_isZeroOrOne 0 = .ok (.iload_n 0, 1) := by decide +kernel
theorem dX4_isZeroOrOne_1 : decode cX4_isZeroOrOne 1 = .ok (.ifCond .eq 8, 3) := by decide +kernel
theorem dX4_isZeroOrOne_4 : decode cX4_isZeroOrOne 4 = .ok (.iload_n 0, 1) := by decide +kernel
theorem dX4_isZeroOrOne_5 : decode cX4_isZeroOrOne 5 = .ok (.iconst 1, 1) := by decide +kernel
theorem dX4_isZeroOrOne_6 : decode cX4_isZeroOrOne 6 = .ok (.if_icmp .ne 7, 3) := by decide +kernel
theorem dX4_isZeroOrOne_9 : decode cX4_isZeroOrOne 9 = .ok (.iconst 1, 1) := by decide +kernel
theorem dX4_isZeroOrOne_10 : decode cX4_isZeroOrOne 10 = .ok (.goto 4, 3) := by decide +kernel
theorem dX4_isZeroOrOne_13 : decode cX4_isZeroOrOne 13 = .ok (.iconst 0, 1) := by decide +kernel
theorem dX4_isZeroOrOne_14 : decode cX4_isZeroOrOne 14 = .ok (.ireturn, 1) := by decide +kernel
theorem dX4_isTrimming_0 : decode cX4_isTrimming 0 = .ok (.iload_n 0, 1) := by decide +kernel
theorem dX4_isTrimming_1 : decode cX4_isTrimming 1 = .ok (.ifCond .lt 12, 3) := by decide +kernel
theorem dX4_isTrimming_4 : decode cX4_isTrimming 4 = .ok (.iload_n 0, 1) := by decide +kernel
theorem dX4_isTrimming_5 : decode cX4_isTrimming 5 = .ok (.iconst 5, 1) := by decide +kernel
theorem dX4_isTrimming_6 : decode cX4_isTrimming 6 = .ok (.if_icmp .ge 7, 3) := by decide +kernel
theorem dX4_isTrimming_9 : decode cX4_isTrimming 9 = .ok (.iconst 1, 1) := by decide +kernel
theorem dX4_isTrimming_10 : decode cX4_isTrimming 10 = .ok (.goto 4, 3) := by decide +kernel
theorem dX4_isTrimming_13 : decode cX4_isTrimming 13 = .ok (.iconst 0, 1) := by decide +kernel
theorem dX4_isTrimming_14 : decode cX4_isTrimming 14 = .ok (.ireturn, 1) := by decide +kernel
theorem dX4_isPins_0 : decode cX4_isPins 0 = .ok (.iload_n 0, 1) := by decide +kernel
theorem dX4_isPins_1 : decode cX4_isPins 1 = .ok (.iconst 1, 1) := by decide +kernel
theorem dX4_isPins_2 : decode cX4_isPins 2 = .ok (.if_icmp .lt 13, 3) := by decide +kernel
theorem dX4_isPins_5 : decode cX4_isPins 5 = .ok (.iload_n 0, 1) := by decide +kernel
theorem dX4_isPins_6 : decode cX4_isPins 6 = .ok (.bipush 20, 2) := by decide +kernel
theorem dX4_isPins_8 : decode cX4_isPins 8 = .ok (.if_icmp .gt 7, 3) := by decide +kernel
theorem dX4_isPins_11 : decode cX4_isPins 11 = .ok (.iconst 1, 1) := by decide +kernel
theorem dX4_isPins_12 : decode cX4_isPins 12 = .ok (.goto 4, 3) := by decide +kernel
theorem dX4_isPins_15 : decode cX4_isPins 15 = .ok (.iconst 0, 1) := by decide +kernel
theorem dX4_isPins_16 : decode cX4_isPins 16 = .ok (.ireturn, 1) := by decide +kernel
theorem dX4_isPlace_0 : decode cX4_isPlace 0 = .ok (.aload_n 0, 1) := by decide +kernel
theorem dX4_isPlace_1 : decode cX4_isPlace 1 = .ok (.getfield 19, 3) := by decide +kernel
theorem dX4_isPlace_4 : decode cX4_isPlace 4 = .ok (.iload_n 1, 1) := by decide +kernel
theorem dX4_isPlace_5 : decode cX4_isPlace 5 = .ok (.invokevirtual 83, 3) := by decide +kernel
theorem dX4_isPlace_8 : decode cX4_isPlace 8 = .ok (.ifCond .eq 14, 3) := by decide +kernel
theorem dX4_isPlace_11 : decode cX4_isPlace 11 = .ok (.iload_n 2, 1) := by decide +kernel
theorem dX4_isPlace_12 : decode cX4_isPlace 12 = .ok (.invokestatic 120, 3) := by decide +kernel
theorem dX4_isPlace_15 : decode cX4_isPlace 15 = .ok (.ifCond .eq 7, 3) := by decide +kernel
theorem dX4_isPlace_18 : decode cX4_isPlace 18 = .ok (.iconst 1, 1) := by decide +kernel
theorem dX4_isPlace_19 : decode cX4_isPlace 19 = .ok (.goto 4, 3) := by decide +kernel
theorem dX4_isPlace_22 : decode cX4_isPlace 22 = .ok (.iconst 0, 1) := by decide +kernel
theorem dX4_isPlace_23 : decode cX4_isPlace 23 = .ok (.ireturn, 1) := by decide +kernel
theorem dX4_layAsTold_0 : decode cX4_layAsTold 0 = .ok (.aload_n 0, 1) := by decide +kernel
theorem dX4_layAsTold_1 : decode cX4_layAsTold 1 = .ok (.getfield 10, 3) := by decide +kernel
theorem dX4_layAsTold_4 : decode cX4_layAsTold 4 = .ok (.invokevirtual 76, 3) := by decide +kernel
theorem dX4_layAsTold_7 : decode cX4_layAsTold 7 = .ok (.bipush (-4), 2) := by decide +kernel
theorem dX4_layAsTold_9 : decode cX4_layAsTold 9 = .ok (.if_icmp .ne 17, 3) := by decide +kernel
theorem dX4_layAsTold_12 : decode cX4_layAsTold 12 = .ok (.aload_n 0, 1) := by decide +kernel
theorem dX4_layAsTold_13 : decode cX4_layAsTold 13 = .ok (.getfield 10, 3) := by decide +kernel
theorem dX4_layAsTold_16 : decode cX4_layAsTold 16 = .ok (.getfield 247, 3) := by decide +kernel
theorem dX4_layAsTold_19 : decode cX4_layAsTold 19 = .ok (.getfield 80, 3) := by decide +kernel
theorem dX4_layAsTold_22 : decode cX4_layAsTold 22 = .ok (.iconst 1, 1) := by decide +kernel
theorem dX4_layAsTold_23 : decode cX4_layAsTold 23 = .ok (.if_icmp .ge 5, 3) := by decide +kernel
theorem dX4_layAsTold_26 : decode cX4_layAsTold 26 = .ok (.iconst 0, 1) := by decide +kernel
theorem dX4_layAsTold_27 : decode cX4_layAsTold 27 = .ok (.ireturn, 1) := by decide +kernel
theorem dX4_layAsTold_28 : decode cX4_layAsTold 28 = .ok (.aload_n 0, 1) := by decide +kernel
theorem dX4_layAsTold_29 : decode cX4_layAsTold 29 = .ok (.getfield 19, 3) := by decide +kernel
theorem dX4_layAsTold_32 : decode cX4_layAsTold 32 = .ok (.aload_n 0, 1) := by decide +kernel
theorem dX4_layAsTold_33 : decode cX4_layAsTold 33 = .ok (.getfield 10, 3) := by decide +kernel
theorem dX4_layAsTold_36 : decode cX4_layAsTold 36 = .ok (.getfield 247, 3) := by decide +kernel
theorem dX4_layAsTold_39 : decode cX4_layAsTold 39 = .ok (.invokevirtual 248, 3) := by decide +kernel
theorem dX4_layAsTold_42 : decode cX4_layAsTold 42 = .ok (.aload_n 0, 1) := by decide +kernel
theorem dX4_layAsTold_43 : decode cX4_layAsTold 43 = .ok (.getfield 26, 3) := by decide +kernel
theorem dX4_layAsTold_46 : decode cX4_layAsTold 46 = .ok (.aload_n 0, 1) := by decide +kernel
theorem dX4_layAsTold_47 : decode cX4_layAsTold 47 = .ok (.getfield 10, 3) := by decide +kernel
theorem dX4_layAsTold_50 : decode cX4_layAsTold 50 = .ok (.getfield 250, 3) := by decide +kernel
theorem dX4_layAsTold_53 : decode cX4_layAsTold 53 = .ok (.invokevirtual 176, 3) := by decide +kernel
theorem dX4_layAsTold_56 : decode cX4_layAsTold 56 = .ok (.aload_n 0, 1) := by decide +kernel
theorem dX4_layAsTold_57 : decode cX4_layAsTold 57 = .ok (.getfield 26, 3) := by decide +kernel
theorem dX4_layAsTold_60 : decode cX4_layAsTold 60 = .ok (.invokevirtual 253, 3) := by decide +kernel
theorem dX4_layAsTold_63 : decode cX4_layAsTold 63 = .ok (.aload_n 0, 1) := by decide +kernel
theorem dX4_layAsTold_64 : decode cX4_layAsTold 64 = .ok (.getfield 38, 3) := by decide +kernel
theorem dX4_layAsTold_67 : decode cX4_layAsTold 67 = .ok (.iconst 0, 1) := by decide +kernel
theorem dX4_layAsTold_68 : decode cX4_layAsTold 68 = .ok (.putfield 158, 3) := by decide +kernel
theorem dX4_layAsTold_71 : decode cX4_layAsTold 71 = .ok (.aload_n 0, 1) := by decide +kernel
theorem dX4_layAsTold_72 : decode cX4_layAsTold 72 = .ok (.getfield 42, 3) := by decide +kernel
theorem dX4_layAsTold_75 : decode cX4_layAsTold 75 = .ok (.iconst 0, 1) := by decide +kernel
theorem dX4_layAsTold_76 : decode cX4_layAsTold 76 = .ok (.putfield 158, 3) := by decide +kernel
theorem dX4_layAsTold_79 : decode cX4_layAsTold 79 = .ok (.aload_n 0, 1) := by decide +kernel
theorem dX4_layAsTold_80 : decode cX4_layAsTold 80 = .ok (.invokevirtual 256, 3) := by decide +kernel
theorem dX4_layAsTold_83 : decode cX4_layAsTold 83 = .ok (.pop, 1) := by decide +kernel
theorem dX4_layAsTold_84 : decode cX4_layAsTold 84 = .ok (.iconst 1, 1) := by decide +kernel
theorem dX4_layAsTold_85 : decode cX4_layAsTold 85 = .ok (.ireturn, 1) := by decide +kernel
theorem dX4_lightOf_0 : decode cX4_lightOf 0 = .ok (.bipush 12, 2) := by decide +kernel
theorem dX4_lightOf_2 : decode cX4_lightOf 2 = .ok (.aload_n 0, 1) := by decide +kernel
theorem dX4_lightOf_3 : decode cX4_lightOf 3 = .ok (.iload_n 1, 1) := by decide +kernel
theorem dX4_lightOf_4 : decode cX4_lightOf 4 = .ok (.iconst 1, 1) := by decide +kernel
theorem dX4_lightOf_5 : decode cX4_lightOf 5 = .ok (.isub, 1) := by decide +kernel
theorem dX4_lightOf_6 : decode cX4_lightOf 6 = .ok (.iload_n 1, 1) := by decide +kernel
theorem dX4_lightOf_7 : decode cX4_lightOf 7 = .ok (.invokevirtual 259, 3) := by decide +kernel
theorem dX4_lightOf_10 : decode cX4_lightOf 10 = .ok (.isub, 1) := by decide +kernel
theorem dX4_lightOf_11 : decode cX4_lightOf 11 = .ok (.aload_n 0, 1) := by decide +kernel
theorem dX4_lightOf_12 : decode cX4_lightOf 12 = .ok (.iload_n 1, 1) := by decide +kernel
theorem dX4_lightOf_13 : decode cX4_lightOf 13 = .ok (.iconst 1, 1) := by decide +kernel
theorem dX4_lightOf_14 : decode cX4_lightOf 14 = .ok (.iadd, 1) := by decide +kernel
theorem dX4_lightOf_15 : decode cX4_lightOf 15 = .ok (.iload_n 1, 1) := by decide +kernel
theorem dX4_lightOf_16 : decode cX4_lightOf 16 = .ok (.invokevirtual 259, 3) := by decide +kernel
theorem dX4_lightOf_19 : decode cX4_lightOf 19 = .ok (.isub, 1) := by decide +kernel
theorem dX4_lightOf_20 : decode cX4_lightOf 20 = .ok (.ireturn, 1) := by decide +kernel
theorem dX4_shadeBy_0 : decode cX4_shadeBy 0 = .ok (.aload_n 0, 1) := by decide +kernel
theorem dX4_shadeBy_1 : decode cX4_shadeBy 1 = .ok (.getfield 19, 3) := by decide +kernel
theorem dX4_shadeBy_4 : decode cX4_shadeBy 4 = .ok (.iload_n 1, 1) := by decide +kernel
theorem dX4_shadeBy_5 : decode cX4_shadeBy 5 = .ok (.invokevirtual 83, 3) := by decide +kernel
theorem dX4_shadeBy_8 : decode cX4_shadeBy 8 = .ok (.ifCond .eq 38, 3) := by decide +kernel
theorem dX4_shadeBy_11 : decode cX4_shadeBy 11 = .ok (.aload_n 0, 1) := by decide +kernel
theorem dX4_shadeBy_12 : decode cX4_shadeBy 12 = .ok (.getfield 19, 3) := by decide +kernel
theorem dX4_shadeBy_15 : decode cX4_shadeBy 15 = .ok (.iload_n 1, 1) := by decide +kernel
theorem dX4_shadeBy_16 : decode cX4_shadeBy 16 = .ok (.invokevirtual 91, 3) := by decide +kernel
theorem dX4_shadeBy_19 : decode cX4_shadeBy 19 = .ok (.aload_n 0, 1) := by decide +kernel
theorem dX4_shadeBy_20 : decode cX4_shadeBy 20 = .ok (.getfield 19, 3) := by decide +kernel
theorem dX4_shadeBy_23 : decode cX4_shadeBy 23 = .ok (.iload_n 2, 1) := by decide +kernel
theorem dX4_shadeBy_24 : decode cX4_shadeBy 24 = .ok (.invokevirtual 91, 3) := by decide +kernel
theorem dX4_shadeBy_27 : decode cX4_shadeBy 27 = .ok (.if_icmp .le 19, 3) := by decide +kernel
theorem dX4_shadeBy_30 : decode cX4_shadeBy 30 = .ok (.aload_n 0, 1) := by decide +kernel
theorem dX4_shadeBy_31 : decode cX4_shadeBy 31 = .ok (.getfield 26, 3) := by decide +kernel
theorem dX4_shadeBy_34 : decode cX4_shadeBy 34 = .ok (.iload_n 1, 1) := by decide +kernel
theorem dX4_shadeBy_35 : decode cX4_shadeBy 35 = .ok (.iconst 3, 1) := by decide +kernel
theorem dX4_shadeBy_36 : decode cX4_shadeBy 36 = .ok (.invokevirtual 140, 3) := by decide +kernel
theorem dX4_shadeBy_39 : decode cX4_shadeBy 39 = .ok (.ifCond .eq 7, 3) := by decide +kernel
theorem dX4_shadeBy_42 : decode cX4_shadeBy 42 = .ok (.iconst 1, 1) := by decide +kernel
theorem dX4_shadeBy_43 : decode cX4_shadeBy 43 = .ok (.goto 4, 3) := by decide +kernel
theorem dX4_shadeBy_46 : decode cX4_shadeBy 46 = .ok (.iconst 0, 1) := by decide +kernel
theorem dX4_shadeBy_47 : decode cX4_shadeBy 47 = .ok (.istore_n 3, 1) := by decide +kernel
theorem dX4_shadeBy_48 : decode cX4_shadeBy 48 = .ok (.iload_n 3, 1) := by decide +kernel
theorem dX4_shadeBy_49 : decode cX4_shadeBy 49 = .ok (.ifCond .eq 7, 3) := by decide +kernel
theorem dX4_shadeBy_52 : decode cX4_shadeBy 52 = .ok (.iconst 3, 1) := by decide +kernel
theorem dX4_shadeBy_53 : decode cX4_shadeBy 53 = .ok (.goto 4, 3) := by decide +kernel
theorem dX4_shadeBy_56 : decode cX4_shadeBy 56 = .ok (.iconst 0, 1) := by decide +kernel
theorem dX4_shadeBy_57 : decode cX4_shadeBy 57 = .ok (.ireturn, 1) := by decide +kernel
theorem dX4_letYearsGoBy_0 : decode cX4_letYearsGoBy 0 = .ok (.iconst 0, 1) := by decide +kernel
theorem dX4_letYearsGoBy_1 : decode cX4_letYearsGoBy 1 = .ok (.istore_n 3, 1) := by decide +kernel
theorem dX4_letYearsGoBy_2 : decode cX4_letYearsGoBy 2 = .ok (.iload_n 3, 1) := by decide +kernel
theorem dX4_letYearsGoBy_3 : decode cX4_letYearsGoBy 3 = .ok (.iload_n 2, 1) := by decide +kernel
theorem dX4_letYearsGoBy_4 : decode cX4_letYearsGoBy 4 = .ok (.if_icmp .ge 17, 3) := by decide +kernel
theorem dX4_letYearsGoBy_7 : decode cX4_letYearsGoBy 7 = .ok (.aload_n 1, 1) := by decide +kernel
theorem dX4_letYearsGoBy_8 : decode cX4_letYearsGoBy 8 = .ok (.aload_n 0, 1) := by decide +kernel
theorem dX4_letYearsGoBy_9 : decode cX4_letYearsGoBy 9 = .ok (.getfield 19, 3) := by decide +kernel
theorem dX4_letYearsGoBy_12 : decode cX4_letYearsGoBy 12 = .ok (.invokevirtual 179, 3) := by decide +kernel
theorem dX4_letYearsGoBy_15 : decode cX4_letYearsGoBy 15 = .ok (.iinc 3 1, 3) := by decide +kernel
theorem dX4_letYearsGoBy_18 : decode cX4_letYearsGoBy 18 = .ok (.goto (-16), 3) := by decide +kernel
theorem dX4_letYearsGoBy_21 : decode cX4_letYearsGoBy 21 = .ok (.return_, 1) := by decide +kernel
theorem dX4_weather_0 : decode cX4_weather 0 = .ok (.aload_n 0, 1) := by decide +kernel
theorem dX4_weather_1 : decode cX4_weather 1 = .ok (.ifnull 15, 3) := by decide +kernel
theorem dX4_weather_4 : decode cX4_weather 4 = .ok (.iload_n 1, 1) := by decide +kernel
theorem dX4_weather_5 : decode cX4_weather 5 = .ok (.ifCond .lt 11, 3) := by decide +kernel
theorem dX4_weather_8 : decode cX4_weather 8 = .ok (.iload_n 1, 1) := by decide +kernel
theorem dX4_weather_9 : decode cX4_weather 9 = .ok (.aload_n 0, 1) := by decide +kernel
theorem dX4_weather_10 : decode cX4_weather 10 = .ok (.arraylength, 1) := by decide +kernel
theorem dX4_weather_11 : decode cX4_weather 11 = .ok (.iconst 5, 1) := by decide +kernel
theorem dX4_weather_12 : decode cX4_weather 12 = .ok (.isub, 1) := by decide +kernel
theorem dX4_weather_13 : decode cX4_weather 13 = .ok (.if_icmp .le 4, 3) := by decide +kernel
theorem dX4_weather_16 : decode cX4_weather 16 = .ok (.return_, 1) := by decide +kernel
theorem dX4_weather_17 : decode cX4_weather 17 = .ok (.iload_n 1, 1) := by decide +kernel
theorem dX4_weather_18 : decode cX4_weather 18 = .ok (.istore 4, 2) := by decide +kernel
theorem dX4_weather_20 : decode cX4_weather 20 = .ok (.iload 4, 2) := by decide +kernel
theorem dX4_weather_22 : decode cX4_weather 22 = .ok (.iload_n 1, 1) := by decide +kernel
theorem dX4_weather_23 : decode cX4_weather 23 = .ok (.iconst 5, 1) := by decide +kernel
theorem dX4_weather_24 : decode cX4_weather 24 = .ok (.iadd, 1) := by decide +kernel
theorem dX4_weather_25 : decode cX4_weather 25 = .ok (.if_icmp .ge 39, 3) := by decide +kernel
theorem dX4_weather_28 : decode cX4_weather 28 = .ok (.aload_n 0, 1) := by decide +kernel
theorem dX4_weather_29 : decode cX4_weather 29 = .ok (.iload 4, 2) := by decide +kernel
theorem dX4_weather_31 : decode cX4_weather 31 = .ok (.aload_n 0, 1) := by decide +kernel
theorem dX4_weather_32 : decode cX4_weather 32 = .ok (.iload 4, 2) := by decide +kernel
theorem dX4_weather_34 : decode cX4_weather 34 = .ok (.iaload, 1) := by decide +kernel
theorem dX4_weather_35 : decode cX4_weather 35 = .ok (.iload_n 2, 1) := by decide +kernel
theorem dX4_weather_36 : decode cX4_weather 36 = .ok (.if_icmp .lt 11, 3) := by decide +kernel
theorem dX4_weather_39 : decode cX4_weather 39 = .ok (.aload_n 0, 1) := by decide +kernel
theorem dX4_weather_40 : decode cX4_weather 40 = .ok (.iload 4, 2) := by decide +kernel
theorem dX4_weather_42 : decode cX4_weather 42 = .ok (.iaload, 1) := by decide +kernel
theorem dX4_weather_43 : decode cX4_weather 43 = .ok (.iconst 1, 1) := by decide +kernel
theorem dX4_weather_44 : decode cX4_weather 44 = .ok (.if_icmp .ge 7, 3) := by decide +kernel
theorem dX4_weather_47 : decode cX4_weather 47 = .ok (.iconst 0, 1) := by decide +kernel
theorem dX4_weather_48 : decode cX4_weather 48 = .ok (.goto 9, 3) := by decide +kernel
theorem dX4_weather_51 : decode cX4_weather 51 = .ok (.aload_n 0, 1) := by decide +kernel
theorem dX4_weather_52 : decode cX4_weather 52 = .ok (.iload 4, 2) := by decide +kernel
theorem dX4_weather_54 : decode cX4_weather 54 = .ok (.iaload, 1) := by decide +kernel
theorem dX4_weather_55 : decode cX4_weather 55 = .ok (.iconst 1, 1) := by decide +kernel
theorem dX4_weather_56 : decode cX4_weather 56 = .ok (.isub, 1) := by decide +kernel
theorem dX4_weather_57 : decode cX4_weather 57 = .ok (.iastore, 1) := by decide +kernel
theorem dX4_weather_58 : decode cX4_weather 58 = .ok (.iinc 4 1, 3) := by decide +kernel
theorem dX4_weather_61 : decode cX4_weather 61 = .ok (.goto (-41), 3) := by decide +kernel
theorem dX4_weather_64 : decode cX4_weather 64 = .ok (.iload_n 3, 1) := by decide +kernel
theorem dX4_weather_65 : decode cX4_weather 65 = .ok (.ifCond .ne 4, 3) := by decide +kernel
theorem dX4_weather_68 : decode cX4_weather 68 = .ok (.return_, 1) := by decide +kernel
theorem dX4_weather_69 : decode cX4_weather 69 = .ok (.iload_n 1, 1) := by decide +kernel
theorem dX4_weather_70 : decode cX4_weather 70 = .ok (.istore 4, 2) := by decide +kernel
theorem dX4_weather_72 : decode cX4_weather 72 = .ok (.iload 4, 2) := by decide +kernel
theorem dX4_weather_74 : decode cX4_weather 74 = .ok (.iload_n 1, 1) := by decide +kernel
theorem dX4_weather_75 : decode cX4_weather 75 = .ok (.iconst 5, 1) := by decide +kernel
theorem dX4_weather_76 : decode cX4_weather 76 = .ok (.iadd, 1) := by decide +kernel
theorem dX4_weather_77 : decode cX4_weather 77 = .ok (.if_icmp .ge 25, 3) := by decide +kernel
theorem dX4_weather_80 : decode cX4_weather 80 = .ok (.aload_n 0, 1) := by decide +kernel
theorem dX4_weather_81 : decode cX4_weather 81 = .ok (.iload 4, 2) := by decide +kernel
theorem dX4_weather_83 : decode cX4_weather 83 = .ok (.iaload, 1) := by decide +kernel
theorem dX4_weather_84 : decode cX4_weather 84 = .ok (.ifCond .le 12, 3) := by decide +kernel
theorem dX4_weather_87 : decode cX4_weather 87 = .ok (.aload_n 0, 1) := by decide +kernel
theorem dX4_weather_88 : decode cX4_weather 88 = .ok (.iload 4, 2) := by decide +kernel
theorem dX4_weather_90 : decode cX4_weather 90 = .ok (.dup2, 1) := by decide +kernel
theorem dX4_weather_91 : decode cX4_weather 91 = .ok (.iaload, 1) := by decide +kernel
theorem dX4_weather_92 : decode cX4_weather 92 = .ok (.iconst 1, 1) := by decide +kernel
theorem dX4_weather_93 : decode cX4_weather 93 = .ok (.isub, 1) := by decide +kernel
theorem dX4_weather_94 : decode cX4_weather 94 = .ok (.iastore, 1) := by decide +kernel
theorem dX4_weather_95 : decode cX4_weather 95 = .ok (.return_, 1) := by decide +kernel
theorem dX4_weather_96 : decode cX4_weather 96 = .ok (.iinc 4 1, 3) := by decide +kernel
theorem dX4_weather_99 : decode cX4_weather 99 = .ok (.goto (-27), 3) := by decide +kernel
theorem dX4_weather_102 : decode cX4_weather 102 = .ok (.return_, 1) := by decide +kernel
theorem dX4_lookAt_0 : decode cX4_lookAt 0 = .ok (.iconst 0, 1) := by decide +kernel
theorem dX4_lookAt_1 : decode cX4_lookAt 1 = .ok (.istore_n 2, 1) := by decide +kernel
theorem dX4_lookAt_2 : decode cX4_lookAt 2 = .ok (.iload_n 2, 1) := by decide +kernel
theorem dX4_lookAt_3 : decode cX4_lookAt 3 = .ok (.bipush 6, 2) := by decide +kernel
theorem dX4_lookAt_5 : decode cX4_lookAt 5 = .ok (.if_icmp .ge 20, 3) := by decide +kernel
theorem dX4_lookAt_8 : decode cX4_lookAt 8 = .ok (.aload_n 0, 1) := by decide +kernel
theorem dX4_lookAt_9 : decode cX4_lookAt 9 = .ok (.getfield 45, 3) := by decide +kernel
theorem dX4_lookAt_12 : decode cX4_lookAt 12 = .ok (.iload_n 2, 1) := by decide +kernel
theorem dX4_lookAt_13 : decode cX4_lookAt 13 = .ok (.aload_n 1, 1) := by decide +kernel
theorem dX4_lookAt_14 : decode cX4_lookAt 14 = .ok (.iload_n 2, 1) := by decide +kernel
theorem dX4_lookAt_15 : decode cX4_lookAt 15 = .ok (.invokevirtual 94, 3) := by decide +kernel
theorem dX4_lookAt_18 : decode cX4_lookAt 18 = .ok (.iastore, 1) := by decide +kernel
theorem dX4_lookAt_19 : decode cX4_lookAt 19 = .ok (.iinc 2 1, 3) := by decide +kernel
theorem dX4_lookAt_22 : decode cX4_lookAt 22 = .ok (.goto (-20), 3) := by decide +kernel
theorem dX4_lookAt_25 : decode cX4_lookAt 25 = .ok (.return_, 1) := by decide +kernel
theorem dX4_pairsAlike_0 : decode cX4_pairsAlike 0 = .ok (.iconst 0, 1) := by decide +kernel
theorem dX4_pairsAlike_1 : decode cX4_pairsAlike 1 = .ok (.istore_n 2, 1) := by decide +kernel
theorem dX4_pairsAlike_2 : decode cX4_pairsAlike 2 = .ok (.iconst 0, 1) := by decide +kernel
theorem dX4_pairsAlike_3 : decode cX4_pairsAlike 3 = .ok (.istore_n 3, 1) := by decide +kernel
theorem dX4_pairsAlike_4 : decode cX4_pairsAlike 4 = .ok (.iload_n 3, 1) := by decide +kernel
theorem dX4_pairsAlike_5 : decode cX4_pairsAlike 5 = .ok (.aload_n 0, 1) := by decide +kernel
theorem dX4_pairsAlike_6 : decode cX4_pairsAlike 6 = .ok (.getfield 19, 3) := by decide +kernel
theorem dX4_pairsAlike_9 : decode cX4_pairsAlike 9 = .ok (.getfield 80, 3) := by decide +kernel
theorem dX4_pairsAlike_12 : decode cX4_pairsAlike 12 = .ok (.if_icmp .ge 54, 3) := by decide +kernel
theorem dX4_pairsAlike_15 : decode cX4_pairsAlike 15 = .ok (.iload_n 3, 1) := by decide +kernel
theorem dX4_pairsAlike_16 : decode cX4_pairsAlike 16 = .ok (.iconst 1, 1) := by decide +kernel
theorem dX4_pairsAlike_17 : decode cX4_pairsAlike 17 = .ok (.iadd, 1) := by decide +kernel
theorem dX4_pairsAlike_18 : decode cX4_pairsAlike 18 = .ok (.istore 4, 2) := by decide +kernel
theorem dX4_pairsAlike_20 : decode cX4_pairsAlike 20 = .ok (.iload 4, 2) := by decide +kernel
theorem dX4_pairsAlike_22 : decode cX4_pairsAlike 22 = .ok (.aload_n 0, 1) := by decide +kernel
theorem dX4_pairsAlike_23 : decode cX4_pairsAlike 23 = .ok (.getfield 19, 3) := by decide +kernel
theorem dX4_pairsAlike_26 : decode cX4_pairsAlike 26 = .ok (.getfield 80, 3) := by decide +kernel
theorem dX4_pairsAlike_29 : decode cX4_pairsAlike 29 = .ok (.if_icmp .ge 31, 3) := by decide +kernel
theorem dX4_pairsAlike_32 : decode cX4_pairsAlike 32 = .ok (.aload_n 0, 1) := by decide +kernel
theorem dX4_pairsAlike_33 : decode cX4_pairsAlike 33 = .ok (.getfield 45, 3) := by decide +kernel
theorem dX4_pairsAlike_36 : decode cX4_pairsAlike 36 = .ok (.iload_n 3, 1) := by decide +kernel
theorem dX4_pairsAlike_37 : decode cX4_pairsAlike 37 = .ok (.iaload, 1) := by decide +kernel
theorem dX4_pairsAlike_38 : decode cX4_pairsAlike 38 = .ok (.aload_n 0, 1) := by decide +kernel
theorem dX4_pairsAlike_39 : decode cX4_pairsAlike 39 = .ok (.getfield 45, 3) := by decide +kernel
theorem dX4_pairsAlike_42 : decode cX4_pairsAlike 42 = .ok (.iload 4, 2) := by decide +kernel
theorem dX4_pairsAlike_44 : decode cX4_pairsAlike 44 = .ok (.iaload, 1) := by decide +kernel
theorem dX4_pairsAlike_45 : decode cX4_pairsAlike 45 = .ok (.ixor, 1) := by decide +kernel
theorem dX4_pairsAlike_46 : decode cX4_pairsAlike 46 = .ok (.iload_n 1, 1) := by decide +kernel
theorem dX4_pairsAlike_47 : decode cX4_pairsAlike 47 = .ok (.iand, 1) := by decide +kernel
theorem dX4_pairsAlike_48 : decode cX4_pairsAlike 48 = .ok (.ifCond .ne 6, 3) := by decide +kernel
theorem dX4_pairsAlike_51 : decode cX4_pairsAlike 51 = .ok (.iinc 2 1, 3) := by decide +kernel
theorem dX4_pairsAlike_54 : decode cX4_pairsAlike 54 = .ok (.iinc 4 1, 3) := by decide +kernel
theorem dX4_pairsAlike_57 : decode cX4_pairsAlike 57 = .ok (.goto (-37), 3) := by decide +kernel
theorem dX4_pairsAlike_60 : decode cX4_pairsAlike 60 = .ok (.iinc 3 1, 3) := by decide +kernel
theorem dX4_pairsAlike_63 : decode cX4_pairsAlike 63 = .ok (.goto (-59), 3) := by decide +kernel
theorem dX4_pairsAlike_66 : decode cX4_pairsAlike 66 = .ok (.iload_n 2, 1) := by decide +kernel
theorem dX4_pairsAlike_67 : decode cX4_pairsAlike 67 = .ok (.ireturn, 1) := by decide +kernel
theorem dX4_firstPairAlike_0 : decode cX4_firstPairAlike 0 = .ok (.iconst 0, 1) := by decide +kernel
theorem dX4_firstPairAlike_1 : decode cX4_firstPairAlike 1 = .ok (.istore_n 1, 1) := by decide +kernel
theorem dX4_firstPairAlike_2 : decode cX4_firstPairAlike 2 = .ok (.iload_n 1, 1) := by decide +kernel
theorem dX4_firstPairAlike_3 : decode cX4_firstPairAlike 3 = .ok (.aload_n 0, 1) := by decide +kernel
theorem dX4_firstPairAlike_4 : decode cX4_firstPairAlike 4 = .ok (.getfield 19, 3) := by decide +kernel
theorem dX4_firstPairAlike_7 : decode cX4_firstPairAlike 7 = .ok (.getfield 80, 3) := by decide +kernel
theorem dX4_firstPairAlike_10 : decode cX4_firstPairAlike 10 = .ok (.if_icmp .ge 52, 3) := by decide +kernel
theorem dX4_firstPairAlike_13 : decode cX4_firstPairAlike 13 = .ok (.iload_n 1, 1) := by decide +kernel
theorem dX4_firstPairAlike_14 : decode cX4_firstPairAlike 14 = .ok (.iconst 1, 1) := by decide +kernel
theorem dX4_firstPairAlike_15 : decode cX4_firstPairAlike 15 = .ok (.iadd, 1) := by decide +kernel
theorem dX4_firstPairAlike_16 : decode cX4_firstPairAlike 16 = .ok (.istore_n 2, 1) := by decide +kernel
theorem dX4_firstPairAlike_17 : decode cX4_firstPairAlike 17 = .ok (.iload_n 2, 1) := by decide +kernel
theorem dX4_firstPairAlike_18 : decode cX4_firstPairAlike 18 = .ok (.aload_n 0, 1) := by decide +kernel
theorem dX4_firstPairAlike_19 : decode cX4_firstPairAlike 19 = .ok (.getfield 19, 3) := by decide +kernel
theorem dX4_firstPairAlike_22 : decode cX4_firstPairAlike 22 = .ok (.getfield 80, 3) := by decide +kernel
theorem dX4_firstPairAlike_25 : decode cX4_firstPairAlike 25 = .ok (.if_icmp .ge 31, 3) := by decide +kernel
theorem dX4_firstPairAlike_28 : decode cX4_firstPairAlike 28 = .ok (.aload_n 0, 1) := by decide +kernel
theorem dX4_firstPairAlike_29 : decode cX4_firstPairAlike 29 = .ok (.getfield 45, 3) := by decide +kernel
theorem dX4_firstPairAlike_32 : decode cX4_firstPairAlike 32 = .ok (.iload_n 1, 1) := by decide +kernel
theorem dX4_firstPairAlike_33 : decode cX4_firstPairAlike 33 = .ok (.iaload, 1) := by decide +kernel
theorem dX4_firstPairAlike_34 : decode cX4_firstPairAlike 34 = .ok (.aload_n 0, 1) := by decide +kernel
theorem dX4_firstPairAlike_35 : decode cX4_firstPairAlike 35 = .ok (.getfield 45, 3) := by decide +kernel
theorem dX4_firstPairAlike_38 : decode cX4_firstPairAlike 38 = .ok (.iload_n 2, 1) := by decide +kernel
theorem dX4_firstPairAlike_39 : decode cX4_firstPairAlike 39 = .ok (.iaload, 1) := by decide +kernel
theorem dX4_firstPairAlike_40 : decode cX4_firstPairAlike 40 = .ok (.if_icmp .ne 10, 3) := by decide +kernel
theorem dX4_firstPairAlike_43 : decode cX4_firstPairAlike 43 = .ok (.bipush 10, 2) := by decide +kernel
theorem dX4_firstPairAlike_45 : decode cX4_firstPairAlike 45 = .ok (.iload_n 1, 1) := by decide +kernel
theorem dX4_firstPairAlike_46 : decode cX4_firstPairAlike 46 = .ok (.imul, 1) := by decide +kernel
theorem dX4_firstPairAlike_47 : decode cX4_firstPairAlike 47 = .ok (.iload_n 2, 1) := by decide +kernel
theorem dX4_firstPairAlike_48 : decode cX4_firstPairAlike 48 = .ok (.iadd, 1) := by decide +kernel
theorem dX4_firstPairAlike_49 : decode cX4_firstPairAlike 49 = .ok (.ireturn, 1) := by decide +kernel
theorem dX4_firstPairAlike_50 : decode cX4_firstPairAlike 50 = .ok (.iinc 2 1, 3) := by decide +kernel
theorem dX4_firstPairAlike_53 : decode cX4_firstPairAlike 53 = .ok (.goto (-36), 3) := by decide +kernel
theorem dX4_firstPairAlike_56 : decode cX4_firstPairAlike 56 = .ok (.iinc 1 1, 3) := by decide +kernel
theorem dX4_firstPairAlike_59 : decode cX4_firstPairAlike 59 = .ok (.goto (-57), 3) := by decide +kernel
theorem dX4_firstPairAlike_62 : decode cX4_firstPairAlike 62 = .ok (.bipush (-4), 2) := by decide +kernel
theorem dX4_firstPairAlike_64 : decode cX4_firstPairAlike 64 = .ok (.ireturn, 1) := by decide +kernel
theorem dX4_knownBy_0 : decode cX4_knownBy 0 = .ok (.iconst 0, 1) := by decide +kernel
theorem dX4_knownBy_1 : decode cX4_knownBy 1 = .ok (.istore_n 2, 1) := by decide +kernel
theorem dX4_knownBy_2 : decode cX4_knownBy 2 = .ok (.iload_n 2, 1) := by decide +kernel
theorem dX4_knownBy_3 : decode cX4_knownBy 3 = .ok (.aload_n 0, 1) := by decide +kernel
theorem dX4_knownBy_4 : decode cX4_knownBy 4 = .ok (.getfield 19, 3) := by decide +kernel
theorem dX4_knownBy_7 : decode cX4_knownBy 7 = .ok (.getfield 80, 3) := by decide +kernel
theorem dX4_knownBy_10 : decode cX4_knownBy 10 = .ok (.if_icmp .ge 23, 3) := by decide +kernel
theorem dX4_knownBy_13 : decode cX4_knownBy 13 = .ok (.aload_n 0, 1) := by decide +kernel
theorem dX4_knownBy_14 : decode cX4_knownBy 14 = .ok (.getfield 26, 3) := by decide +kernel
theorem dX4_knownBy_17 : decode cX4_knownBy 17 = .ok (.iload_n 2, 1) := by decide +kernel
theorem dX4_knownBy_18 : decode cX4_knownBy 18 = .ok (.invokevirtual 94, 3) := by decide +kernel
theorem dX4_knownBy_21 : decode cX4_knownBy 21 = .ok (.iload_n 1, 1) := by decide +kernel
theorem dX4_knownBy_22 : decode cX4_knownBy 22 = .ok (.if_icmp .ne 5, 3) := by decide +kernel
theorem dX4_knownBy_25 : decode cX4_knownBy 25 = .ok (.iload_n 2, 1) := by decide +kernel
theorem dX4_knownBy_26 : decode cX4_knownBy 26 = .ok (.ireturn, 1) := by decide +kernel
theorem dX4_knownBy_27 : decode cX4_knownBy 27 = .ok (.iinc 2 1, 3) := by decide +kernel
theorem dX4_knownBy_30 : decode cX4_knownBy 30 = .ok (.goto (-28), 3) := by decide +kernel
theorem dX4_knownBy_33 : decode cX4_knownBy 33 = .ok (.bipush (-4), 2) := by decide +kernel
theorem dX4_knownBy_35 : decode cX4_knownBy 35 = .ok (.ireturn, 1) := by decide +kernel
theorem dX4_peaksKnownAsThemselves_0 : decode cX4_peaksKnownAsThemselves 0 = .ok (.iconst 0, 1) := by decide +kernel
theorem dX4_peaksKnownAsThemselves_1 : decode cX4_peaksKnownAsThemselves 1 = .ok (.istore_n 1, 1) := by decide +kernel
theorem dX4_peaksKnownAsThemselves_2 : decode cX4_peaksKnownAsThemselves 2 = .ok (.iconst 0, 1) := by decide +kernel
theorem dX4_peaksKnownAsThemselves_3 : decode cX4_peaksKnownAsThemselves 3 = .ok (.istore_n 2, 1) := by decide +kernel
theorem dX4_peaksKnownAsThemselves_4 : decode cX4_peaksKnownAsThemselves 4 = .ok (.iload_n 2, 1) := by decide +kernel
theorem dX4_peaksKnownAsThemselves_5 : decode cX4_peaksKnownAsThemselves 5 = .ok (.aload_n 0, 1) := by decide +kernel
theorem dX4_peaksKnownAsThemselves_6 : decode cX4_peaksKnownAsThemselves 6 = .ok (.getfield 19, 3) := by decide +kernel
theorem dX4_peaksKnownAsThemselves_9 : decode cX4_peaksKnownAsThemselves 9 = .ok (.getfield 80, 3) := by decide +kernel
theorem dX4_peaksKnownAsThemselves_12 : decode cX4_peaksKnownAsThemselves 12 = .ok (.if_icmp .ge 28, 3) := by decide +kernel
theorem dX4_peaksKnownAsThemselves_15 : decode cX4_peaksKnownAsThemselves 15 = .ok (.aload_n 0, 1) := by decide +kernel
theorem dX4_peaksKnownAsThemselves_16 : decode cX4_peaksKnownAsThemselves 16 = .ok (.aload_n 0, 1) := by decide +kernel
theorem dX4_peaksKnownAsThemselves_17 : decode cX4_peaksKnownAsThemselves 17 = .ok (.getfield 26, 3) := by decide +kernel
theorem dX4_peaksKnownAsThemselves_20 : decode cX4_peaksKnownAsThemselves 20 = .ok (.iload_n 2, 1) := by decide +kernel
theorem dX4_peaksKnownAsThemselves_21 : decode cX4_peaksKnownAsThemselves 21 = .ok (.invokevirtual 97, 3) := by decide +kernel
theorem dX4_peaksKnownAsThemselves_24 : decode cX4_peaksKnownAsThemselves 24 = .ok (.invokevirtual 173, 3) := by decide +kernel
theorem dX4_peaksKnownAsThemselves_27 : decode cX4_peaksKnownAsThemselves 27 = .ok (.iload_n 2, 1) := by decide +kernel
theorem dX4_peaksKnownAsThemselves_28 : decode cX4_peaksKnownAsThemselves 28 = .ok (.if_icmp .ne 6, 3) := by decide +kernel
theorem dX4_peaksKnownAsThemselves_31 : decode cX4_peaksKnownAsThemselves 31 = .ok (.iinc 1 1, 3) := by decide +kernel
theorem dX4_peaksKnownAsThemselves_34 : decode cX4_peaksKnownAsThemselves 34 = .ok (.iinc 2 1, 3) := by decide +kernel
theorem dX4_peaksKnownAsThemselves_37 : decode cX4_peaksKnownAsThemselves 37 = .ok (.goto (-33), 3) := by decide +kernel
theorem dX4_peaksKnownAsThemselves_40 : decode cX4_peaksKnownAsThemselves 40 = .ok (.iload_n 1, 1) := by decide +kernel
theorem dX4_peaksKnownAsThemselves_41 : decode cX4_peaksKnownAsThemselves 41 = .ok (.ireturn, 1) := by decide +kernel
theorem dX4_smallestTellingSet_0 : decode cX4_smallestTellingSet 0 = .ok (.aload_n 0, 1) := by decide +kernel
theorem dX4_smallestTellingSet_1 : decode cX4_smallestTellingSet 1 = .ok (.aload_n 0, 1) := by decide +kernel
theorem dX4_smallestTellingSet_2 : decode cX4_smallestTellingSet 2 = .ok (.getfield 26, 3) := by decide +kernel
theorem dX4_smallestTellingSet_5 : decode cX4_smallestTellingSet 5 = .ok (.invokevirtual 164, 3) := by decide +kernel
theorem dX4_smallestTellingSet_8 : decode cX4_smallestTellingSet 8 = .ok (.bipush (-4), 2) := by decide +kernel
theorem dX4_smallestTellingSet_10 : decode cX4_smallestTellingSet 10 = .ok (.istore_n 1, 1) := by decide +kernel
theorem dX4_smallestTellingSet_11 : decode cX4_smallestTellingSet 11 = .ok (.iconst 0, 1) := by decide +kernel
theorem dX4_smallestTellingSet_12 : decode cX4_smallestTellingSet 12 = .ok (.istore_n 2, 1) := by decide +kernel
theorem dX4_smallestTellingSet_13 : decode cX4_smallestTellingSet 13 = .ok (.iload_n 2, 1) := by decide +kernel
theorem dX4_smallestTellingSet_14 : decode cX4_smallestTellingSet 14 = .ok (.bipush 31, 2) := by decide +kernel
theorem dX4_smallestTellingSet_16 : decode cX4_smallestTellingSet 16 = .ok (.if_icmp .gt 46, 3) := by decide +kernel
theorem dX4_smallestTellingSet_19 : decode cX4_smallestTellingSet 19 = .ok (.iload_n 1, 1) := by decide +kernel
theorem dX4_smallestTellingSet_20 : decode cX4_smallestTellingSet 20 = .ok (.bipush (-4), 2) := by decide +kernel
theorem dX4_smallestTellingSet_22 : decode cX4_smallestTellingSet 22 = .ok (.if_icmp .eq 14, 3) := by decide +kernel
theorem dX4_smallestTellingSet_25 : decode cX4_smallestTellingSet 25 = .ok (.iload_n 2, 1) := by decide +kernel
theorem dX4_smallestTellingSet_26 : decode cX4_smallestTellingSet 26 = .ok (.invokestatic 189, 3) := by decide +kernel
theorem dX4_smallestTellingSet_29 : decode cX4_smallestTellingSet 29 = .ok (.iload_n 1, 1) := by decide +kernel
theorem dX4_smallestTellingSet_30 : decode cX4_smallestTellingSet 30 = .ok (.invokestatic 189, 3) := by decide +kernel
theorem dX4_smallestTellingSet_33 : decode cX4_smallestTellingSet 33 = .ok (.if_icmp .ge 7, 3) := by decide +kernel
theorem dX4_smallestTellingSet_36 : decode cX4_smallestTellingSet 36 = .ok (.iconst 1, 1) := by decide +kernel
theorem dX4_smallestTellingSet_37 : decode cX4_smallestTellingSet 37 = .ok (.goto 4, 3) := by decide +kernel
theorem dX4_smallestTellingSet_40 : decode cX4_smallestTellingSet 40 = .ok (.iconst 0, 1) := by decide +kernel
theorem dX4_smallestTellingSet_41 : decode cX4_smallestTellingSet 41 = .ok (.istore_n 3, 1) := by decide +kernel
theorem dX4_smallestTellingSet_42 : decode cX4_smallestTellingSet 42 = .ok (.iload_n 3, 1) := by decide +kernel
theorem dX4_smallestTellingSet_43 : decode cX4_smallestTellingSet 43 = .ok (.ifCond .eq 13, 3) := by decide +kernel
theorem dX4_smallestTellingSet_46 : decode cX4_smallestTellingSet 46 = .ok (.aload_n 0, 1) := by decide +kernel
theorem dX4_smallestTellingSet_47 : decode cX4_smallestTellingSet 47 = .ok (.iload_n 2, 1) := by decide +kernel
theorem dX4_smallestTellingSet_48 : decode cX4_smallestTellingSet 48 = .ok (.invokevirtual 167, 3) := by decide +kernel
theorem dX4_smallestTellingSet_51 : decode cX4_smallestTellingSet 51 = .ok (.ifCond .ne 5, 3) := by decide +kernel
theorem dX4_smallestTellingSet_54 : decode cX4_smallestTellingSet 54 = .ok (.iload_n 2, 1) := by decide +kernel
theorem dX4_smallestTellingSet_55 : decode cX4_smallestTellingSet 55 = .ok (.istore_n 1, 1) := by decide +kernel
theorem dX4_smallestTellingSet_56 : decode cX4_smallestTellingSet 56 = .ok (.iinc 2 1, 3) := by decide +kernel
theorem dX4_smallestTellingSet_59 : decode cX4_smallestTellingSet 59 = .ok (.goto (-46), 3) := by decide +kernel
theorem dX4_smallestTellingSet_62 : decode cX4_smallestTellingSet 62 = .ok (.iload_n 1, 1) := by decide +kernel
theorem dX4_smallestTellingSet_63 : decode cX4_smallestTellingSet 63 = .ok (.ireturn, 1) := by decide +kernel
theorem dX4_pinsMoreAt_0 : decode cX4_pinsMoreAt 0 = .ok (.iconst 0, 1) := by decide +kernel
theorem dX4_pinsMoreAt_1 : decode cX4_pinsMoreAt 1 = .ok (.istore_n 3, 1) := by decide +kernel
theorem dX4_pinsMoreAt_2 : decode cX4_pinsMoreAt 2 = .ok (.aload_n 0, 1) := by decide +kernel
theorem dX4_pinsMoreAt_3 : decode cX4_pinsMoreAt 3 = .ok (.getfield 19, 3) := by decide +kernel
theorem dX4_pinsMoreAt_6 : decode cX4_pinsMoreAt 6 = .ok (.iload_n 1, 1) := by decide +kernel
theorem dX4_pinsMoreAt_7 : decode cX4_pinsMoreAt 7 = .ok (.invokevirtual 262, 3) := by decide +kernel
theorem dX4_pinsMoreAt_10 : decode cX4_pinsMoreAt 10 = .ok (.ifCond .eq 7, 3) := by decide +kernel
theorem dX4_pinsMoreAt_13 : decode cX4_pinsMoreAt 13 = .ok (.iconst 2, 1) := by decide +kernel
theorem dX4_pinsMoreAt_14 : decode cX4_pinsMoreAt 14 = .ok (.goto 4, 3) := by decide +kernel
theorem dX4_pinsMoreAt_17 : decode cX4_pinsMoreAt 17 = .ok (.iconst 1, 1) := by decide +kernel
theorem dX4_pinsMoreAt_18 : decode cX4_pinsMoreAt 18 = .ok (.istore 4, 2) := by decide +kernel
theorem dX4_pinsMoreAt_20 : decode cX4_pinsMoreAt 20 = .ok (.iconst 0, 1) := by decide +kernel
theorem dX4_pinsMoreAt_21 : decode cX4_pinsMoreAt 21 = .ok (.istore 5, 2) := by decide +kernel
theorem dX4_pinsMoreAt_23 : decode cX4_pinsMoreAt 23 = .ok (.iload 5, 2) := by decide +kernel
theorem dX4_pinsMoreAt_25 : decode cX4_pinsMoreAt 25 = .ok (.iconst 5, 1) := by decide +kernel
theorem dX4_pinsMoreAt_26 : decode cX4_pinsMoreAt 26 = .ok (.if_icmp .ge 51, 3) := by decide +kernel
theorem dX4_pinsMoreAt_29 : decode cX4_pinsMoreAt 29 = .ok (.aload_n 0, 1) := by decide +kernel
theorem dX4_pinsMoreAt_30 : decode cX4_pinsMoreAt 30 = .ok (.getfield 26, 3) := by decide +kernel
theorem dX4_pinsMoreAt_33 : decode cX4_pinsMoreAt 33 = .ok (.iload_n 1, 1) := by decide +kernel
theorem dX4_pinsMoreAt_34 : decode cX4_pinsMoreAt 34 = .ok (.iload 5, 2) := by decide +kernel
theorem dX4_pinsMoreAt_36 : decode cX4_pinsMoreAt 36 = .ok (.invokevirtual 140, 3) := by decide +kernel
theorem dX4_pinsMoreAt_39 : decode cX4_pinsMoreAt 39 = .ok (.ifCond .eq 32, 3) := by decide +kernel
theorem dX4_pinsMoreAt_42 : decode cX4_pinsMoreAt 42 = .ok (.iload_n 3, 1) := by decide +kernel
theorem dX4_pinsMoreAt_43 : decode cX4_pinsMoreAt 43 = .ok (.iconst 0, 1) := by decide +kernel
theorem dX4_pinsMoreAt_44 : decode cX4_pinsMoreAt 44 = .ok (.aload_n 0, 1) := by decide +kernel
theorem dX4_pinsMoreAt_45 : decode cX4_pinsMoreAt 45 = .ok (.iload_n 1, 1) := by decide +kernel
theorem dX4_pinsMoreAt_46 : decode cX4_pinsMoreAt 46 = .ok (.iload_n 2, 1) := by decide +kernel
theorem dX4_pinsMoreAt_47 : decode cX4_pinsMoreAt 47 = .ok (.iload 4, 2) := by decide +kernel
theorem dX4_pinsMoreAt_49 : decode cX4_pinsMoreAt 49 = .ok (.invokevirtual 265, 3) := by decide +kernel
theorem dX4_pinsMoreAt_52 : decode cX4_pinsMoreAt 52 = .ok (.aload_n 0, 1) := by decide +kernel
theorem dX4_pinsMoreAt_53 : decode cX4_pinsMoreAt 53 = .ok (.getfield 26, 3) := by decide +kernel
theorem dX4_pinsMoreAt_56 : decode cX4_pinsMoreAt 56 = .ok (.iload_n 1, 1) := by decide +kernel
theorem dX4_pinsMoreAt_57 : decode cX4_pinsMoreAt 57 = .ok (.iload 5, 2) := by decide +kernel
theorem dX4_pinsMoreAt_59 : decode cX4_pinsMoreAt 59 = .ok (.invokevirtual 117, 3) := by decide +kernel
theorem dX4_pinsMoreAt_62 : decode cX4_pinsMoreAt 62 = .ok (.isub, 1) := by decide +kernel
theorem dX4_pinsMoreAt_63 : decode cX4_pinsMoreAt 63 = .ok (.invokestatic 268, 3) := by decide +kernel
theorem dX4_pinsMoreAt_66 : decode cX4_pinsMoreAt 66 = .ok (.iadd, 1) := by decide +kernel
theorem dX4_pinsMoreAt_67 : decode cX4_pinsMoreAt 67 = .ok (.istore_n 3, 1) := by decide +kernel
theorem dX4_pinsMoreAt_68 : decode cX4_pinsMoreAt 68 = .ok (.iconst 1, 1) := by decide +kernel
theorem dX4_pinsMoreAt_69 : decode cX4_pinsMoreAt 69 = .ok (.istore 4, 2) := by decide +kernel
theorem dX4_pinsMoreAt_71 : decode cX4_pinsMoreAt 71 = .ok (.iinc 5 1, 3) := by decide +kernel
theorem dX4_pinsMoreAt_74 : decode cX4_pinsMoreAt 74 = .ok (.goto (-51), 3) := by decide +kernel
theorem dX4_pinsMoreAt_77 : decode cX4_pinsMoreAt 77 = .ok (.iload_n 3, 1) := by decide +kernel
theorem dX4_pinsMoreAt_78 : decode cX4_pinsMoreAt 78 = .ok (.ireturn, 1) := by decide +kernel
theorem dX4_pinsToHold_0 : decode cX4_pinsToHold 0 = .ok (.iload_n 3, 1) := by decide +kernel
theorem dX4_pinsToHold_1 : decode cX4_pinsToHold 1 = .ok (.iload_n 2, 1) := by decide +kernel
theorem dX4_pinsToHold_2 : decode cX4_pinsToHold 2 = .ok (.imul, 1) := by decide +kernel
theorem dX4_pinsToHold_3 : decode cX4_pinsToHold 3 = .ok (.iconst 1, 1) := by decide +kernel
theorem dX4_pinsToHold_4 : decode cX4_pinsToHold 4 = .ok (.iadd, 1) := by decide +kernel
theorem dX4_pinsToHold_5 : decode cX4_pinsToHold 5 = .ok (.istore 4, 2) := by decide +kernel
theorem dX4_pinsToHold_7 : decode cX4_pinsToHold 7 = .ok (.iconst 0, 1) := by decide +kernel
theorem dX4_pinsToHold_8 : decode cX4_pinsToHold 8 = .ok (.istore 5, 2) := by decide +kernel
theorem dX4_pinsToHold_10 : decode cX4_pinsToHold 10 = .ok (.iload 5, 2) := by decide +kernel
theorem dX4_pinsToHold_12 : decode cX4_pinsToHold 12 = .ok (.iload_n 2, 1) := by decide +kernel
theorem dX4_pinsToHold_13 : decode cX4_pinsToHold 13 = .ok (.if_icmp .ge 50, 3) := by decide +kernel
theorem dX4_pinsToHold_16 : decode cX4_pinsToHold 16 = .ok (.aload_n 0, 1) := by decide +kernel
theorem dX4_pinsToHold_17 : decode cX4_pinsToHold 17 = .ok (.getfield 19, 3) := by decide +kernel
theorem dX4_pinsToHold_20 : decode cX4_pinsToHold 20 = .ok (.iload_n 1, 1) := by decide +kernel
theorem dX4_pinsToHold_21 : decode cX4_pinsToHold 21 = .ok (.aload_n 0, 1) := by decide +kernel
theorem dX4_pinsToHold_22 : decode cX4_pinsToHold 22 = .ok (.getfield 19, 3) := by decide +kernel
theorem dX4_pinsToHold_25 : decode cX4_pinsToHold 25 = .ok (.aload_n 0, 1) := by decide +kernel
theorem dX4_pinsToHold_26 : decode cX4_pinsToHold 26 = .ok (.getfield 26, 3) := by decide +kernel
theorem dX4_pinsToHold_29 : decode cX4_pinsToHold 29 = .ok (.invokevirtual 100, 3) := by decide +kernel
theorem dX4_pinsToHold_32 : decode cX4_pinsToHold 32 = .ok (.iload 5, 2) := by decide +kernel
theorem dX4_pinsToHold_34 : decode cX4_pinsToHold 34 = .ok (.iadd, 1) := by decide +kernel
theorem dX4_pinsToHold_35 : decode cX4_pinsToHold 35 = .ok (.invokevirtual 103, 3) := by decide +kernel
theorem dX4_pinsToHold_38 : decode cX4_pinsToHold 38 = .ok (.invokevirtual 106, 3) := by decide +kernel
theorem dX4_pinsToHold_41 : decode cX4_pinsToHold 41 = .ok (.istore 6, 2) := by decide +kernel
theorem dX4_pinsToHold_43 : decode cX4_pinsToHold 43 = .ok (.iload 4, 2) := by decide +kernel
theorem dX4_pinsToHold_45 : decode cX4_pinsToHold 45 = .ok (.iload 6, 2) := by decide +kernel
theorem dX4_pinsToHold_47 : decode cX4_pinsToHold 47 = .ok (.iload_n 3, 1) := by decide +kernel
theorem dX4_pinsToHold_48 : decode cX4_pinsToHold 48 = .ok (.iload 5, 2) := by decide +kernel
theorem dX4_pinsToHold_50 : decode cX4_pinsToHold 50 = .ok (.imul, 1) := by decide +kernel
theorem dX4_pinsToHold_51 : decode cX4_pinsToHold 51 = .ok (.iadd, 1) := by decide +kernel
theorem dX4_pinsToHold_52 : decode cX4_pinsToHold 52 = .ok (.invokestatic 268, 3) := by decide +kernel
theorem dX4_pinsToHold_55 : decode cX4_pinsToHold 55 = .ok (.istore 4, 2) := by decide +kernel
theorem dX4_pinsToHold_57 : decode cX4_pinsToHold 57 = .ok (.iinc 5 1, 3) := by decide +kernel
theorem dX4_pinsToHold_60 : decode cX4_pinsToHold 60 = .ok (.goto (-50), 3) := by decide +kernel
theorem dX4_pinsToHold_63 : decode cX4_pinsToHold 63 = .ok (.iload 4, 2) := by decide +kernel
theorem dX4_pinsToHold_65 : decode cX4_pinsToHold 65 = .ok (.ireturn, 1) := by decide +kernel
theorem dX4_searchAdded_0 : decode cX4_searchAdded 0 = .ok (.aload_n 0, 1) := by decide +kernel
theorem dX4_searchAdded_1 : decode cX4_searchAdded 1 = .ok (.aload_n 0, 1) := by decide +kernel
theorem dX4_searchAdded_2 : decode cX4_searchAdded 2 = .ok (.getfield 26, 3) := by decide +kernel
theorem dX4_searchAdded_5 : decode cX4_searchAdded 5 = .ok (.invokevirtual 164, 3) := by decide +kernel
theorem dX4_searchAdded_8 : decode cX4_searchAdded 8 = .ok (.aload_n 0, 1) := by decide +kernel
theorem dX4_searchAdded_9 : decode cX4_searchAdded 9 = .ok (.bipush 31, 2) := by decide +kernel
theorem dX4_searchAdded_11 : decode cX4_searchAdded 11 = .ok (.invokevirtual 167, 3) := by decide +kernel
theorem dX4_searchAdded_14 : decode cX4_searchAdded 14 = .ok (.ifCond .ne 5, 3) := by decide +kernel
theorem dX4_searchAdded_17 : decode cX4_searchAdded 17 = .ok (.iconst 0, 1) := by decide +kernel
theorem dX4_searchAdded_18 : decode cX4_searchAdded 18 = .ok (.ireturn, 1) := by decide +kernel
theorem dX4_searchAdded_19 : decode cX4_searchAdded 19 = .ok (.aload_n 0, 1) := by decide +kernel
theorem dX4_searchAdded_20 : decode cX4_searchAdded 20 = .ok (.invokevirtual 273, 3) := by decide +kernel
theorem dX4_searchAdded_23 : decode cX4_searchAdded 23 = .ok (.ifCond .eq 5, 3) := by decide +kernel
theorem dX4_searchAdded_26 : decode cX4_searchAdded 26 = .ok (.iconst 1, 1) := by decide +kernel
theorem dX4_searchAdded_27 : decode cX4_searchAdded 27 = .ok (.ireturn, 1) := by decide +kernel
theorem dX4_searchAdded_28 : decode cX4_searchAdded 28 = .ok (.aload_n 0, 1) := by decide +kernel
theorem dX4_searchAdded_29 : decode cX4_searchAdded 29 = .ok (.invokevirtual 276, 3) := by decide +kernel
theorem dX4_searchAdded_32 : decode cX4_searchAdded 32 = .ok (.ifCond .eq 7, 3) := by decide +kernel
theorem dX4_searchAdded_35 : decode cX4_searchAdded 35 = .ok (.iconst 2, 1) := by decide +kernel
theorem dX4_searchAdded_36 : decode cX4_searchAdded 36 = .ok (.goto 5, 3) := by decide +kernel
theorem dX4_searchAdded_39 : decode cX4_searchAdded 39 = .ok (.bipush (-4), 2) := by decide +kernel
theorem dX4_searchAdded_41 : decode cX4_searchAdded 41 = .ok (.ireturn, 1) := by decide +kernel
theorem dX4_isOneAddedEnough_0 : decode cX4_isOneAddedEnough 0 = .ok (.iconst 0, 1) := by decide +kernel
theorem dX4_isOneAddedEnough_1 : decode cX4_isOneAddedEnough 1 = .ok (.istore_n 1, 1) := by decide +kernel
theorem dX4_isOneAddedEnough_2 : decode cX4_isOneAddedEnough 2 = .ok (.iload_n 1, 1) := by decide +kernel
theorem dX4_isOneAddedEnough_3 : decode cX4_isOneAddedEnough 3 = .ok (.aload_n 0, 1) := by decide +kernel
theorem dX4_isOneAddedEnough_4 : decode cX4_isOneAddedEnough 4 = .ok (.getfield 19, 3) := by decide +kernel
theorem dX4_isOneAddedEnough_7 : decode cX4_isOneAddedEnough 7 = .ok (.getfield 80, 3) := by decide +kernel
theorem dX4_isOneAddedEnough_10 : decode cX4_isOneAddedEnough 10 = .ok (.iconst 5, 1) := by decide +kernel
theorem dX4_isOneAddedEnough_11 : decode cX4_isOneAddedEnough 11 = .ok (.imul, 1) := by decide +kernel
theorem dX4_isOneAddedEnough_12 : decode cX4_isOneAddedEnough 12 = .ok (.if_icmp .ge 34, 3) := by decide +kernel
theorem dX4_isOneAddedEnough_15 : decode cX4_isOneAddedEnough 15 = .ok (.aload_n 0, 1) := by decide +kernel
theorem dX4_isOneAddedEnough_16 : decode cX4_isOneAddedEnough 16 = .ok (.iload_n 1, 1) := by decide +kernel
theorem dX4_isOneAddedEnough_17 : decode cX4_isOneAddedEnough 17 = .ok (.invokevirtual 279, 3) := by decide +kernel
theorem dX4_isOneAddedEnough_20 : decode cX4_isOneAddedEnough 20 = .ok (.ifCond .eq 20, 3) := by decide +kernel
theorem dX4_isOneAddedEnough_23 : decode cX4_isOneAddedEnough 23 = .ok (.aload_n 0, 1) := by decide +kernel
theorem dX4_isOneAddedEnough_24 : decode cX4_isOneAddedEnough 24 = .ok (.iload_n 1, 1) := by decide +kernel
theorem dX4_isOneAddedEnough_25 : decode cX4_isOneAddedEnough 25 = .ok (.invokevirtual 282, 3) := by decide +kernel
theorem dX4_isOneAddedEnough_28 : decode cX4_isOneAddedEnough 28 = .ok (.ifCond .eq 12, 3) := by decide +kernel
theorem dX4_isOneAddedEnough_31 : decode cX4_isOneAddedEnough 31 = .ok (.aload_n 0, 1) := by decide +kernel
theorem dX4_isOneAddedEnough_32 : decode cX4_isOneAddedEnough 32 = .ok (.getfield 49, 3) := by decide +kernel
theorem dX4_isOneAddedEnough_35 : decode cX4_isOneAddedEnough 35 = .ok (.iconst 0, 1) := by decide +kernel
theorem dX4_isOneAddedEnough_36 : decode cX4_isOneAddedEnough 36 = .ok (.iload_n 1, 1) := by decide +kernel
theorem dX4_isOneAddedEnough_37 : decode cX4_isOneAddedEnough 37 = .ok (.iastore, 1) := by decide +kernel
theorem dX4_isOneAddedEnough_38 : decode cX4_isOneAddedEnough 38 = .ok (.iconst 1, 1) := by decide +kernel
theorem dX4_isOneAddedEnough_39 : decode cX4_isOneAddedEnough 39 = .ok (.ireturn, 1) := by decide +kernel
theorem dX4_isOneAddedEnough_40 : decode cX4_isOneAddedEnough 40 = .ok (.iinc 1 1, 3) := by decide +kernel
theorem dX4_isOneAddedEnough_43 : decode cX4_isOneAddedEnough 43 = .ok (.goto (-41), 3) := by decide +kernel
theorem dX4_isOneAddedEnough_46 : decode cX4_isOneAddedEnough 46 = .ok (.iconst 0, 1) := by decide +kernel
theorem dX4_isOneAddedEnough_47 : decode cX4_isOneAddedEnough 47 = .ok (.ireturn, 1) := by decide +kernel
theorem dX4_areTwoAddedEnough_0 : decode cX4_areTwoAddedEnough 0 = .ok (.iconst 0, 1) := by decide +kernel
theorem dX4_areTwoAddedEnough_1 : decode cX4_areTwoAddedEnough 1 = .ok (.istore_n 1, 1) := by decide +kernel
theorem dX4_areTwoAddedEnough_2 : decode cX4_areTwoAddedEnough 2 = .ok (.iload_n 1, 1) := by decide +kernel
theorem dX4_areTwoAddedEnough_3 : decode cX4_areTwoAddedEnough 3 = .ok (.aload_n 0, 1) := by decide +kernel
theorem dX4_areTwoAddedEnough_4 : decode cX4_areTwoAddedEnough 4 = .ok (.getfield 19, 3) := by decide +kernel
theorem dX4_areTwoAddedEnough_7 : decode cX4_areTwoAddedEnough 7 = .ok (.getfield 80, 3) := by decide +kernel
theorem dX4_areTwoAddedEnough_10 : decode cX4_areTwoAddedEnough 10 = .ok (.iconst 5, 1) := by decide +kernel
theorem dX4_areTwoAddedEnough_11 : decode cX4_areTwoAddedEnough 11 = .ok (.imul, 1) := by decide +kernel
theorem dX4_areTwoAddedEnough_12 : decode cX4_areTwoAddedEnough 12 = .ok (.if_icmp .ge 46, 3) := by decide +kernel
theorem dX4_areTwoAddedEnough_15 : decode cX4_areTwoAddedEnough 15 = .ok (.aload_n 0, 1) := by decide +kernel
theorem dX4_areTwoAddedEnough_16 : decode cX4_areTwoAddedEnough 16 = .ok (.iload_n 1, 1) := by decide +kernel
theorem dX4_areTwoAddedEnough_17 : decode cX4_areTwoAddedEnough 17 = .ok (.invokevirtual 279, 3) := by decide +kernel
theorem dX4_areTwoAddedEnough_20 : decode cX4_areTwoAddedEnough 20 = .ok (.ifCond .eq 32, 3) := by decide +kernel
theorem dX4_areTwoAddedEnough_23 : decode cX4_areTwoAddedEnough 23 = .ok (.aload_n 0, 1) := by decide +kernel
theorem dX4_areTwoAddedEnough_24 : decode cX4_areTwoAddedEnough 24 = .ok (.iload_n 1, 1) := by decide +kernel
theorem dX4_areTwoAddedEnough_25 : decode cX4_areTwoAddedEnough 25 = .ok (.invokevirtual 285, 3) := by decide +kernel
theorem dX4_areTwoAddedEnough_28 : decode cX4_areTwoAddedEnough 28 = .ok (.aload_n 0, 1) := by decide +kernel
theorem dX4_areTwoAddedEnough_29 : decode cX4_areTwoAddedEnough 29 = .ok (.iload_n 1, 1) := by decide +kernel
theorem dX4_areTwoAddedEnough_30 : decode cX4_areTwoAddedEnough 30 = .ok (.invokevirtual 288, 3) := by decide +kernel
theorem dX4_areTwoAddedEnough_33 : decode cX4_areTwoAddedEnough 33 = .ok (.istore_n 2, 1) := by decide +kernel
theorem dX4_areTwoAddedEnough_34 : decode cX4_areTwoAddedEnough 34 = .ok (.aload_n 0, 1) := by decide +kernel
theorem dX4_areTwoAddedEnough_35 : decode cX4_areTwoAddedEnough 35 = .ok (.iload_n 1, 1) := by decide +kernel
theorem dX4_areTwoAddedEnough_36 : decode cX4_areTwoAddedEnough 36 = .ok (.invokevirtual 285, 3) := by decide +kernel
theorem dX4_areTwoAddedEnough_39 : decode cX4_areTwoAddedEnough 39 = .ok (.iload_n 2, 1) := by decide +kernel
theorem dX4_areTwoAddedEnough_40 : decode cX4_areTwoAddedEnough 40 = .ok (.ifCond .eq 12, 3) := by decide +kernel
theorem dX4_areTwoAddedEnough_43 : decode cX4_areTwoAddedEnough 43 = .ok (.aload_n 0, 1) := by decide +kernel
theorem dX4_areTwoAddedEnough_44 : decode cX4_areTwoAddedEnough 44 = .ok (.getfield 49, 3) := by decide +kernel
theorem dX4_areTwoAddedEnough_47 : decode cX4_areTwoAddedEnough 47 = .ok (.iconst 0, 1) := by decide +kernel
theorem dX4_areTwoAddedEnough_48 : decode cX4_areTwoAddedEnough 48 = .ok (.iload_n 1, 1) := by decide +kernel
theorem dX4_areTwoAddedEnough_49 : decode cX4_areTwoAddedEnough 49 = .ok (.iastore, 1) := by decide +kernel
theorem dX4_areTwoAddedEnough_50 : decode cX4_areTwoAddedEnough 50 = .ok (.iconst 1, 1) := by decide +kernel
theorem dX4_areTwoAddedEnough_51 : decode cX4_areTwoAddedEnough 51 = .ok (.ireturn, 1) := by decide +kernel
theorem dX4_areTwoAddedEnough_52 : decode cX4_areTwoAddedEnough 52 = .ok (.iinc 1 1, 3) := by decide +kernel
theorem dX4_areTwoAddedEnough_55 : decode cX4_areTwoAddedEnough 55 = .ok (.goto (-53), 3) := by decide +kernel
theorem dX4_areTwoAddedEnough_58 : decode cX4_areTwoAddedEnough 58 = .ok (.iconst 0, 1) := by decide +kernel
theorem dX4_areTwoAddedEnough_59 : decode cX4_areTwoAddedEnough 59 = .ok (.ireturn, 1) := by decide +kernel
theorem dX4_findSecondAdded_0 : decode cX4_findSecondAdded 0 = .ok (.iload_n 1, 1) := by decide +kernel
theorem dX4_findSecondAdded_1 : decode cX4_findSecondAdded 1 = .ok (.iconst 1, 1) := by decide +kernel
theorem dX4_findSecondAdded_2 : decode cX4_findSecondAdded 2 = .ok (.iadd, 1) := by decide +kernel
theorem dX4_findSecondAdded_3 : decode cX4_findSecondAdded 3 = .ok (.istore_n 2, 1) := by decide +kernel
theorem dX4_findSecondAdded_4 : decode cX4_findSecondAdded 4 = .ok (.iload_n 2, 1) := by decide +kernel
theorem dX4_findSecondAdded_5 : decode cX4_findSecondAdded 5 = .ok (.aload_n 0, 1) := by decide +kernel
theorem dX4_findSecondAdded_6 : decode cX4_findSecondAdded 6 = .ok (.getfield 19, 3) := by decide +kernel
theorem dX4_findSecondAdded_9 : decode cX4_findSecondAdded 9 = .ok (.getfield 80, 3) := by decide +kernel
theorem dX4_findSecondAdded_12 : decode cX4_findSecondAdded 12 = .ok (.iconst 5, 1) := by decide +kernel
theorem dX4_findSecondAdded_13 : decode cX4_findSecondAdded 13 = .ok (.imul, 1) := by decide +kernel
theorem dX4_findSecondAdded_14 : decode cX4_findSecondAdded 14 = .ok (.if_icmp .ge 79, 3) := by decide +kernel
theorem dX4_findSecondAdded_17 : decode cX4_findSecondAdded 17 = .ok (.iload_n 2, 1) := by decide +kernel
theorem dX4_findSecondAdded_18 : decode cX4_findSecondAdded 18 = .ok (.iconst 5, 1) := by decide +kernel
theorem dX4_findSecondAdded_19 : decode cX4_findSecondAdded 19 = .ok (.irem, 1) := by decide +kernel
theorem dX4_findSecondAdded_20 : decode cX4_findSecondAdded 20 = .ok (.iload_n 1, 1) := by decide +kernel
theorem dX4_findSecondAdded_21 : decode cX4_findSecondAdded 21 = .ok (.iconst 5, 1) := by decide +kernel
theorem dX4_findSecondAdded_22 : decode cX4_findSecondAdded 22 = .ok (.irem, 1) := by decide +kernel
theorem dX4_findSecondAdded_23 : decode cX4_findSecondAdded 23 = .ok (.if_icmp .ne 7, 3) := by decide +kernel
theorem dX4_findSecondAdded_26 : decode cX4_findSecondAdded 26 = .ok (.iconst 1, 1) := by decide +kernel
theorem dX4_findSecondAdded_27 : decode cX4_findSecondAdded 27 = .ok (.goto 4, 3) := by decide +kernel
theorem dX4_findSecondAdded_30 : decode cX4_findSecondAdded 30 = .ok (.iconst 0, 1) := by decide +kernel
theorem dX4_findSecondAdded_31 : decode cX4_findSecondAdded 31 = .ok (.istore_n 3, 1) := by decide +kernel
theorem dX4_findSecondAdded_32 : decode cX4_findSecondAdded 32 = .ok (.iload_n 3, 1) := by decide +kernel
theorem dX4_findSecondAdded_33 : decode cX4_findSecondAdded 33 = .ok (.ifCond .eq 17, 3) := by decide +kernel
theorem dX4_findSecondAdded_36 : decode cX4_findSecondAdded 36 = .ok (.aload_n 0, 1) := by decide +kernel
theorem dX4_findSecondAdded_37 : decode cX4_findSecondAdded 37 = .ok (.getfield 26, 3) := by decide +kernel
theorem dX4_findSecondAdded_40 : decode cX4_findSecondAdded 40 = .ok (.iload_n 2, 1) := by decide +kernel
theorem dX4_findSecondAdded_41 : decode cX4_findSecondAdded 41 = .ok (.iconst 5, 1) := by decide +kernel
theorem dX4_findSecondAdded_42 : decode cX4_findSecondAdded 42 = .ok (.irem, 1) := by decide +kernel
theorem dX4_findSecondAdded_43 : decode cX4_findSecondAdded 43 = .ok (.invokevirtual 123, 3) := by decide +kernel
theorem dX4_findSecondAdded_46 : decode cX4_findSecondAdded 46 = .ok (.iconst 2, 1) := by decide +kernel
theorem dX4_findSecondAdded_47 : decode cX4_findSecondAdded 47 = .ok (.if_icmp .lt 7, 3) := by decide +kernel
theorem dX4_findSecondAdded_50 : decode cX4_findSecondAdded 50 = .ok (.iconst 1, 1) := by decide +kernel
theorem dX4_findSecondAdded_51 : decode cX4_findSecondAdded 51 = .ok (.goto 4, 3) := by decide +kernel
theorem dX4_findSecondAdded_54 : decode cX4_findSecondAdded 54 = .ok (.iconst 0, 1) := by decide +kernel
theorem dX4_findSecondAdded_55 : decode cX4_findSecondAdded 55 = .ok (.istore 4, 2) := by decide +kernel
theorem dX4_findSecondAdded_57 : decode cX4_findSecondAdded 57 = .ok (.iload 4, 2) := by decide +kernel
theorem dX4_findSecondAdded_59 : decode cX4_findSecondAdded 59 = .ok (.ifCond .eq 28, 3) := by decide +kernel
theorem dX4_findSecondAdded_62 : decode cX4_findSecondAdded 62 = .ok (.aload_n 0, 1) := by decide +kernel
theorem dX4_findSecondAdded_63 : decode cX4_findSecondAdded 63 = .ok (.iload_n 2, 1) := by decide +kernel
theorem dX4_findSecondAdded_64 : decode cX4_findSecondAdded 64 = .ok (.invokevirtual 279, 3) := by decide +kernel
theorem dX4_findSecondAdded_67 : decode cX4_findSecondAdded 67 = .ok (.ifCond .eq 20, 3) := by decide +kernel
theorem dX4_findSecondAdded_70 : decode cX4_findSecondAdded 70 = .ok (.aload_n 0, 1) := by decide +kernel
theorem dX4_findSecondAdded_71 : decode cX4_findSecondAdded 71 = .ok (.iload_n 2, 1) := by decide +kernel
theorem dX4_findSecondAdded_72 : decode cX4_findSecondAdded 72 = .ok (.invokevirtual 282, 3) := by decide +kernel
theorem dX4_findSecondAdded_75 : decode cX4_findSecondAdded 75 = .ok (.ifCond .eq 12, 3) := by decide +kernel
theorem dX4_findSecondAdded_78 : decode cX4_findSecondAdded 78 = .ok (.aload_n 0, 1) := by decide +kernel
theorem dX4_findSecondAdded_79 : decode cX4_findSecondAdded 79 = .ok (.getfield 49, 3) := by decide +kernel
theorem dX4_findSecondAdded_82 : decode cX4_findSecondAdded 82 = .ok (.iconst 1, 1) := by decide +kernel
theorem dX4_findSecondAdded_83 : decode cX4_findSecondAdded 83 = .ok (.iload_n 2, 1) := by decide +kernel
theorem dX4_findSecondAdded_84 : decode cX4_findSecondAdded 84 = .ok (.iastore, 1) := by decide +kernel
theorem dX4_findSecondAdded_85 : decode cX4_findSecondAdded 85 = .ok (.iconst 1, 1) := by decide +kernel
theorem dX4_findSecondAdded_86 : decode cX4_findSecondAdded 86 = .ok (.ireturn, 1) := by decide +kernel
theorem dX4_findSecondAdded_87 : decode cX4_findSecondAdded 87 = .ok (.iinc 2 1, 3) := by decide +kernel
theorem dX4_findSecondAdded_90 : decode cX4_findSecondAdded 90 = .ok (.goto (-86), 3) := by decide +kernel
theorem dX4_findSecondAdded_93 : decode cX4_findSecondAdded 93 = .ok (.iconst 0, 1) := by decide +kernel
theorem dX4_findSecondAdded_94 : decode cX4_findSecondAdded 94 = .ok (.ireturn, 1) := by decide +kernel
theorem dX4_canPutAt_0 : decode cX4_canPutAt 0 = .ok (.aload_n 0, 1) := by decide +kernel
theorem dX4_canPutAt_1 : decode cX4_canPutAt 1 = .ok (.getfield 26, 3) := by decide +kernel
theorem dX4_canPutAt_4 : decode cX4_canPutAt 4 = .ok (.iload_n 1, 1) := by decide +kernel
theorem dX4_canPutAt_5 : decode cX4_canPutAt 5 = .ok (.iconst 5, 1) := by decide +kernel
theorem dX4_canPutAt_6 : decode cX4_canPutAt 6 = .ok (.idiv, 1) := by decide +kernel
theorem dX4_canPutAt_7 : decode cX4_canPutAt 7 = .ok (.iload_n 1, 1) := by decide +kernel
theorem dX4_canPutAt_8 : decode cX4_canPutAt 8 = .ok (.iconst 5, 1) := by decide +kernel
theorem dX4_canPutAt_9 : decode cX4_canPutAt 9 = .ok (.irem, 1) := by decide +kernel
theorem dX4_canPutAt_10 : decode cX4_canPutAt 10 = .ok (.invokevirtual 129, 3) := by decide +kernel
theorem dX4_canPutAt_13 : decode cX4_canPutAt 13 = .ok (.ireturn, 1) := by decide +kernel
theorem dX4_isApartWith_0 : decode cX4_isApartWith 0 = .ok (.aload_n 0, 1) := by decide +kernel
theorem dX4_isApartWith_1 : decode cX4_isApartWith 1 = .ok (.iload_n 1, 1) := by decide +kernel
theorem dX4_isApartWith_2 : decode cX4_isApartWith 2 = .ok (.invokevirtual 285, 3) := by decide +kernel
theorem dX4_isApartWith_5 : decode cX4_isApartWith 5 = .ok (.aload_n 0, 1) := by decide +kernel
theorem dX4_isApartWith_6 : decode cX4_isApartWith 6 = .ok (.bipush 31, 2) := by decide +kernel
theorem dX4_isApartWith_8 : decode cX4_isApartWith 8 = .ok (.invokevirtual 167, 3) := by decide +kernel
theorem dX4_isApartWith_11 : decode cX4_isApartWith 11 = .ok (.ifCond .ne 7, 3) := by decide +kernel
theorem dX4_isApartWith_14 : decode cX4_isApartWith 14 = .ok (.iconst 1, 1) := by decide +kernel
theorem dX4_isApartWith_15 : decode cX4_isApartWith 15 = .ok (.goto 4, 3) := by decide +kernel
theorem dX4_isApartWith_18 : decode cX4_isApartWith 18 = .ok (.iconst 0, 1) := by decide +kernel
theorem dX4_isApartWith_19 : decode cX4_isApartWith 19 = .ok (.istore_n 2, 1) := by decide +kernel
theorem dX4_isApartWith_20 : decode cX4_isApartWith 20 = .ok (.aload_n 0, 1) := by decide +kernel
theorem dX4_isApartWith_21 : decode cX4_isApartWith 21 = .ok (.iload_n 1, 1) := by decide +kernel
theorem dX4_isApartWith_22 : decode cX4_isApartWith 22 = .ok (.invokevirtual 285, 3) := by decide +kernel
theorem dX4_isApartWith_25 : decode cX4_isApartWith 25 = .ok (.iload_n 2, 1) := by decide +kernel
theorem dX4_isApartWith_26 : decode cX4_isApartWith 26 = .ok (.ireturn, 1) := by decide +kernel
theorem dX4_turn_0 : decode cX4_turn 0 = .ok (.iload_n 1, 1) := by decide +kernel
theorem dX4_turn_1 : decode cX4_turn 1 = .ok (.ifCond .lt 25, 3) := by decide +kernel
theorem dX4_turn_4 : decode cX4_turn 4 = .ok (.iload_n 1, 1) := by decide +kernel
theorem dX4_turn_5 : decode cX4_turn 5 = .ok (.bipush 30, 2) := by decide +kernel
theorem dX4_turn_7 : decode cX4_turn 7 = .ok (.if_icmp .ge 19, 3) := by decide +kernel
theorem dX4_turn_10 : decode cX4_turn 10 = .ok (.aload_n 0, 1) := by decide +kernel
theorem dX4_turn_11 : decode cX4_turn 11 = .ok (.getfield 45, 3) := by decide +kernel
theorem dX4_turn_14 : decode cX4_turn 14 = .ok (.iload_n 1, 1) := by decide +kernel
theorem dX4_turn_15 : decode cX4_turn 15 = .ok (.iconst 5, 1) := by decide +kernel
theorem dX4_turn_16 : decode cX4_turn 16 = .ok (.idiv, 1) := by decide +kernel
theorem dX4_turn_17 : decode cX4_turn 17 = .ok (.dup2, 1) := by decide +kernel
theorem dX4_turn_18 : decode cX4_turn 18 = .ok (.iaload, 1) := by decide +kernel
theorem dX4_turn_19 : decode cX4_turn 19 = .ok (.iconst 1, 1) := by decide +kernel
theorem dX4_turn_20 : decode cX4_turn 20 = .ok (.iload_n 1, 1) := by decide +kernel
theorem dX4_turn_21 : decode cX4_turn 21 = .ok (.iconst 5, 1) := by decide +kernel
theorem dX4_turn_22 : decode cX4_turn 22 = .ok (.irem, 1) := by decide +kernel
theorem dX4_turn_23 : decode cX4_turn 23 = .ok (.ishl, 1) := by decide +kernel
theorem dX4_turn_24 : decode cX4_turn 24 = .ok (.ixor, 1) := by decide +kernel
theorem dX4_turn_25 : decode cX4_turn 25 = .ok (.iastore, 1) := by decide +kernel
theorem dX4_turn_26 : decode cX4_turn 26 = .ok (.return_, 1) := by decide +kernel
theorem dX4_tenTimesPeakAndTrimming_0 : decode cX4_tenTimesPeakAndTrimming 0 = .ok (.bipush 10, 2) := by decide +kernel
theorem dX4_tenTimesPeakAndTrimming_2 : decode cX4_tenTimesPeakAndTrimming 2 = .ok (.iload_n 0, 1) := by decide +kernel
theorem dX4_tenTimesPeakAndTrimming_3 : decode cX4_tenTimesPeakAndTrimming 3 = .ok (.iconst 5, 1) := by decide +kernel
theorem dX4_tenTimesPeakAndTrimming_4 : decode cX4_tenTimesPeakAndTrimming 4 = .ok (.idiv, 1) := by decide +kernel
theorem dX4_tenTimesPeakAndTrimming_5 : decode cX4_tenTimesPeakAndTrimming 5 = .ok (.imul, 1) := by decide +kernel
theorem dX4_tenTimesPeakAndTrimming_6 : decode cX4_tenTimesPeakAndTrimming 6 = .ok (.iload_n 0, 1) := by decide +kernel
theorem dX4_tenTimesPeakAndTrimming_7 : decode cX4_tenTimesPeakAndTrimming 7 = .ok (.iconst 5, 1) := by decide +kernel
theorem dX4_tenTimesPeakAndTrimming_8 : decode cX4_tenTimesPeakAndTrimming 8 = .ok (.irem, 1) := by decide +kernel
theorem dX4_tenTimesPeakAndTrimming_9 : decode cX4_tenTimesPeakAndTrimming 9 = .ok (.iadd, 1) := by decide +kernel
theorem dX4_tenTimesPeakAndTrimming_10 : decode cX4_tenTimesPeakAndTrimming 10 = .ok (.ireturn, 1) := by decide +kernel
theorem dX4_bestToAsk_0 : decode cX4_bestToAsk 0 = .ok (.bipush (-4), 2) := by decide +kernel
theorem dX4_bestToAsk_2 : decode cX4_bestToAsk 2 = .ok (.istore_n 2, 1) := by decide +kernel
theorem dX4_bestToAsk_3 : decode cX4_bestToAsk 3 = .ok (.iconst 0, 1) := by decide +kernel
theorem dX4_bestToAsk_4 : decode cX4_bestToAsk 4 = .ok (.istore_n 3, 1) := by decide +kernel
theorem dX4_bestToAsk_5 : decode cX4_bestToAsk 5 = .ok (.iload_n 3, 1) := by decide +kernel
theorem dX4_bestToAsk_6 : decode cX4_bestToAsk 6 = .ok (.iconst 5, 1) := by decide +kernel
theorem dX4_bestToAsk_7 : decode cX4_bestToAsk 7 = .ok (.if_icmp .ge 61, 3) := by decide +kernel
theorem dX4_bestToAsk_10 : decode cX4_bestToAsk 10 = .ok (.aload_n 0, 1) := by decide +kernel
theorem dX4_bestToAsk_11 : decode cX4_bestToAsk 11 = .ok (.getfield 203, 3) := by decide +kernel
theorem dX4_bestToAsk_14 : decode cX4_bestToAsk 14 = .ok (.aload_n 0, 1) := by decide +kernel
theorem dX4_bestToAsk_15 : decode cX4_bestToAsk 15 = .ok (.getfield 206, 3) := by decide +kernel
theorem dX4_bestToAsk_18 : decode cX4_bestToAsk 18 = .ok (.ior, 1) := by decide +kernel
theorem dX4_bestToAsk_19 : decode cX4_bestToAsk 19 = .ok (.iload_n 3, 1) := by decide +kernel
theorem dX4_bestToAsk_20 : decode cX4_bestToAsk 20 = .ok (.ishr, 1) := by decide +kernel
theorem dX4_bestToAsk_21 : decode cX4_bestToAsk 21 = .ok (.iconst 1, 1) := by decide +kernel
theorem dX4_bestToAsk_22 : decode cX4_bestToAsk 22 = .ok (.iand, 1) := by decide +kernel
theorem dX4_bestToAsk_23 : decode cX4_bestToAsk 23 = .ok (.iconst 1, 1) := by decide +kernel
theorem dX4_bestToAsk_24 : decode cX4_bestToAsk 24 = .ok (.if_icmp .ne 7, 3) := by decide +kernel
theorem dX4_bestToAsk_27 : decode cX4_bestToAsk 27 = .ok (.iconst 1, 1) := by decide +kernel
theorem dX4_bestToAsk_28 : decode cX4_bestToAsk 28 = .ok (.goto 4, 3) := by decide +kernel
theorem dX4_bestToAsk_31 : decode cX4_bestToAsk 31 = .ok (.iconst 0, 1) := by decide +kernel
theorem dX4_bestToAsk_32 : decode cX4_bestToAsk 32 = .ok (.istore 4, 2) := by decide +kernel
theorem dX4_bestToAsk_34 : decode cX4_bestToAsk 34 = .ok (.iload 4, 2) := by decide +kernel
theorem dX4_bestToAsk_36 : decode cX4_bestToAsk 36 = .ok (.ifCond .ne 26, 3) := by decide +kernel
theorem dX4_bestToAsk_39 : decode cX4_bestToAsk 39 = .ok (.iload_n 2, 1) := by decide +kernel
theorem dX4_bestToAsk_40 : decode cX4_bestToAsk 40 = .ok (.bipush (-4), 2) := by decide +kernel
theorem dX4_bestToAsk_42 : decode cX4_bestToAsk 42 = .ok (.if_icmp .eq 18, 3) := by decide +kernel
theorem dX4_bestToAsk_45 : decode cX4_bestToAsk 45 = .ok (.aload_n 0, 1) := by decide +kernel
theorem dX4_bestToAsk_46 : decode cX4_bestToAsk 46 = .ok (.iload_n 1, 1) := by decide +kernel
theorem dX4_bestToAsk_47 : decode cX4_bestToAsk 47 = .ok (.iload_n 3, 1) := by decide +kernel
theorem dX4_bestToAsk_48 : decode cX4_bestToAsk 48 = .ok (.invokevirtual 215, 3) := by decide +kernel
theorem dX4_bestToAsk_51 : decode cX4_bestToAsk 51 = .ok (.aload_n 0, 1) := by decide +kernel
theorem dX4_bestToAsk_52 : decode cX4_bestToAsk 52 = .ok (.iload_n 1, 1) := by decide +kernel
theorem dX4_bestToAsk_53 : decode cX4_bestToAsk 53 = .ok (.iload_n 2, 1) := by decide +kernel
theorem dX4_bestToAsk_54 : decode cX4_bestToAsk 54 = .ok (.invokevirtual 215, 3) := by decide +kernel
theorem dX4_bestToAsk_57 : decode cX4_bestToAsk 57 = .ok (.if_icmp .ge 5, 3) := by decide +kernel
theorem dX4_bestToAsk_60 : decode cX4_bestToAsk 60 = .ok (.iload_n 3, 1) := by decide +kernel
theorem dX4_bestToAsk_61 : decode cX4_bestToAsk 61 = .ok (.istore_n 2, 1) := by decide +kernel
theorem dX4_bestToAsk_62 : decode cX4_bestToAsk 62 = .ok (.iinc 3 1, 3) := by decide +kernel
theorem dX4_bestToAsk_65 : decode cX4_bestToAsk 65 = .ok (.goto (-60), 3) := by decide +kernel
theorem dX4_bestToAsk_68 : decode cX4_bestToAsk 68 = .ok (.iload_n 2, 1) := by decide +kernel
theorem dX4_bestToAsk_69 : decode cX4_bestToAsk 69 = .ok (.ireturn, 1) := by decide +kernel
theorem dX4_greaterPart_0 : decode cX4_greaterPart 0 = .ok (.iconst 0, 1) := by decide +kernel
theorem dX4_greaterPart_1 : decode cX4_greaterPart 1 = .ok (.istore_n 3, 1) := by decide +kernel
theorem dX4_greaterPart_2 : decode cX4_greaterPart 2 = .ok (.iconst 0, 1) := by decide +kernel
theorem dX4_greaterPart_3 : decode cX4_greaterPart 3 = .ok (.istore 4, 2) := by decide +kernel
theorem dX4_greaterPart_5 : decode cX4_greaterPart 5 = .ok (.iload 4, 2) := by decide +kernel
theorem dX4_greaterPart_7 : decode cX4_greaterPart 7 = .ok (.aload_n 0, 1) := by decide +kernel
theorem dX4_greaterPart_8 : decode cX4_greaterPart 8 = .ok (.getfield 19, 3) := by decide +kernel
theorem dX4_greaterPart_11 : decode cX4_greaterPart 11 = .ok (.getfield 80, 3) := by decide +kernel
theorem dX4_greaterPart_14 : decode cX4_greaterPart 14 = .ok (.if_icmp .ge 35, 3) := by decide +kernel
theorem dX4_greaterPart_17 : decode cX4_greaterPart 17 = .ok (.iload_n 1, 1) := by decide +kernel
theorem dX4_greaterPart_18 : decode cX4_greaterPart 18 = .ok (.iload 4, 2) := by decide +kernel
theorem dX4_greaterPart_20 : decode cX4_greaterPart 20 = .ok (.ishr, 1) := by decide +kernel
theorem dX4_greaterPart_21 : decode cX4_greaterPart 21 = .ok (.iconst 1, 1) := by decide +kernel
theorem dX4_greaterPart_22 : decode cX4_greaterPart 22 = .ok (.iand, 1) := by decide +kernel
theorem dX4_greaterPart_23 : decode cX4_greaterPart 23 = .ok (.iconst 1, 1) := by decide +kernel
theorem dX4_greaterPart_24 : decode cX4_greaterPart 24 = .ok (.if_icmp .ne 19, 3) := by decide +kernel
theorem dX4_greaterPart_27 : decode cX4_greaterPart 27 = .ok (.aload_n 0, 1) := by decide +kernel
theorem dX4_greaterPart_28 : decode cX4_greaterPart 28 = .ok (.getfield 26, 3) := by decide +kernel
theorem dX4_greaterPart_31 : decode cX4_greaterPart 31 = .ok (.iload 4, 2) := by decide +kernel
theorem dX4_greaterPart_33 : decode cX4_greaterPart 33 = .ok (.iload_n 2, 1) := by decide +kernel
theorem dX4_greaterPart_34 : decode cX4_greaterPart 34 = .ok (.invokevirtual 140, 3) := by decide +kernel
theorem dX4_greaterPart_37 : decode cX4_greaterPart 37 = .ok (.ifCond .eq 6, 3) := by decide +kernel
theorem dX4_greaterPart_40 : decode cX4_greaterPart 40 = .ok (.iinc 3 1, 3) := by decide +kernel
theorem dX4_greaterPart_43 : decode cX4_greaterPart 43 = .ok (.iinc 4 1, 3) := by decide +kernel
theorem dX4_greaterPart_46 : decode cX4_greaterPart 46 = .ok (.goto (-41), 3) := by decide +kernel
theorem dX4_greaterPart_49 : decode cX4_greaterPart 49 = .ok (.iload_n 3, 1) := by decide +kernel
theorem dX4_greaterPart_50 : decode cX4_greaterPart 50 = .ok (.iload_n 1, 1) := by decide +kernel
theorem dX4_greaterPart_51 : decode cX4_greaterPart 51 = .ok (.invokestatic 189, 3) := by decide +kernel
theorem dX4_greaterPart_54 : decode cX4_greaterPart 54 = .ok (.iload_n 3, 1) := by decide +kernel
theorem dX4_greaterPart_55 : decode cX4_greaterPart 55 = .ok (.isub, 1) := by decide +kernel
theorem dX4_greaterPart_56 : decode cX4_greaterPart 56 = .ok (.invokestatic 268, 3) := by decide +kernel
theorem dX4_greaterPart_59 : decode cX4_greaterPart 59 = .ok (.ireturn, 1) := by decide +kernel
theorem dX4_fitsGuideOf_0 : decode cX4_fitsGuideOf 0 = .ok (.aload_n 0, 1) := by decide +kernel
theorem dX4_fitsGuideOf_1 : decode cX4_fitsGuideOf 1 = .ok (.getfield 26, 3) := by decide +kernel
theorem dX4_fitsGuideOf_4 : decode cX4_fitsGuideOf 4 = .ok (.iload_n 1, 1) := by decide +kernel
theorem dX4_fitsGuideOf_5 : decode cX4_fitsGuideOf 5 = .ok (.invokevirtual 94, 3) := by decide +kernel
theorem dX4_fitsGuideOf_8 : decode cX4_fitsGuideOf 8 = .ok (.aload_n 0, 1) := by decide +kernel
theorem dX4_fitsGuideOf_9 : decode cX4_fitsGuideOf 9 = .ok (.getfield 26, 3) := by decide +kernel
theorem dX4_fitsGuideOf_12 : decode cX4_fitsGuideOf 12 = .ok (.iload_n 2, 1) := by decide +kernel
theorem dX4_fitsGuideOf_13 : decode cX4_fitsGuideOf 13 = .ok (.invokevirtual 97, 3) := by decide +kernel
theorem dX4_fitsGuideOf_16 : decode cX4_fitsGuideOf 16 = .ok (.iconst (-1), 1) := by decide +kernel
theorem dX4_fitsGuideOf_17 : decode cX4_fitsGuideOf 17 = .ok (.ixor, 1) := by decide +kernel
theorem dX4_fitsGuideOf_18 : decode cX4_fitsGuideOf 18 = .ok (.iand, 1) := by decide +kernel
theorem dX4_fitsGuideOf_19 : decode cX4_fitsGuideOf 19 = .ok (.ifCond .ne 7, 3) := by decide +kernel
theorem dX4_fitsGuideOf_22 : decode cX4_fitsGuideOf 22 = .ok (.iconst 1, 1) := by decide +kernel
theorem dX4_fitsGuideOf_23 : decode cX4_fitsGuideOf 23 = .ok (.goto 4, 3) := by decide +kernel
theorem dX4_fitsGuideOf_26 : decode cX4_fitsGuideOf 26 = .ok (.iconst 0, 1) := by decide +kernel
theorem dX4_fitsGuideOf_27 : decode cX4_fitsGuideOf 27 = .ok (.ireturn, 1) := by decide +kernel
theorem dX4_countWays_0 : decode cX4_countWays 0 = .ok (.iconst 1, 1) := by decide +kernel
theorem dX4_countWays_1 : decode cX4_countWays 1 = .ok (.aload_n 0, 1) := by decide +kernel
theorem dX4_countWays_2 : decode cX4_countWays 2 = .ok (.getfield 19, 3) := by decide +kernel
theorem dX4_countWays_5 : decode cX4_countWays 5 = .ok (.getfield 80, 3) := by decide +kernel
theorem dX4_countWays_8 : decode cX4_countWays 8 = .ok (.ishl, 1) := by decide +kernel
theorem dX4_countWays_9 : decode cX4_countWays 9 = .ok (.iconst 1, 1) := by decide +kernel
theorem dX4_countWays_10 : decode cX4_countWays 10 = .ok (.isub, 1) := by decide +kernel
theorem dX4_countWays_11 : decode cX4_countWays 11 = .ok (.istore_n 1, 1) := by decide +kernel
theorem dX4_countWays_12 : decode cX4_countWays 12 = .ok (.iload_n 1, 1) := by decide +kernel
theorem dX4_countWays_13 : decode cX4_countWays 13 = .ok (.istore_n 2, 1) := by decide +kernel
theorem dX4_countWays_14 : decode cX4_countWays 14 = .ok (.iload_n 2, 1) := by decide +kernel
theorem dX4_countWays_15 : decode cX4_countWays 15 = .ok (.ifCond .lt 84, 3) := by decide +kernel
theorem dX4_countWays_18 : decode cX4_countWays 18 = .ok (.iload_n 2, 1) := by decide +kernel
theorem dX4_countWays_19 : decode cX4_countWays 19 = .ok (.iload_n 1, 1) := by decide +kernel
theorem dX4_countWays_20 : decode cX4_countWays 20 = .ok (.if_icmp .ne 7, 3) := by decide +kernel
theorem dX4_countWays_23 : decode cX4_countWays 23 = .ok (.iconst 1, 1) := by decide +kernel
theorem dX4_countWays_24 : decode cX4_countWays 24 = .ok (.goto 4, 3) := by decide +kernel
theorem dX4_countWays_27 : decode cX4_countWays 27 = .ok (.iconst 0, 1) := by decide +kernel
theorem dX4_countWays_28 : decode cX4_countWays 28 = .ok (.istore_n 3, 1) := by decide +kernel
theorem dX4_countWays_29 : decode cX4_countWays 29 = .ok (.iconst 0, 1) := by decide +kernel
theorem dX4_countWays_30 : decode cX4_countWays 30 = .ok (.istore 4, 2) := by decide +kernel
theorem dX4_countWays_32 : decode cX4_countWays 32 = .ok (.iload 4, 2) := by decide +kernel
theorem dX4_countWays_34 : decode cX4_countWays 34 = .ok (.aload_n 0, 1) := by decide +kernel
theorem dX4_countWays_35 : decode cX4_countWays 35 = .ok (.getfield 19, 3) := by decide +kernel
theorem dX4_countWays_38 : decode cX4_countWays 38 = .ok (.getfield 80, 3) := by decide +kernel
theorem dX4_countWays_41 : decode cX4_countWays 41 = .ok (.if_icmp .ge 45, 3) := by decide +kernel
theorem dX4_countWays_44 : decode cX4_countWays 44 = .ok (.iload_n 2, 1) := by decide +kernel
theorem dX4_countWays_45 : decode cX4_countWays 45 = .ok (.iload 4, 2) := by decide +kernel
theorem dX4_countWays_47 : decode cX4_countWays 47 = .ok (.ishr, 1) := by decide +kernel
theorem dX4_countWays_48 : decode cX4_countWays 48 = .ok (.iconst 1, 1) := by decide +kernel
theorem dX4_countWays_49 : decode cX4_countWays 49 = .ok (.iand, 1) := by decide +kernel
theorem dX4_countWays_50 : decode cX4_countWays 50 = .ok (.ifCond .ne 30, 3) := by decide +kernel
theorem dX4_countWays_53 : decode cX4_countWays 53 = .ok (.aload_n 0, 1) := by decide +kernel
theorem dX4_countWays_54 : decode cX4_countWays 54 = .ok (.iload_n 2, 1) := by decide +kernel
theorem dX4_countWays_55 : decode cX4_countWays 55 = .ok (.invokestatic 189, 3) := by decide +kernel
theorem dX4_countWays_58 : decode cX4_countWays 58 = .ok (.iload 4, 2) := by decide +kernel
theorem dX4_countWays_60 : decode cX4_countWays 60 = .ok (.invokevirtual 291, 3) := by decide +kernel
theorem dX4_countWays_63 : decode cX4_countWays 63 = .ok (.ifCond .eq 17, 3) := by decide +kernel
theorem dX4_countWays_66 : decode cX4_countWays 66 = .ok (.iload_n 3, 1) := by decide +kernel
theorem dX4_countWays_67 : decode cX4_countWays 67 = .ok (.aload_n 0, 1) := by decide +kernel
theorem dX4_countWays_68 : decode cX4_countWays 68 = .ok (.getfield 52, 3) := by decide +kernel
theorem dX4_countWays_71 : decode cX4_countWays 71 = .ok (.iload_n 2, 1) := by decide +kernel
theorem dX4_countWays_72 : decode cX4_countWays 72 = .ok (.iconst 1, 1) := by decide +kernel
theorem dX4_countWays_73 : decode cX4_countWays 73 = .ok (.iload 4, 2) := by decide +kernel
theorem dX4_countWays_75 : decode cX4_countWays 75 = .ok (.ishl, 1) := by decide +kernel
theorem dX4_countWays_76 : decode cX4_countWays 76 = .ok (.ior, 1) := by decide +kernel
theorem dX4_countWays_77 : decode cX4_countWays 77 = .ok (.iaload, 1) := by decide +kernel
theorem dX4_countWays_78 : decode cX4_countWays 78 = .ok (.iadd, 1) := by decide +kernel
theorem dX4_countWays_79 : decode cX4_countWays 79 = .ok (.istore_n 3, 1) := by decide +kernel
theorem dX4_countWays_80 : decode cX4_countWays 80 = .ok (.iinc 4 1, 3) := by decide +kernel
theorem dX4_countWays_83 : decode cX4_countWays 83 = .ok (.goto (-51), 3) := by decide +kernel
theorem dX4_countWays_86 : decode cX4_countWays 86 = .ok (.aload_n 0, 1) := by decide +kernel
theorem dX4_countWays_87 : decode cX4_countWays 87 = .ok (.getfield 52, 3) := by decide +kernel
theorem dX4_countWays_90 : decode cX4_countWays 90 = .ok (.iload_n 2, 1) := by decide +kernel
theorem dX4_countWays_91 : decode cX4_countWays 91 = .ok (.iload_n 3, 1) := by decide +kernel
theorem dX4_countWays_92 : decode cX4_countWays 92 = .ok (.iastore, 1) := by decide +kernel
theorem dX4_countWays_93 : decode cX4_countWays 93 = .ok (.iinc 2 (-1), 3) := by decide +kernel
theorem dX4_countWays_96 : decode cX4_countWays 96 = .ok (.goto (-82), 3) := by decide +kernel
theorem dX4_countWays_99 : decode cX4_countWays 99 = .ok (.return_, 1) := by decide +kernel
theorem dX4_guideInFirstWay_0 : decode cX4_guideInFirstWay 0 = .ok (.iconst 0, 1) := by decide +kernel
theorem dX4_guideInFirstWay_1 : decode cX4_guideInFirstWay 1 = .ok (.istore_n 2, 1) := by decide +kernel
theorem dX4_guideInFirstWay_2 : decode cX4_guideInFirstWay 2 = .ok (.bipush (-4), 2) := by decide +kernel
theorem dX4_guideInFirstWay_4 : decode cX4_guideInFirstWay 4 = .ok (.istore_n 3, 1) := by decide +kernel
theorem dX4_guideInFirstWay_5 : decode cX4_guideInFirstWay 5 = .ok (.iconst 0, 1) := by decide +kernel
theorem dX4_guideInFirstWay_6 : decode cX4_guideInFirstWay 6 = .ok (.istore 4, 2) := by decide +kernel
theorem dX4_guideInFirstWay_8 : decode cX4_guideInFirstWay 8 = .ok (.iload 4, 2) := by decide +kernel
theorem dX4_guideInFirstWay_10 : decode cX4_guideInFirstWay 10 = .ok (.iload_n 1, 1) := by decide +kernel
theorem dX4_guideInFirstWay_11 : decode cX4_guideInFirstWay 11 = .ok (.if_icmp .gt 32, 3) := by decide +kernel
theorem dX4_guideInFirstWay_14 : decode cX4_guideInFirstWay 14 = .ok (.aload_n 0, 1) := by decide +kernel
theorem dX4_guideInFirstWay_15 : decode cX4_guideInFirstWay 15 = .ok (.iload 4, 2) := by decide +kernel
theorem dX4_guideInFirstWay_17 : decode cX4_guideInFirstWay 17 = .ok (.iload_n 2, 1) := by decide +kernel
theorem dX4_guideInFirstWay_18 : decode cX4_guideInFirstWay 18 = .ok (.invokevirtual 294, 3) := by decide +kernel
theorem dX4_guideInFirstWay_21 : decode cX4_guideInFirstWay 21 = .ok (.istore_n 3, 1) := by decide +kernel
theorem dX4_guideInFirstWay_22 : decode cX4_guideInFirstWay 22 = .ok (.iload_n 3, 1) := by decide +kernel
theorem dX4_guideInFirstWay_23 : decode cX4_guideInFirstWay 23 = .ok (.bipush (-4), 2) := by decide +kernel
theorem dX4_guideInFirstWay_25 : decode cX4_guideInFirstWay 25 = .ok (.if_icmp .ne 6, 3) := by decide +kernel
theorem dX4_guideInFirstWay_28 : decode cX4_guideInFirstWay 28 = .ok (.bipush (-4), 2) := by decide +kernel
theorem dX4_guideInFirstWay_30 : decode cX4_guideInFirstWay 30 = .ok (.ireturn, 1) := by decide +kernel
theorem dX4_guideInFirstWay_31 : decode cX4_guideInFirstWay 31 = .ok (.iload_n 2, 1) := by decide +kernel
theorem dX4_guideInFirstWay_32 : decode cX4_guideInFirstWay 32 = .ok (.iconst 1, 1) := by decide +kernel
theorem dX4_guideInFirstWay_33 : decode cX4_guideInFirstWay 33 = .ok (.iload_n 3, 1) := by decide +kernel
theorem dX4_guideInFirstWay_34 : decode cX4_guideInFirstWay 34 = .ok (.ishl, 1) := by decide +kernel
theorem dX4_guideInFirstWay_35 : decode cX4_guideInFirstWay 35 = .ok (.ior, 1) := by decide +kernel
theorem dX4_guideInFirstWay_36 : decode cX4_guideInFirstWay 36 = .ok (.istore_n 2, 1) := by decide +kernel
theorem dX4_guideInFirstWay_37 : decode cX4_guideInFirstWay 37 = .ok (.iinc 4 1, 3) := by decide +kernel
theorem dX4_guideInFirstWay_40 : decode cX4_guideInFirstWay 40 = .ok (.goto (-32), 3) := by decide +kernel
theorem dX4_guideInFirstWay_43 : decode cX4_guideInFirstWay 43 = .ok (.iload_n 3, 1) := by decide +kernel
theorem dX4_guideInFirstWay_44 : decode cX4_guideInFirstWay 44 = .ok (.ireturn, 1) := by decide +kernel
theorem dX4_lowestGuideFor_0 : decode cX4_lowestGuideFor 0 = .ok (.iconst 0, 1) := by decide +kernel
theorem dX4_lowestGuideFor_1 : decode cX4_lowestGuideFor 1 = .ok (.istore_n 3, 1) := by decide +kernel
theorem dX4_lowestGuideFor_2 : decode cX4_lowestGuideFor 2 = .ok (.iload_n 3, 1) := by decide +kernel
theorem dX4_lowestGuideFor_3 : decode cX4_lowestGuideFor 3 = .ok (.aload_n 0, 1) := by decide +kernel
theorem dX4_lowestGuideFor_4 : decode cX4_lowestGuideFor 4 = .ok (.getfield 19, 3) := by decide +kernel
theorem dX4_lowestGuideFor_7 : decode cX4_lowestGuideFor 7 = .ok (.getfield 80, 3) := by decide +kernel
theorem dX4_lowestGuideFor_10 : decode cX4_lowestGuideFor 10 = .ok (.if_icmp .ge 53, 3) := by decide +kernel
theorem dX4_lowestGuideFor_13 : decode cX4_lowestGuideFor 13 = .ok (.iload_n 2, 1) := by decide +kernel
theorem dX4_lowestGuideFor_14 : decode cX4_lowestGuideFor 14 = .ok (.iload_n 3, 1) := by decide +kernel
theorem dX4_lowestGuideFor_15 : decode cX4_lowestGuideFor 15 = .ok (.ishr, 1) := by decide +kernel
theorem dX4_lowestGuideFor_16 : decode cX4_lowestGuideFor 16 = .ok (.iconst 1, 1) := by decide +kernel
theorem dX4_lowestGuideFor_17 : decode cX4_lowestGuideFor 17 = .ok (.iand, 1) := by decide +kernel
theorem dX4_lowestGuideFor_18 : decode cX4_lowestGuideFor 18 = .ok (.ifCond .ne 7, 3) := by decide +kernel
theorem dX4_lowestGuideFor_21 : decode cX4_lowestGuideFor 21 = .ok (.iconst 1, 1) := by decide +kernel
theorem dX4_lowestGuideFor_22 : decode cX4_lowestGuideFor 22 = .ok (.goto 4, 3) := by decide +kernel
theorem dX4_lowestGuideFor_25 : decode cX4_lowestGuideFor 25 = .ok (.iconst 0, 1) := by decide +kernel
theorem dX4_lowestGuideFor_26 : decode cX4_lowestGuideFor 26 = .ok (.istore 4, 2) := by decide +kernel
theorem dX4_lowestGuideFor_28 : decode cX4_lowestGuideFor 28 = .ok (.iload 4, 2) := by decide +kernel
theorem dX4_lowestGuideFor_30 : decode cX4_lowestGuideFor 30 = .ok (.ifCond .eq 27, 3) := by decide +kernel
theorem dX4_lowestGuideFor_33 : decode cX4_lowestGuideFor 33 = .ok (.aload_n 0, 1) := by decide +kernel
theorem dX4_lowestGuideFor_34 : decode cX4_lowestGuideFor 34 = .ok (.iload_n 1, 1) := by decide +kernel
theorem dX4_lowestGuideFor_35 : decode cX4_lowestGuideFor 35 = .ok (.iload_n 3, 1) := by decide +kernel
theorem dX4_lowestGuideFor_36 : decode cX4_lowestGuideFor 36 = .ok (.invokevirtual 291, 3) := by decide +kernel
theorem dX4_lowestGuideFor_39 : decode cX4_lowestGuideFor 39 = .ok (.ifCond .eq 18, 3) := by decide +kernel
theorem dX4_lowestGuideFor_42 : decode cX4_lowestGuideFor 42 = .ok (.aload_n 0, 1) := by decide +kernel
theorem dX4_lowestGuideFor_43 : decode cX4_lowestGuideFor 43 = .ok (.getfield 52, 3) := by decide +kernel
theorem dX4_lowestGuideFor_46 : decode cX4_lowestGuideFor 46 = .ok (.iload_n 2, 1) := by decide +kernel
theorem dX4_lowestGuideFor_47 : decode cX4_lowestGuideFor 47 = .ok (.iconst 1, 1) := by decide +kernel
theorem dX4_lowestGuideFor_48 : decode cX4_lowestGuideFor 48 = .ok (.iload_n 3, 1) := by decide +kernel
theorem dX4_lowestGuideFor_49 : decode cX4_lowestGuideFor 49 = .ok (.ishl, 1) := by decide +kernel
theorem dX4_lowestGuideFor_50 : decode cX4_lowestGuideFor 50 = .ok (.ior, 1) := by decide +kernel
theorem dX4_lowestGuideFor_51 : decode cX4_lowestGuideFor 51 = .ok (.iaload, 1) := by decide +kernel
theorem dX4_lowestGuideFor_52 : decode cX4_lowestGuideFor 52 = .ok (.ifCond .le 5, 3) := by decide +kernel
theorem dX4_lowestGuideFor_55 : decode cX4_lowestGuideFor 55 = .ok (.iload_n 3, 1) := by decide +kernel
theorem dX4_lowestGuideFor_56 : decode cX4_lowestGuideFor 56 = .ok (.ireturn, 1) := by decide +kernel
theorem dX4_lowestGuideFor_57 : decode cX4_lowestGuideFor 57 = .ok (.iinc 3 1, 3) := by decide +kernel
theorem dX4_lowestGuideFor_60 : decode cX4_lowestGuideFor 60 = .ok (.goto (-58), 3) := by decide +kernel
theorem dX4_lowestGuideFor_63 : decode cX4_lowestGuideFor 63 = .ok (.bipush (-4), 2) := by decide +kernel
theorem dX4_lowestGuideFor_65 : decode cX4_lowestGuideFor 65 = .ok (.ireturn, 1) := by decide +kernel
theorem dX4_waysToStay_0 : decode cX4_waysToStay 0 = .ok (.iload_n 1, 1) := by decide +kernel
theorem dX4_waysToStay_1 : decode cX4_waysToStay 1 = .ok (.ifCond .lt 23, 3) := by decide +kernel
theorem dX4_waysToStay_4 : decode cX4_waysToStay 4 = .ok (.iload_n 1, 1) := by decide +kernel
theorem dX4_waysToStay_5 : decode cX4_waysToStay 5 = .ok (.bipush 8, 2) := by decide +kernel
theorem dX4_waysToStay_7 : decode cX4_waysToStay 7 = .ok (.if_icmp .gt 17, 3) := by decide +kernel
theorem dX4_waysToStay_10 : decode cX4_waysToStay 10 = .ok (.aload_n 0, 1) := by decide +kernel
theorem dX4_waysToStay_11 : decode cX4_waysToStay 11 = .ok (.getfield 55, 3) := by decide +kernel
theorem dX4_waysToStay_14 : decode cX4_waysToStay 14 = .ok (.iload_n 1, 1) := by decide +kernel
theorem dX4_waysToStay_15 : decode cX4_waysToStay 15 = .ok (.iconst 5, 1) := by decide +kernel
theorem dX4_waysToStay_16 : decode cX4_waysToStay 16 = .ok (.imul, 1) := by decide +kernel
theorem dX4_waysToStay_17 : decode cX4_waysToStay 17 = .ok (.iload 4, 2) := by decide +kernel
theorem dX4_waysToStay_19 : decode cX4_waysToStay 19 = .ok (.iadd, 1) := by decide +kernel
theorem dX4_waysToStay_20 : decode cX4_waysToStay 20 = .ok (.iaload, 1) := by decide +kernel
theorem dX4_waysToStay_21 : decode cX4_waysToStay 21 = .ok (.ifCond .ne 5, 3) := by decide +kernel
theorem dX4_waysToStay_24 : decode cX4_waysToStay 24 = .ok (.iconst 0, 1) := by decide +kernel
theorem dX4_waysToStay_25 : decode cX4_waysToStay 25 = .ok (.ireturn, 1) := by decide +kernel
theorem dX4_waysToStay_26 : decode cX4_waysToStay 26 = .ok (.iload_n 1, 1) := by decide +kernel
theorem dX4_waysToStay_27 : decode cX4_waysToStay 27 = .ok (.iload_n 2, 1) := by decide +kernel
theorem dX4_waysToStay_28 : decode cX4_waysToStay 28 = .ok (.if_icmp .lt 5, 3) := by decide +kernel
theorem dX4_waysToStay_31 : decode cX4_waysToStay 31 = .ok (.iconst 1, 1) := by decide +kernel
theorem dX4_waysToStay_32 : decode cX4_waysToStay 32 = .ok (.ireturn, 1) := by decide +kernel
theorem dX4_waysToStay_33 : decode cX4_waysToStay 33 = .ok (.iconst 0, 1) := by decide +kernel
theorem dX4_waysToStay_34 : decode cX4_waysToStay 34 = .ok (.istore 6, 2) := by decide +kernel
theorem dX4_waysToStay_36 : decode cX4_waysToStay 36 = .ok (.iload 5, 2) := by decide +kernel
theorem dX4_waysToStay_38 : decode cX4_waysToStay 38 = .ok (.ifCond .le 35, 3) := by decide +kernel
theorem dX4_waysToStay_41 : decode cX4_waysToStay 41 = .ok (.aload_n 0, 1) := by decide +kernel
theorem dX4_waysToStay_42 : decode cX4_waysToStay 42 = .ok (.iload_n 1, 1) := by decide +kernel
theorem dX4_waysToStay_43 : decode cX4_waysToStay 43 = .ok (.iload_n 3, 1) := by decide +kernel
theorem dX4_waysToStay_44 : decode cX4_waysToStay 44 = .ok (.bipush 20, 2) := by decide +kernel
theorem dX4_waysToStay_46 : decode cX4_waysToStay 46 = .ok (.invokevirtual 297, 3) := by decide +kernel
theorem dX4_waysToStay_49 : decode cX4_waysToStay 49 = .ok (.ifCond .eq 24, 3) := by decide +kernel
theorem dX4_waysToStay_52 : decode cX4_waysToStay 52 = .ok (.iload 6, 2) := by decide +kernel
theorem dX4_waysToStay_54 : decode cX4_waysToStay 54 = .ok (.iload 5, 2) := by decide +kernel
theorem dX4_waysToStay_56 : decode cX4_waysToStay 56 = .ok (.aload_n 0, 1) := by decide +kernel
theorem dX4_waysToStay_57 : decode cX4_waysToStay 57 = .ok (.iload_n 1, 1) := by decide +kernel
theorem dX4_waysToStay_58 : decode cX4_waysToStay 58 = .ok (.iconst 1, 1) := by decide +kernel
theorem dX4_waysToStay_59 : decode cX4_waysToStay 59 = .ok (.iadd, 1) := by decide +kernel
theorem dX4_waysToStay_60 : decode cX4_waysToStay 60 = .ok (.iload_n 2, 1) := by decide +kernel
theorem dX4_waysToStay_61 : decode cX4_waysToStay 61 = .ok (.iload_n 3, 1) := by decide +kernel
theorem dX4_waysToStay_62 : decode cX4_waysToStay 62 = .ok (.iload 4, 2) := by decide +kernel
theorem dX4_waysToStay_64 : decode cX4_waysToStay 64 = .ok (.iload 5, 2) := by decide +kernel
theorem dX4_waysToStay_66 : decode cX4_waysToStay 66 = .ok (.invokevirtual 224, 3) := by decide +kernel
theorem dX4_waysToStay_69 : decode cX4_waysToStay 69 = .ok (.imul, 1) := by decide +kernel
theorem dX4_waysToStay_70 : decode cX4_waysToStay 70 = .ok (.iadd, 1) := by decide +kernel
theorem dX4_waysToStay_71 : decode cX4_waysToStay 71 = .ok (.istore 6, 2) := by decide +kernel
theorem dX4_waysToStay_73 : decode cX4_waysToStay 73 = .ok (.iload 5, 2) := by decide +kernel
theorem dX4_waysToStay_75 : decode cX4_waysToStay 75 = .ok (.bipush 10, 2) := by decide +kernel
theorem dX4_waysToStay_77 : decode cX4_waysToStay 77 = .ok (.if_icmp .ge 52, 3) := by decide +kernel
theorem dX4_waysToStay_80 : decode cX4_waysToStay 80 = .ok (.aload_n 0, 1) := by decide +kernel
theorem dX4_waysToStay_81 : decode cX4_waysToStay 81 = .ok (.iload_n 1, 1) := by decide +kernel
theorem dX4_waysToStay_82 : decode cX4_waysToStay 82 = .ok (.iload_n 3, 1) := by decide +kernel
theorem dX4_waysToStay_83 : decode cX4_waysToStay 83 = .ok (.aload_n 0, 1) := by decide +kernel
theorem dX4_waysToStay_84 : decode cX4_waysToStay 84 = .ok (.getfield 19, 3) := by decide +kernel
theorem dX4_waysToStay_87 : decode cX4_waysToStay 87 = .ok (.aload_n 0, 1) := by decide +kernel
theorem dX4_waysToStay_88 : decode cX4_waysToStay 88 = .ok (.getfield 26, 3) := by decide +kernel
theorem dX4_waysToStay_91 : decode cX4_waysToStay 91 = .ok (.invokevirtual 100, 3) := by decide +kernel
theorem dX4_waysToStay_94 : decode cX4_waysToStay 94 = .ok (.iload_n 1, 1) := by decide +kernel
theorem dX4_waysToStay_95 : decode cX4_waysToStay 95 = .ok (.iadd, 1) := by decide +kernel
theorem dX4_waysToStay_96 : decode cX4_waysToStay 96 = .ok (.invokevirtual 103, 3) := by decide +kernel
theorem dX4_waysToStay_99 : decode cX4_waysToStay 99 = .ok (.invokevirtual 297, 3) := by decide +kernel
theorem dX4_waysToStay_102 : decode cX4_waysToStay 102 = .ok (.ifCond .eq 27, 3) := by decide +kernel
theorem dX4_waysToStay_105 : decode cX4_waysToStay 105 = .ok (.iload 6, 2) := by decide +kernel
theorem dX4_waysToStay_107 : decode cX4_waysToStay 107 = .ok (.bipush 10, 2) := by decide +kernel
theorem dX4_waysToStay_109 : decode cX4_waysToStay 109 = .ok (.iload 5, 2) := by decide +kernel
theorem dX4_waysToStay_111 : decode cX4_waysToStay 111 = .ok (.isub, 1) := by decide +kernel
theorem dX4_waysToStay_112 : decode cX4_waysToStay 112 = .ok (.aload_n 0, 1) := by decide +kernel
theorem dX4_waysToStay_113 : decode cX4_waysToStay 113 = .ok (.iload_n 1, 1) := by decide +kernel
theorem dX4_waysToStay_114 : decode cX4_waysToStay 114 = .ok (.iconst 1, 1) := by decide +kernel
theorem dX4_waysToStay_115 : decode cX4_waysToStay 115 = .ok (.iadd, 1) := by decide +kernel
theorem dX4_waysToStay_116 : decode cX4_waysToStay 116 = .ok (.iload_n 2, 1) := by decide +kernel
theorem dX4_waysToStay_117 : decode cX4_waysToStay 117 = .ok (.iload_n 3, 1) := by decide +kernel
theorem dX4_waysToStay_118 : decode cX4_waysToStay 118 = .ok (.iload 4, 2) := by decide +kernel
theorem dX4_waysToStay_120 : decode cX4_waysToStay 120 = .ok (.iload 5, 2) := by decide +kernel
theorem dX4_waysToStay_122 : decode cX4_waysToStay 122 = .ok (.invokevirtual 224, 3) := by decide +kernel
theorem dX4_waysToStay_125 : decode cX4_waysToStay 125 = .ok (.imul, 1) := by decide +kernel
theorem dX4_waysToStay_126 : decode cX4_waysToStay 126 = .ok (.iadd, 1) := by decide +kernel
theorem dX4_waysToStay_127 : decode cX4_waysToStay 127 = .ok (.istore 6, 2) := by decide +kernel
theorem dX4_waysToStay_129 : decode cX4_waysToStay 129 = .ok (.iload 6, 2) := by decide +kernel
theorem dX4_waysToStay_131 : decode cX4_waysToStay 131 = .ok (.ireturn, 1) := by decide +kernel
theorem dX4_blowGust_0 : decode cX4_blowGust 0 = .ok (.iload_n 1, 1) := by decide +kernel
theorem dX4_blowGust_1 : decode cX4_blowGust 1 = .ok (.ifCond .lt 9, 3) := by decide +kernel
theorem dX4_blowGust_4 : decode cX4_blowGust 4 = .ok (.iload_n 1, 1) := by decide +kernel
theorem dX4_blowGust_5 : decode cX4_blowGust 5 = .ok (.bipush 8, 2) := by decide +kernel
theorem dX4_blowGust_7 : decode cX4_blowGust 7 = .ok (.if_icmp .lt 5, 3) := by decide +kernel
theorem dX4_blowGust_10 : decode cX4_blowGust 10 = .ok (.iconst 0, 1) := by decide +kernel
theorem dX4_blowGust_11 : decode cX4_blowGust 11 = .ok (.ireturn, 1) := by decide +kernel
theorem dX4_blowGust_12 : decode cX4_blowGust 12 = .ok (.iload_n 1, 1) := by decide +kernel
theorem dX4_blowGust_13 : decode cX4_blowGust 13 = .ok (.iconst 1, 1) := by decide +kernel
theorem dX4_blowGust_14 : decode cX4_blowGust 14 = .ok (.iadd, 1) := by decide +kernel
theorem dX4_blowGust_15 : decode cX4_blowGust 15 = .ok (.iconst 5, 1) := by decide +kernel
theorem dX4_blowGust_16 : decode cX4_blowGust 16 = .ok (.imul, 1) := by decide +kernel
theorem dX4_blowGust_17 : decode cX4_blowGust 17 = .ok (.istore 4, 2) := by decide +kernel
theorem dX4_blowGust_19 : decode cX4_blowGust 19 = .ok (.aload_n 0, 1) := by decide +kernel
theorem dX4_blowGust_20 : decode cX4_blowGust 20 = .ok (.getfield 55, 3) := by decide +kernel
theorem dX4_blowGust_23 : decode cX4_blowGust 23 = .ok (.iload_n 1, 1) := by decide +kernel
theorem dX4_blowGust_24 : decode cX4_blowGust 24 = .ok (.iconst 5, 1) := by decide +kernel
theorem dX4_blowGust_25 : decode cX4_blowGust 25 = .ok (.imul, 1) := by decide +kernel
theorem dX4_blowGust_26 : decode cX4_blowGust 26 = .ok (.aload_n 0, 1) := by decide +kernel
theorem dX4_blowGust_27 : decode cX4_blowGust 27 = .ok (.getfield 55, 3) := by decide +kernel
theorem dX4_blowGust_30 : decode cX4_blowGust 30 = .ok (.iload 4, 2) := by decide +kernel
theorem dX4_blowGust_32 : decode cX4_blowGust 32 = .ok (.iconst 5, 1) := by decide +kernel
theorem dX4_blowGust_33 : decode cX4_blowGust 33 = .ok (.invokestatic 301, 3) := by decide +kernel
theorem dX4_blowGust_36 : decode cX4_blowGust 36 = .ok (.aload_n 0, 1) := by decide +kernel
theorem dX4_blowGust_37 : decode cX4_blowGust 37 = .ok (.getfield 55, 3) := by decide +kernel
theorem dX4_blowGust_40 : decode cX4_blowGust 40 = .ok (.iload 4, 2) := by decide +kernel
theorem dX4_blowGust_42 : decode cX4_blowGust 42 = .ok (.aload_n 0, 1) := by decide +kernel
theorem dX4_blowGust_43 : decode cX4_blowGust 43 = .ok (.getfield 19, 3) := by decide +kernel
theorem dX4_blowGust_46 : decode cX4_blowGust 46 = .ok (.iload_n 2, 1) := by decide +kernel
theorem dX4_blowGust_47 : decode cX4_blowGust 47 = .ok (.iload_n 3, 1) := by decide +kernel
theorem dX4_blowGust_48 : decode cX4_blowGust 48 = .ok (.invokevirtual 106, 3) := by decide +kernel
theorem dX4_blowGust_51 : decode cX4_blowGust 51 = .ok (.aload_n 0, 1) := by decide +kernel
theorem dX4_blowGust_52 : decode cX4_blowGust 52 = .ok (.getfield 19, 3) := by decide +kernel
theorem dX4_blowGust_55 : decode cX4_blowGust 55 = .ok (.iload_n 2, 1) := by decide +kernel
theorem dX4_blowGust_56 : decode cX4_blowGust 56 = .ok (.invokevirtual 262, 3) := by decide +kernel
theorem dX4_blowGust_59 : decode cX4_blowGust 59 = .ok (.invokestatic 307, 3) := by decide +kernel
theorem dX4_blowGust_62 : decode cX4_blowGust 62 = .ok (.iconst 1, 1) := by decide +kernel
theorem dX4_blowGust_63 : decode cX4_blowGust 63 = .ok (.ireturn, 1) := by decide +kernel
theorem dX4_inLowestTerms_0 : decode cX4_inLowestTerms 0 = .ok (.iload_n 0, 1) := by decide +kernel
theorem dX4_inLowestTerms_1 : decode cX4_inLowestTerms 1 = .ok (.istore_n 3, 1) := by decide +kernel
theorem dX4_inLowestTerms_2 : decode cX4_inLowestTerms 2 = .ok (.iload_n 1, 1) := by decide +kernel
theorem dX4_inLowestTerms_3 : decode cX4_inLowestTerms 3 = .ok (.istore 4, 2) := by decide +kernel
theorem dX4_inLowestTerms_5 : decode cX4_inLowestTerms 5 = .ok (.iconst 0, 1) := by decide +kernel
theorem dX4_inLowestTerms_6 : decode cX4_inLowestTerms 6 = .ok (.istore 5, 2) := by decide +kernel
theorem dX4_inLowestTerms_8 : decode cX4_inLowestTerms 8 = .ok (.iload 5, 2) := by decide +kernel
theorem dX4_inLowestTerms_10 : decode cX4_inLowestTerms 10 = .ok (.iload_n 2, 1) := by decide +kernel
theorem dX4_inLowestTerms_11 : decode cX4_inLowestTerms 11 = .ok (.if_icmp .ge 55, 3) := by decide +kernel
theorem dX4_inLowestTerms_14 : decode cX4_inLowestTerms 14 = .ok (.iload_n 3, 1) := by decide +kernel
theorem dX4_inLowestTerms_15 : decode cX4_inLowestTerms 15 = .ok (.iconst 2, 1) := by decide +kernel
theorem dX4_inLowestTerms_16 : decode cX4_inLowestTerms 16 = .ok (.irem, 1) := by decide +kernel
theorem dX4_inLowestTerms_17 : decode cX4_inLowestTerms 17 = .ok (.ifCond .ne 20, 3) := by decide +kernel
theorem dX4_inLowestTerms_20 : decode cX4_inLowestTerms 20 = .ok (.iload 4, 2) := by decide +kernel
theorem dX4_inLowestTerms_22 : decode cX4_inLowestTerms 22 = .ok (.iconst 2, 1) := by decide +kernel
theorem dX4_inLowestTerms_23 : decode cX4_inLowestTerms 23 = .ok (.irem, 1) := by decide +kernel
theorem dX4_inLowestTerms_24 : decode cX4_inLowestTerms 24 = .ok (.ifCond .ne 13, 3) := by decide +kernel
theorem dX4_inLowestTerms_27 : decode cX4_inLowestTerms 27 = .ok (.iload_n 3, 1) := by decide +kernel
theorem dX4_inLowestTerms_28 : decode cX4_inLowestTerms 28 = .ok (.iconst 2, 1) := by decide +kernel
theorem dX4_inLowestTerms_29 : decode cX4_inLowestTerms 29 = .ok (.idiv, 1) := by decide +kernel
theorem dX4_inLowestTerms_30 : decode cX4_inLowestTerms 30 = .ok (.istore_n 3, 1) := by decide +kernel
theorem dX4_inLowestTerms_31 : decode cX4_inLowestTerms 31 = .ok (.iload 4, 2) := by decide +kernel
theorem dX4_inLowestTerms_33 : decode cX4_inLowestTerms 33 = .ok (.iconst 2, 1) := by decide +kernel
theorem dX4_inLowestTerms_34 : decode cX4_inLowestTerms 34 = .ok (.idiv, 1) := by decide +kernel
theorem dX4_inLowestTerms_35 : decode cX4_inLowestTerms 35 = .ok (.istore 4, 2) := by decide +kernel
theorem dX4_inLowestTerms_37 : decode cX4_inLowestTerms 37 = .ok (.iload_n 3, 1) := by decide +kernel
theorem dX4_inLowestTerms_38 : decode cX4_inLowestTerms 38 = .ok (.iconst 5, 1) := by decide +kernel
theorem dX4_inLowestTerms_39 : decode cX4_inLowestTerms 39 = .ok (.irem, 1) := by decide +kernel
theorem dX4_inLowestTerms_40 : decode cX4_inLowestTerms 40 = .ok (.ifCond .ne 20, 3) := by decide +kernel
theorem dX4_inLowestTerms_43 : decode cX4_inLowestTerms 43 = .ok (.iload 4, 2) := by decide +kernel
theorem dX4_inLowestTerms_45 : decode cX4_inLowestTerms 45 = .ok (.iconst 5, 1) := by decide +kernel
theorem dX4_inLowestTerms_46 : decode cX4_inLowestTerms 46 = .ok (.irem, 1) := by decide +kernel
theorem dX4_inLowestTerms_47 : decode cX4_inLowestTerms 47 = .ok (.ifCond .ne 13, 3) := by decide +kernel
theorem dX4_inLowestTerms_50 : decode cX4_inLowestTerms 50 = .ok (.iload_n 3, 1) := by decide +kernel
theorem dX4_inLowestTerms_51 : decode cX4_inLowestTerms 51 = .ok (.iconst 5, 1) := by decide +kernel
theorem dX4_inLowestTerms_52 : decode cX4_inLowestTerms 52 = .ok (.idiv, 1) := by decide +kernel
theorem dX4_inLowestTerms_53 : decode cX4_inLowestTerms 53 = .ok (.istore_n 3, 1) := by decide +kernel
theorem dX4_inLowestTerms_54 : decode cX4_inLowestTerms 54 = .ok (.iload 4, 2) := by decide +kernel
theorem dX4_inLowestTerms_56 : decode cX4_inLowestTerms 56 = .ok (.iconst 5, 1) := by decide +kernel
theorem dX4_inLowestTerms_57 : decode cX4_inLowestTerms 57 = .ok (.idiv, 1) := by decide +kernel
theorem dX4_inLowestTerms_58 : decode cX4_inLowestTerms 58 = .ok (.istore 4, 2) := by decide +kernel
theorem dX4_inLowestTerms_60 : decode cX4_inLowestTerms 60 = .ok (.iinc 5 1, 3) := by decide +kernel
theorem dX4_inLowestTerms_63 : decode cX4_inLowestTerms 63 = .ok (.goto (-55), 3) := by decide +kernel
theorem dX4_inLowestTerms_66 : decode cX4_inLowestTerms 66 = .ok (.iload_n 3, 1) := by decide +kernel
theorem dX4_inLowestTerms_67 : decode cX4_inLowestTerms 67 = .ok (.ireturn, 1) := by decide +kernel
theorem dX4_drawOf_0 : decode cX4_drawOf 0 = .ok (.ldc2_w 311, 3) := by decide +kernel
theorem dX4_drawOf_3 : decode cX4_drawOf 3 = .ok (.iload_n 0, 1) := by decide +kernel
theorem dX4_drawOf_4 : decode cX4_drawOf 4 = .ok (.i2l, 1) := by decide +kernel
theorem dX4_drawOf_5 : decode cX4_drawOf 5 = .ok (.lmul, 1) := by decide +kernel
theorem dX4_drawOf_6 : decode cX4_drawOf 6 = .ok (.ldc2_w 313, 3) := by decide +kernel
theorem dX4_drawOf_9 : decode cX4_drawOf 9 = .ok (.iload_n 1, 1) := by decide +kernel
theorem dX4_drawOf_10 : decode cX4_drawOf 10 = .ok (.i2l, 1) := by decide +kernel
theorem dX4_drawOf_11 : decode cX4_drawOf 11 = .ok (.lmul, 1) := by decide +kernel
theorem dX4_drawOf_12 : decode cX4_drawOf 12 = .ok (.ladd, 1) := by decide +kernel
theorem dX4_drawOf_13 : decode cX4_drawOf 13 = .ok (.lconst 1, 1) := by decide +kernel
theorem dX4_drawOf_14 : decode cX4_drawOf 14 = .ok (.ladd, 1) := by decide +kernel
theorem dX4_drawOf_15 : decode cX4_drawOf 15 = .ok (.lstore_n 2, 1) := by decide +kernel
theorem dX4_drawOf_16 : decode cX4_drawOf 16 = .ok (.lload_n 2, 1) := by decide +kernel
theorem dX4_drawOf_17 : decode cX4_drawOf 17 = .ok (.lload_n 2, 1) := by decide +kernel
theorem dX4_drawOf_18 : decode cX4_drawOf 18 = .ok (.lmul, 1) := by decide +kernel
theorem dX4_drawOf_19 : decode cX4_drawOf 19 = .ok (.ldc2_w 315, 3) := by decide +kernel
theorem dX4_drawOf_22 : decode cX4_drawOf 22 = .ok (.lrem, 1) := by decide +kernel
theorem dX4_drawOf_23 : decode cX4_drawOf 23 = .ok (.l2i, 1) := by decide +kernel
theorem dX4_drawOf_24 : decode cX4_drawOf 24 = .ok (.ireturn, 1) := by decide +kernel
theorem dX4_trimByDraw_0 : decode cX4_trimByDraw 0 = .ok (.aload_n 0, 1) := by decide +kernel
theorem dX4_trimByDraw_1 : decode cX4_trimByDraw 1 = .ok (.getfield 19, 3) := by decide +kernel
theorem dX4_trimByDraw_4 : decode cX4_trimByDraw 4 = .ok (.getfield 80, 3) := by decide +kernel
theorem dX4_trimByDraw_7 : decode cX4_trimByDraw 7 = .ok (.iconst 1, 1) := by decide +kernel
theorem dX4_trimByDraw_8 : decode cX4_trimByDraw 8 = .ok (.if_icmp .ge 4, 3) := by decide +kernel
theorem dX4_trimByDraw_11 : decode cX4_trimByDraw 11 = .ok (.return_, 1) := by decide +kernel
theorem dX4_trimByDraw_12 : decode cX4_trimByDraw 12 = .ok (.iload_n 2, 1) := by decide +kernel
theorem dX4_trimByDraw_13 : decode cX4_trimByDraw 13 = .ok (.bipush 8, 2) := by decide +kernel
theorem dX4_trimByDraw_15 : decode cX4_trimByDraw 15 = .ok (.irem, 1) := by decide +kernel
theorem dX4_trimByDraw_16 : decode cX4_trimByDraw 16 = .ok (.istore_n 3, 1) := by decide +kernel
theorem dX4_trimByDraw_17 : decode cX4_trimByDraw 17 = .ok (.iload_n 2, 1) := by decide +kernel
theorem dX4_trimByDraw_18 : decode cX4_trimByDraw 18 = .ok (.bipush 8, 2) := by decide +kernel
theorem dX4_trimByDraw_20 : decode cX4_trimByDraw 20 = .ok (.idiv, 1) := by decide +kernel
theorem dX4_trimByDraw_21 : decode cX4_trimByDraw 21 = .ok (.aload_n 0, 1) := by decide +kernel
theorem dX4_trimByDraw_22 : decode cX4_trimByDraw 22 = .ok (.getfield 19, 3) := by decide +kernel
theorem dX4_trimByDraw_25 : decode cX4_trimByDraw 25 = .ok (.getfield 80, 3) := by decide +kernel
theorem dX4_trimByDraw_28 : decode cX4_trimByDraw 28 = .ok (.irem, 1) := by decide +kernel
theorem dX4_trimByDraw_29 : decode cX4_trimByDraw 29 = .ok (.istore 4, 2) := by decide +kernel
theorem dX4_trimByDraw_31 : decode cX4_trimByDraw 31 = .ok (.iload_n 2, 1) := by decide +kernel
theorem dX4_trimByDraw_32 : decode cX4_trimByDraw 32 = .ok (.bipush 64, 2) := by decide +kernel
theorem dX4_trimByDraw_34 : decode cX4_trimByDraw 34 = .ok (.idiv, 1) := by decide +kernel
theorem dX4_trimByDraw_35 : decode cX4_trimByDraw 35 = .ok (.iconst 5, 1) := by decide +kernel
theorem dX4_trimByDraw_36 : decode cX4_trimByDraw 36 = .ok (.irem, 1) := by decide +kernel
theorem dX4_trimByDraw_37 : decode cX4_trimByDraw 37 = .ok (.istore 5, 2) := by decide +kernel
theorem dX4_trimByDraw_39 : decode cX4_trimByDraw 39 = .ok (.iload_n 2, 1) := by decide +kernel
theorem dX4_trimByDraw_40 : decode cX4_trimByDraw 40 = .ok (.sipush 512, 3) := by decide +kernel
theorem dX4_trimByDraw_43 : decode cX4_trimByDraw 43 = .ok (.idiv, 1) := by decide +kernel
theorem dX4_trimByDraw_44 : decode cX4_trimByDraw 44 = .ok (.bipush 9, 2) := by decide +kernel
theorem dX4_trimByDraw_46 : decode cX4_trimByDraw 46 = .ok (.irem, 1) := by decide +kernel
theorem dX4_trimByDraw_47 : decode cX4_trimByDraw 47 = .ok (.iconst 1, 1) := by decide +kernel
theorem dX4_trimByDraw_48 : decode cX4_trimByDraw 48 = .ok (.iadd, 1) := by decide +kernel
theorem dX4_trimByDraw_49 : decode cX4_trimByDraw 49 = .ok (.istore 6, 2) := by decide +kernel
theorem dX4_trimByDraw_51 : decode cX4_trimByDraw 51 = .ok (.iload_n 3, 1) := by decide +kernel
theorem dX4_trimByDraw_52 : decode cX4_trimByDraw 52 = .ok (.iconst 2, 1) := by decide +kernel
theorem dX4_trimByDraw_53 : decode cX4_trimByDraw 53 = .ok (.if_icmp .gt 27, 3) := by decide +kernel
theorem dX4_trimByDraw_56 : decode cX4_trimByDraw 56 = .ok (.aload_n 1, 1) := by decide +kernel
theorem dX4_trimByDraw_57 : decode cX4_trimByDraw 57 = .ok (.iload 4, 2) := by decide +kernel
theorem dX4_trimByDraw_59 : decode cX4_trimByDraw 59 = .ok (.iload 5, 2) := by decide +kernel
theorem dX4_trimByDraw_61 : decode cX4_trimByDraw 61 = .ok (.invokevirtual 129, 3) := by decide +kernel
theorem dX4_trimByDraw_64 : decode cX4_trimByDraw 64 = .ok (.ifCond .eq 16, 3) := by decide +kernel
theorem dX4_trimByDraw_67 : decode cX4_trimByDraw 67 = .ok (.aload_n 1, 1) := by decide +kernel
theorem dX4_trimByDraw_68 : decode cX4_trimByDraw 68 = .ok (.iload 4, 2) := by decide +kernel
theorem dX4_trimByDraw_70 : decode cX4_trimByDraw 70 = .ok (.iload 5, 2) := by decide +kernel
theorem dX4_trimByDraw_72 : decode cX4_trimByDraw 72 = .ok (.iload 6, 2) := by decide +kernel
theorem dX4_trimByDraw_74 : decode cX4_trimByDraw 74 = .ok (.invokevirtual 136, 3) := by decide +kernel
theorem dX4_trimByDraw_77 : decode cX4_trimByDraw 77 = .ok (.goto 56, 3) := by decide +kernel
theorem dX4_trimByDraw_80 : decode cX4_trimByDraw 80 = .ok (.iload_n 3, 1) := by decide +kernel
theorem dX4_trimByDraw_81 : decode cX4_trimByDraw 81 = .ok (.iconst 3, 1) := by decide +kernel
theorem dX4_trimByDraw_82 : decode cX4_trimByDraw 82 = .ok (.if_icmp .ne 25, 3) := by decide +kernel
theorem dX4_trimByDraw_85 : decode cX4_trimByDraw 85 = .ok (.aload_n 1, 1) := by decide +kernel
theorem dX4_trimByDraw_86 : decode cX4_trimByDraw 86 = .ok (.iload 4, 2) := by decide +kernel
theorem dX4_trimByDraw_88 : decode cX4_trimByDraw 88 = .ok (.iload 5, 2) := by decide +kernel
theorem dX4_trimByDraw_90 : decode cX4_trimByDraw 90 = .ok (.invokevirtual 140, 3) := by decide +kernel
theorem dX4_trimByDraw_93 : decode cX4_trimByDraw 93 = .ok (.ifCond .eq 14, 3) := by decide +kernel
theorem dX4_trimByDraw_96 : decode cX4_trimByDraw 96 = .ok (.aload_n 1, 1) := by decide +kernel
theorem dX4_trimByDraw_97 : decode cX4_trimByDraw 97 = .ok (.iload 4, 2) := by decide +kernel
theorem dX4_trimByDraw_99 : decode cX4_trimByDraw 99 = .ok (.iload 5, 2) := by decide +kernel
theorem dX4_trimByDraw_101 : decode cX4_trimByDraw 101 = .ok (.invokevirtual 143, 3) := by decide +kernel
theorem dX4_trimByDraw_104 : decode cX4_trimByDraw 104 = .ok (.goto 29, 3) := by decide +kernel
theorem dX4_trimByDraw_107 : decode cX4_trimByDraw 107 = .ok (.iload_n 3, 1) := by decide +kernel
theorem dX4_trimByDraw_108 : decode cX4_trimByDraw 108 = .ok (.iconst 4, 1) := by decide +kernel
theorem dX4_trimByDraw_109 : decode cX4_trimByDraw 109 = .ok (.if_icmp .ne 24, 3) := by decide +kernel
theorem dX4_trimByDraw_112 : decode cX4_trimByDraw 112 = .ok (.aload_n 1, 1) := by decide +kernel
theorem dX4_trimByDraw_113 : decode cX4_trimByDraw 113 = .ok (.iload 4, 2) := by decide +kernel
theorem dX4_trimByDraw_115 : decode cX4_trimByDraw 115 = .ok (.iload 5, 2) := by decide +kernel
theorem dX4_trimByDraw_117 : decode cX4_trimByDraw 117 = .ok (.invokevirtual 140, 3) := by decide +kernel
theorem dX4_trimByDraw_120 : decode cX4_trimByDraw 120 = .ok (.ifCond .eq 13, 3) := by decide +kernel
theorem dX4_trimByDraw_123 : decode cX4_trimByDraw 123 = .ok (.aload_n 1, 1) := by decide +kernel
theorem dX4_trimByDraw_124 : decode cX4_trimByDraw 124 = .ok (.iload 4, 2) := by decide +kernel
theorem dX4_trimByDraw_126 : decode cX4_trimByDraw 126 = .ok (.iload 5, 2) := by decide +kernel
theorem dX4_trimByDraw_128 : decode cX4_trimByDraw 128 = .ok (.iload 6, 2) := by decide +kernel
theorem dX4_trimByDraw_130 : decode cX4_trimByDraw 130 = .ok (.invokevirtual 147, 3) := by decide +kernel
theorem dX4_trimByDraw_133 : decode cX4_trimByDraw 133 = .ok (.return_, 1) := by decide +kernel
