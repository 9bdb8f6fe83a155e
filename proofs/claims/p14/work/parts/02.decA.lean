theorem dX0_init_0 : decode cX0_init 0 = .ok (.aload_n 0, 1) := by decide +kernel
theorem dX0_init_1 : decode cX0_init 1 = .ok (.invokespecial 3, 3) := by decide +kernel
theorem dX0_init_4 : decode cX0_init 4 = .ok (.aload_n 0, 1) := by decide +kernel
theorem dX0_init_5 : decode cX0_init 5 = .ok (.iconst 4, 1) := by decide +kernel
theorem dX0_init_6 : decode cX0_init 6 = .ok (.newarray .int, 2) := by decide +kernel
theorem dX0_init_8 : decode cX0_init 8 = .ok (.dup, 1) := by decide +kernel
theorem dX0_init_9 : decode cX0_init 9 = .ok (.iconst 0, 1) := by decide +kernel
theorem dX0_init_10 : decode cX0_init 10 = .ok (.iconst 1, 1) := by decide +kernel
theorem dX0_init_11 : decode cX0_init 11 = .ok (.iastore, 1) := by decide +kernel
theorem dX0_init_12 : decode cX0_init 12 = .ok (.dup, 1) := by decide +kernel
theorem dX0_init_13 : decode cX0_init 13 = .ok (.iconst 1, 1) := by decide +kernel
theorem dX0_init_14 : decode cX0_init 14 = .ok (.iconst 0, 1) := by decide +kernel
theorem dX0_init_15 : decode cX0_init 15 = .ok (.iastore, 1) := by decide +kernel
theorem dX0_init_16 : decode cX0_init 16 = .ok (.dup, 1) := by decide +kernel
theorem dX0_init_17 : decode cX0_init 17 = .ok (.iconst 2, 1) := by decide +kernel
theorem dX0_init_18 : decode cX0_init 18 = .ok (.iconst 0, 1) := by decide +kernel
theorem dX0_init_19 : decode cX0_init 19 = .ok (.iastore, 1) := by decide +kernel
theorem dX0_init_20 : decode cX0_init 20 = .ok (.dup, 1) := by decide +kernel
theorem dX0_init_21 : decode cX0_init 21 = .ok (.iconst 3, 1) := by decide +kernel
theorem dX0_init_22 : decode cX0_init 22 = .ok (.iconst 0, 1) := by decide +kernel
theorem dX0_init_23 : decode cX0_init 23 = .ok (.iastore, 1) := by decide +kernel
theorem dX0_init_24 : decode cX0_init 24 = .ok (.putfield 9, 3) := by decide +kernel
theorem dX0_init_27 : decode cX0_init 27 = .ok (.aload_n 0, 1) := by decide +kernel
theorem dX0_init_28 : decode cX0_init 28 = .ok (.iconst 0, 1) := by decide +kernel
theorem dX0_init_29 : decode cX0_init 29 = .ok (.putfield 15, 3) := by decide +kernel
theorem dX0_init_32 : decode cX0_init 32 = .ok (.aload_n 0, 1) := by decide +kernel
theorem dX0_init_33 : decode cX0_init 33 = .ok (.iconst 0, 1) := by decide +kernel
theorem dX0_init_34 : decode cX0_init 34 = .ok (.putfield 19, 3) := by decide +kernel
theorem dX0_init_37 : decode cX0_init 37 = .ok (.aload_n 0, 1) := by decide +kernel
theorem dX0_init_38 : decode cX0_init 38 = .ok (.iconst 1, 1) := by decide +kernel
theorem dX0_init_39 : decode cX0_init 39 = .ok (.putfield 22, 3) := by decide +kernel
theorem dX0_init_42 : decode cX0_init 42 = .ok (.aload_n 0, 1) := by decide +kernel
theorem dX0_init_43 : decode cX0_init 43 = .ok (.iconst 0, 1) := by decide +kernel
theorem dX0_init_44 : decode cX0_init 44 = .ok (.putfield 25, 3) := by decide +kernel
theorem dX0_init_47 : decode cX0_init 47 = .ok (.aload_n 0, 1) := by decide +kernel
theorem dX0_init_48 : decode cX0_init 48 = .ok (.iconst 0, 1) := by decide +kernel
theorem dX0_init_49 : decode cX0_init 49 = .ok (.putfield 28, 3) := by decide +kernel
theorem dX0_init_52 : decode cX0_init 52 = .ok (.return_, 1) := by decide +kernel
theorem dX0_lastPlace_0 : decode cX0_lastPlace 0 = .ok (.aload_n 0, 1) := by decide +kernel
theorem dX0_lastPlace_1 : decode cX0_lastPlace 1 = .ok (.getfield 15, 3) := by decide +kernel
theorem dX0_lastPlace_4 : decode cX0_lastPlace 4 = .ok (.bipush 8, 2) := by decide +kernel
theorem dX0_lastPlace_6 : decode cX0_lastPlace 6 = .ok (.iadd, 1) := by decide +kernel
theorem dX0_lastPlace_7 : decode cX0_lastPlace 7 = .ok (.ireturn, 1) := by decide +kernel
theorem dX0_nextDraw_0 : decode cX0_nextDraw 0 = .ok (.iload_n 1, 1) := by decide +kernel
theorem dX0_nextDraw_1 : decode cX0_nextDraw 1 = .ok (.ldc 31, 2) := by decide +kernel
theorem dX0_nextDraw_3 : decode cX0_nextDraw 3 = .ok (.imul, 1) := by decide +kernel
theorem dX0_nextDraw_4 : decode cX0_nextDraw 4 = .ok (.sipush 12345, 3) := by decide +kernel
theorem dX0_nextDraw_7 : decode cX0_nextDraw 7 = .ok (.iadd, 1) := by decide +kernel
theorem dX0_nextDraw_8 : decode cX0_nextDraw 8 = .ok (.ldc 32, 2) := by decide +kernel
theorem dX0_nextDraw_10 : decode cX0_nextDraw 10 = .ok (.iand, 1) := by decide +kernel
theorem dX0_nextDraw_11 : decode cX0_nextDraw 11 = .ok (.ireturn, 1) := by decide +kernel
theorem dX0_noiseOf_0 : decode cX0_noiseOf 0 = .ok (.iconst 2, 1) := by decide +kernel
theorem dX0_noiseOf_1 : decode cX0_noiseOf 1 = .ok (.aload_n 0, 1) := by decide +kernel
theorem dX0_noiseOf_2 : decode cX0_noiseOf 2 = .ok (.getfield 19, 3) := by decide +kernel
theorem dX0_noiseOf_5 : decode cX0_noiseOf 5 = .ok (.imul, 1) := by decide +kernel
theorem dX0_noiseOf_6 : decode cX0_noiseOf 6 = .ok (.iconst 1, 1) := by decide +kernel
theorem dX0_noiseOf_7 : decode cX0_noiseOf 7 = .ok (.iadd, 1) := by decide +kernel
theorem dX0_noiseOf_8 : decode cX0_noiseOf 8 = .ok (.istore_n 2, 1) := by decide +kernel
theorem dX0_noiseOf_9 : decode cX0_noiseOf 9 = .ok (.iload_n 2, 1) := by decide +kernel
theorem dX0_noiseOf_10 : decode cX0_noiseOf 10 = .ok (.iconst 1, 1) := by decide +kernel
theorem dX0_noiseOf_11 : decode cX0_noiseOf 11 = .ok (.if_icmp .ge 7, 3) := by decide +kernel
theorem dX0_noiseOf_14 : decode cX0_noiseOf 14 = .ok (.iconst 0, 1) := by decide +kernel
theorem dX0_noiseOf_15 : decode cX0_noiseOf 15 = .ok (.goto 14, 3) := by decide +kernel
theorem dX0_noiseOf_18 : decode cX0_noiseOf 18 = .ok (.iload_n 1, 1) := by decide +kernel
theorem dX0_noiseOf_19 : decode cX0_noiseOf 19 = .ok (.ldc 33, 2) := by decide +kernel
theorem dX0_noiseOf_21 : decode cX0_noiseOf 21 = .ok (.idiv, 1) := by decide +kernel
theorem dX0_noiseOf_22 : decode cX0_noiseOf 22 = .ok (.iload_n 2, 1) := by decide +kernel
theorem dX0_noiseOf_23 : decode cX0_noiseOf 23 = .ok (.irem, 1) := by decide +kernel
theorem dX0_noiseOf_24 : decode cX0_noiseOf 24 = .ok (.aload_n 0, 1) := by decide +kernel
theorem dX0_noiseOf_25 : decode cX0_noiseOf 25 = .ok (.getfield 19, 3) := by decide +kernel
theorem dX0_noiseOf_28 : decode cX0_noiseOf 28 = .ok (.isub, 1) := by decide +kernel
theorem dX0_noiseOf_29 : decode cX0_noiseOf 29 = .ok (.ireturn, 1) := by decide +kernel
theorem dX0_arrives_0 : decode cX0_arrives 0 = .ok (.iload_n 2, 1) := by decide +kernel
theorem dX0_arrives_1 : decode cX0_arrives 1 = .ok (.aload_n 0, 1) := by decide +kernel
theorem dX0_arrives_2 : decode cX0_arrives 2 = .ok (.getfield 25, 3) := by decide +kernel
theorem dX0_arrives_5 : decode cX0_arrives 5 = .ok (.if_icmp .lt 18, 3) := by decide +kernel
theorem dX0_arrives_8 : decode cX0_arrives 8 = .ok (.iload_n 2, 1) := by decide +kernel
theorem dX0_arrives_9 : decode cX0_arrives 9 = .ok (.aload_n 0, 1) := by decide +kernel
theorem dX0_arrives_10 : decode cX0_arrives 10 = .ok (.getfield 25, 3) := by decide +kernel
theorem dX0_arrives_13 : decode cX0_arrives 13 = .ok (.aload_n 0, 1) := by decide +kernel
theorem dX0_arrives_14 : decode cX0_arrives 14 = .ok (.getfield 28, 3) := by decide +kernel
theorem dX0_arrives_17 : decode cX0_arrives 17 = .ok (.iadd, 1) := by decide +kernel
theorem dX0_arrives_18 : decode cX0_arrives 18 = .ok (.if_icmp .ge 5, 3) := by decide +kernel
theorem dX0_arrives_21 : decode cX0_arrives 21 = .ok (.iconst 0, 1) := by decide +kernel
theorem dX0_arrives_22 : decode cX0_arrives 22 = .ok (.ireturn, 1) := by decide +kernel
theorem dX0_arrives_23 : decode cX0_arrives 23 = .ok (.aload_n 0, 1) := by decide +kernel
theorem dX0_arrives_24 : decode cX0_arrives 24 = .ok (.iload_n 3, 1) := by decide +kernel
theorem dX0_arrives_25 : decode cX0_arrives 25 = .ok (.invokevirtual 34, 3) := by decide +kernel
theorem dX0_arrives_28 : decode cX0_arrives 28 = .ok (.istore 4, 2) := by decide +kernel
theorem dX0_arrives_30 : decode cX0_arrives 30 = .ok (.iconst 0, 1) := by decide +kernel
theorem dX0_arrives_31 : decode cX0_arrives 31 = .ok (.istore 5, 2) := by decide +kernel
theorem dX0_arrives_33 : decode cX0_arrives 33 = .ok (.iload 5, 2) := by decide +kernel
theorem dX0_arrives_35 : decode cX0_arrives 35 = .ok (.aload_n 0, 1) := by decide +kernel
theorem dX0_arrives_36 : decode cX0_arrives 36 = .ok (.getfield 9, 3) := by decide +kernel
theorem dX0_arrives_39 : decode cX0_arrives 39 = .ok (.arraylength, 1) := by decide +kernel
theorem dX0_arrives_40 : decode cX0_arrives 40 = .ok (.if_icmp .ge 35, 3) := by decide +kernel
theorem dX0_arrives_43 : decode cX0_arrives 43 = .ok (.iload 4, 2) := by decide +kernel
theorem dX0_arrives_45 : decode cX0_arrives 45 = .ok (.aload_n 0, 1) := by decide +kernel
theorem dX0_arrives_46 : decode cX0_arrives 46 = .ok (.getfield 9, 3) := by decide +kernel
theorem dX0_arrives_49 : decode cX0_arrives 49 = .ok (.iload 5, 2) := by decide +kernel
theorem dX0_arrives_51 : decode cX0_arrives 51 = .ok (.iaload, 1) := by decide +kernel
theorem dX0_arrives_52 : decode cX0_arrives 52 = .ok (.aload_n 1, 1) := by decide +kernel
theorem dX0_arrives_53 : decode cX0_arrives 53 = .ok (.iload_n 2, 1) := by decide +kernel
theorem dX0_arrives_54 : decode cX0_arrives 54 = .ok (.aload_n 0, 1) := by decide +kernel
theorem dX0_arrives_55 : decode cX0_arrives 55 = .ok (.getfield 15, 3) := by decide +kernel
theorem dX0_arrives_58 : decode cX0_arrives 58 = .ok (.isub, 1) := by decide +kernel
theorem dX0_arrives_59 : decode cX0_arrives 59 = .ok (.iload 5, 2) := by decide +kernel
theorem dX0_arrives_61 : decode cX0_arrives 61 = .ok (.isub, 1) := by decide +kernel
theorem dX0_arrives_62 : decode cX0_arrives 62 = .ok (.invokevirtual 38, 3) := by decide +kernel
theorem dX0_arrives_65 : decode cX0_arrives 65 = .ok (.imul, 1) := by decide +kernel
theorem dX0_arrives_66 : decode cX0_arrives 66 = .ok (.iadd, 1) := by decide +kernel
theorem dX0_arrives_67 : decode cX0_arrives 67 = .ok (.istore 4, 2) := by decide +kernel
theorem dX0_arrives_69 : decode cX0_arrives 69 = .ok (.iinc 5 1, 3) := by decide +kernel
theorem dX0_arrives_72 : decode cX0_arrives 72 = .ok (.goto (-39), 3) := by decide +kernel
theorem dX0_arrives_75 : decode cX0_arrives 75 = .ok (.sipush (-4000), 3) := by decide +kernel
theorem dX0_arrives_78 : decode cX0_arrives 78 = .ok (.sipush 4000, 3) := by decide +kernel
theorem dX0_arrives_81 : decode cX0_arrives 81 = .ok (.iload 4, 2) := by decide +kernel
theorem dX0_arrives_83 : decode cX0_arrives 83 = .ok (.invokestatic 43, 3) := by decide +kernel
theorem dX0_arrives_86 : decode cX0_arrives 86 = .ok (.invokestatic 49, 3) := by decide +kernel
theorem dX0_arrives_89 : decode cX0_arrives 89 = .ok (.ireturn, 1) := by decide +kernel
theorem dX1_init_0 : decode cX1_init 0 = .ok (.aload_n 0, 1) := by decide +kernel
theorem dX1_init_1 : decode cX1_init 1 = .ok (.invokespecial 3, 3) := by decide +kernel
theorem dX1_init_4 : decode cX1_init 4 = .ok (.aload_n 0, 1) := by decide +kernel
theorem dX1_init_5 : decode cX1_init 5 = .ok (.sipush 140, 3) := by decide +kernel
theorem dX1_init_8 : decode cX1_init 8 = .ok (.newarray .int, 2) := by decide +kernel
theorem dX1_init_10 : decode cX1_init 10 = .ok (.putfield 9, 3) := by decide +kernel
theorem dX1_init_13 : decode cX1_init 13 = .ok (.aload_n 0, 1) := by decide +kernel
theorem dX1_init_14 : decode cX1_init 14 = .ok (.iconst 0, 1) := by decide +kernel
theorem dX1_init_15 : decode cX1_init 15 = .ok (.putfield 15, 3) := by decide +kernel
theorem dX1_init_18 : decode cX1_init 18 = .ok (.return_, 1) := by decide +kernel
theorem dX1_listen_0 : decode cX1_listen 0 = .ok (.aload_n 0, 1) := by decide +kernel
theorem dX1_listen_1 : decode cX1_listen 1 = .ok (.aload_n 0, 1) := by decide +kernel
theorem dX1_listen_2 : decode cX1_listen 2 = .ok (.getfield 9, 3) := by decide +kernel
theorem dX1_listen_5 : decode cX1_listen 5 = .ok (.arraylength, 1) := by decide +kernel
theorem dX1_listen_6 : decode cX1_listen 6 = .ok (.aload_n 2, 1) := by decide +kernel
theorem dX1_listen_7 : decode cX1_listen 7 = .ok (.getfield 19, 3) := by decide +kernel
theorem dX1_listen_10 : decode cX1_listen 10 = .ok (.aload_n 1, 1) := by decide +kernel
theorem dX1_listen_11 : decode cX1_listen 11 = .ok (.invokevirtual 24, 3) := by decide +kernel
theorem dX1_listen_14 : decode cX1_listen 14 = .ok (.iadd, 1) := by decide +kernel
theorem dX1_listen_15 : decode cX1_listen 15 = .ok (.bipush 8, 2) := by decide +kernel
theorem dX1_listen_17 : decode cX1_listen 17 = .ok (.iadd, 1) := by decide +kernel
theorem dX1_listen_18 : decode cX1_listen 18 = .ok (.invokestatic 30, 3) := by decide +kernel
theorem dX1_listen_21 : decode cX1_listen 21 = .ok (.putfield 15, 3) := by decide +kernel
theorem dX1_listen_24 : decode cX1_listen 24 = .ok (.iload_n 3, 1) := by decide +kernel
theorem dX1_listen_25 : decode cX1_listen 25 = .ok (.istore 4, 2) := by decide +kernel
theorem dX1_listen_27 : decode cX1_listen 27 = .ok (.iconst 0, 1) := by decide +kernel
theorem dX1_listen_28 : decode cX1_listen 28 = .ok (.istore 5, 2) := by decide +kernel
theorem dX1_listen_30 : decode cX1_listen 30 = .ok (.iload 5, 2) := by decide +kernel
theorem dX1_listen_32 : decode cX1_listen 32 = .ok (.aload_n 0, 1) := by decide +kernel
theorem dX1_listen_33 : decode cX1_listen 33 = .ok (.getfield 15, 3) := by decide +kernel
theorem dX1_listen_36 : decode cX1_listen 36 = .ok (.if_icmp .ge 33, 3) := by decide +kernel
theorem dX1_listen_39 : decode cX1_listen 39 = .ok (.aload_n 2, 1) := by decide +kernel
theorem dX1_listen_40 : decode cX1_listen 40 = .ok (.iload 4, 2) := by decide +kernel
theorem dX1_listen_42 : decode cX1_listen 42 = .ok (.invokevirtual 36, 3) := by decide +kernel
theorem dX1_listen_45 : decode cX1_listen 45 = .ok (.istore 4, 2) := by decide +kernel
theorem dX1_listen_47 : decode cX1_listen 47 = .ok (.aload_n 0, 1) := by decide +kernel
theorem dX1_listen_48 : decode cX1_listen 48 = .ok (.getfield 9, 3) := by decide +kernel
theorem dX1_listen_51 : decode cX1_listen 51 = .ok (.iload 5, 2) := by decide +kernel
theorem dX1_listen_53 : decode cX1_listen 53 = .ok (.aload_n 2, 1) := by decide +kernel
theorem dX1_listen_54 : decode cX1_listen 54 = .ok (.aload_n 1, 1) := by decide +kernel
theorem dX1_listen_55 : decode cX1_listen 55 = .ok (.iload 5, 2) := by decide +kernel
theorem dX1_listen_57 : decode cX1_listen 57 = .ok (.iload 4, 2) := by decide +kernel
theorem dX1_listen_59 : decode cX1_listen 59 = .ok (.invokevirtual 40, 3) := by decide +kernel
theorem dX1_listen_62 : decode cX1_listen 62 = .ok (.iastore, 1) := by decide +kernel
theorem dX1_listen_63 : decode cX1_listen 63 = .ok (.iinc 5 1, 3) := by decide +kernel
theorem dX1_listen_66 : decode cX1_listen 66 = .ok (.goto (-36), 3) := by decide +kernel
theorem dX1_listen_69 : decode cX1_listen 69 = .ok (.return_, 1) := by decide +kernel
theorem dX1_at_0 : decode cX1_at 0 = .ok (.iload_n 1, 1) := by decide +kernel
theorem dX1_at_1 : decode cX1_at 1 = .ok (.iconst 0, 1) := by decide +kernel
theorem dX1_at_2 : decode cX1_at 2 = .ok (.aload_n 0, 1) := by decide +kernel
theorem dX1_at_3 : decode cX1_at 3 = .ok (.getfield 9, 3) := by decide +kernel
theorem dX1_at_6 : decode cX1_at 6 = .ok (.arraylength, 1) := by decide +kernel
theorem dX1_at_7 : decode cX1_at 7 = .ok (.iconst 1, 1) := by decide +kernel
theorem dX1_at_8 : decode cX1_at 8 = .ok (.isub, 1) := by decide +kernel
theorem dX1_at_9 : decode cX1_at 9 = .ok (.invokestatic 44, 3) := by decide +kernel
theorem dX1_at_12 : decode cX1_at 12 = .ok (.ifCond .eq 12, 3) := by decide +kernel
theorem dX1_at_15 : decode cX1_at 15 = .ok (.aload_n 0, 1) := by decide +kernel
theorem dX1_at_16 : decode cX1_at 16 = .ok (.getfield 9, 3) := by decide +kernel
theorem dX1_at_19 : decode cX1_at 19 = .ok (.iload_n 1, 1) := by decide +kernel
theorem dX1_at_20 : decode cX1_at 20 = .ok (.iaload, 1) := by decide +kernel
theorem dX1_at_21 : decode cX1_at 21 = .ok (.goto 4, 3) := by decide +kernel
theorem dX1_at_24 : decode cX1_at 24 = .ok (.iconst 0, 1) := by decide +kernel
theorem dX1_at_25 : decode cX1_at 25 = .ok (.ireturn, 1) := by decide +kernel
theorem dX1_alike_0 : decode cX1_alike 0 = .ok (.iconst 0, 1) := by decide +kernel
theorem dX1_alike_1 : decode cX1_alike 1 = .ok (.istore_n 3, 1) := by decide +kernel
theorem dX1_alike_2 : decode cX1_alike 2 = .ok (.iconst 0, 1) := by decide +kernel
theorem dX1_alike_3 : decode cX1_alike 3 = .ok (.istore 4, 2) := by decide +kernel
theorem dX1_alike_5 : decode cX1_alike 5 = .ok (.iload 4, 2) := by decide +kernel
theorem dX1_alike_7 : decode cX1_alike 7 = .ok (.aload_n 1, 1) := by decide +kernel
theorem dX1_alike_8 : decode cX1_alike 8 = .ok (.getfield 48, 3) := by decide +kernel
theorem dX1_alike_11 : decode cX1_alike 11 = .ok (.if_icmp .ge 27, 3) := by decide +kernel
theorem dX1_alike_14 : decode cX1_alike 14 = .ok (.iload_n 3, 1) := by decide +kernel
theorem dX1_alike_15 : decode cX1_alike 15 = .ok (.aload_n 1, 1) := by decide +kernel
theorem dX1_alike_16 : decode cX1_alike 16 = .ok (.iload 4, 2) := by decide +kernel
theorem dX1_alike_18 : decode cX1_alike 18 = .ok (.invokevirtual 51, 3) := by decide +kernel
theorem dX1_alike_21 : decode cX1_alike 21 = .ok (.aload_n 0, 1) := by decide +kernel
theorem dX1_alike_22 : decode cX1_alike 22 = .ok (.iload_n 2, 1) := by decide +kernel
theorem dX1_alike_23 : decode cX1_alike 23 = .ok (.iload 4, 2) := by decide +kernel
theorem dX1_alike_25 : decode cX1_alike 25 = .ok (.iadd, 1) := by decide +kernel
theorem dX1_alike_26 : decode cX1_alike 26 = .ok (.invokevirtual 54, 3) := by decide +kernel
theorem dX1_alike_29 : decode cX1_alike 29 = .ok (.imul, 1) := by decide +kernel
theorem dX1_alike_30 : decode cX1_alike 30 = .ok (.iadd, 1) := by decide +kernel
theorem dX1_alike_31 : decode cX1_alike 31 = .ok (.istore_n 3, 1) := by decide +kernel
theorem dX1_alike_32 : decode cX1_alike 32 = .ok (.iinc 4 1, 3) := by decide +kernel
theorem dX1_alike_35 : decode cX1_alike 35 = .ok (.goto (-30), 3) := by decide +kernel
theorem dX1_alike_38 : decode cX1_alike 38 = .ok (.iload_n 3, 1) := by decide +kernel
theorem dX1_alike_39 : decode cX1_alike 39 = .ok (.ireturn, 1) := by decide +kernel
theorem dX1_locate_0 : decode cX1_locate 0 = .ok (.aload_n 1, 1) := by decide +kernel
theorem dX1_locate_1 : decode cX1_locate 1 = .ok (.getfield 48, 3) := by decide +kernel
theorem dX1_locate_4 : decode cX1_locate 4 = .ok (.ifCond .ne 5, 3) := by decide +kernel
theorem dX1_locate_7 : decode cX1_locate 7 = .ok (.iconst (-1), 1) := by decide +kernel
theorem dX1_locate_8 : decode cX1_locate 8 = .ok (.ireturn, 1) := by decide +kernel
theorem dX1_locate_9 : decode cX1_locate 9 = .ok (.iconst 0, 1) := by decide +kernel
theorem dX1_locate_10 : decode cX1_locate 10 = .ok (.istore 4, 2) := by decide +kernel
theorem dX1_locate_12 : decode cX1_locate 12 = .ok (.aload_n 0, 1) := by decide +kernel
theorem dX1_locate_13 : decode cX1_locate 13 = .ok (.aload_n 1, 1) := by decide +kernel
theorem dX1_locate_14 : decode cX1_locate 14 = .ok (.iconst 0, 1) := by decide +kernel
theorem dX1_locate_15 : decode cX1_locate 15 = .ok (.invokevirtual 57, 3) := by decide +kernel
theorem dX1_locate_18 : decode cX1_locate 18 = .ok (.istore 5, 2) := by decide +kernel
theorem dX1_locate_20 : decode cX1_locate 20 = .ok (.iconst 1, 1) := by decide +kernel
theorem dX1_locate_21 : decode cX1_locate 21 = .ok (.istore 6, 2) := by decide +kernel
theorem dX1_locate_23 : decode cX1_locate 23 = .ok (.iload 6, 2) := by decide +kernel
theorem dX1_locate_25 : decode cX1_locate 25 = .ok (.iload_n 2, 1) := by decide +kernel
theorem dX1_locate_26 : decode cX1_locate 26 = .ok (.if_icmp .gt 33, 3) := by decide +kernel
theorem dX1_locate_29 : decode cX1_locate 29 = .ok (.aload_n 0, 1) := by decide +kernel
theorem dX1_locate_30 : decode cX1_locate 30 = .ok (.aload_n 1, 1) := by decide +kernel
theorem dX1_locate_31 : decode cX1_locate 31 = .ok (.iload 6, 2) := by decide +kernel
theorem dX1_locate_33 : decode cX1_locate 33 = .ok (.invokevirtual 57, 3) := by decide +kernel
theorem dX1_locate_36 : decode cX1_locate 36 = .ok (.istore 7, 2) := by decide +kernel
theorem dX1_locate_38 : decode cX1_locate 38 = .ok (.iload 7, 2) := by decide +kernel
theorem dX1_locate_40 : decode cX1_locate 40 = .ok (.iload 5, 2) := by decide +kernel
theorem dX1_locate_42 : decode cX1_locate 42 = .ok (.if_icmp .le 11, 3) := by decide +kernel
theorem dX1_locate_45 : decode cX1_locate 45 = .ok (.iload 7, 2) := by decide +kernel
theorem dX1_locate_47 : decode cX1_locate 47 = .ok (.istore 5, 2) := by decide +kernel
theorem dX1_locate_49 : decode cX1_locate 49 = .ok (.iload 6, 2) := by decide +kernel
theorem dX1_locate_51 : decode cX1_locate 51 = .ok (.istore 4, 2) := by decide +kernel
theorem dX1_locate_53 : decode cX1_locate 53 = .ok (.iinc 6 1, 3) := by decide +kernel
theorem dX1_locate_56 : decode cX1_locate 56 = .ok (.goto (-33), 3) := by decide +kernel
theorem dX1_locate_59 : decode cX1_locate 59 = .ok (.iload 5, 2) := by decide +kernel
theorem dX1_locate_61 : decode cX1_locate 61 = .ok (.iload_n 3, 1) := by decide +kernel
theorem dX1_locate_62 : decode cX1_locate 62 = .ok (.if_icmp .ge 7, 3) := by decide +kernel
theorem dX1_locate_65 : decode cX1_locate 65 = .ok (.iconst (-1), 1) := by decide +kernel
theorem dX1_locate_66 : decode cX1_locate 66 = .ok (.goto 5, 3) := by decide +kernel
theorem dX1_locate_69 : decode cX1_locate 69 = .ok (.iload 4, 2) := by decide +kernel
theorem dX1_locate_71 : decode cX1_locate 71 = .ok (.ireturn, 1) := by decide +kernel
theorem dX2_init_0 : decode cX2_init 0 = .ok (.aload_n 0, 1) := by decide +kernel
theorem dX2_init_1 : decode cX2_init 1 = .ok (.invokespecial 3, 3) := by decide +kernel
theorem dX2_init_4 : decode cX2_init 4 = .ok (.aload_n 0, 1) := by decide +kernel
theorem dX2_init_5 : decode cX2_init 5 = .ok (.iconst 4, 1) := by decide +kernel
theorem dX2_init_6 : decode cX2_init 6 = .ok (.newarray .int, 2) := by decide +kernel
theorem dX2_init_8 : decode cX2_init 8 = .ok (.putfield 9, 3) := by decide +kernel
theorem dX2_init_11 : decode cX2_init 11 = .ok (.aload_n 0, 1) := by decide +kernel
theorem dX2_init_12 : decode cX2_init 12 = .ok (.lconst 0, 1) := by decide +kernel
theorem dX2_init_13 : decode cX2_init 13 = .ok (.putfield 15, 3) := by decide +kernel
theorem dX2_init_16 : decode cX2_init 16 = .ok (.aload_n 0, 1) := by decide +kernel
theorem dX2_init_17 : decode cX2_init 17 = .ok (.lconst 0, 1) := by decide +kernel
theorem dX2_init_18 : decode cX2_init 18 = .ok (.putfield 19, 3) := by decide +kernel
theorem dX2_init_21 : decode cX2_init 21 = .ok (.aload_n 0, 1) := by decide +kernel
theorem dX2_init_22 : decode cX2_init 22 = .ok (.bipush 64, 2) := by decide +kernel
theorem dX2_init_24 : decode cX2_init 24 = .ok (.newarray .int, 2) := by decide +kernel
theorem dX2_init_26 : decode cX2_init 26 = .ok (.putfield 22, 3) := by decide +kernel
theorem dX2_init_29 : decode cX2_init 29 = .ok (.aload_n 0, 1) := by decide +kernel
theorem dX2_init_30 : decode cX2_init 30 = .ok (.bipush 64, 2) := by decide +kernel
theorem dX2_init_32 : decode cX2_init 32 = .ok (.newarray .int, 2) := by decide +kernel
theorem dX2_init_34 : decode cX2_init 34 = .ok (.putfield 25, 3) := by decide +kernel
theorem dX2_init_37 : decode cX2_init 37 = .ok (.aload_n 0, 1) := by decide +kernel
theorem dX2_init_38 : decode cX2_init 38 = .ok (.bipush 32, 2) := by decide +kernel
theorem dX2_init_40 : decode cX2_init 40 = .ok (.newarray .long, 2) := by decide +kernel
theorem dX2_init_42 : decode cX2_init 42 = .ok (.putfield 28, 3) := by decide +kernel
theorem dX2_init_45 : decode cX2_init 45 = .ok (.aload_n 0, 1) := by decide +kernel
theorem dX2_init_46 : decode cX2_init 46 = .ok (.bipush 32, 2) := by decide +kernel
theorem dX2_init_48 : decode cX2_init 48 = .ok (.newarray .long, 2) := by decide +kernel
theorem dX2_init_50 : decode cX2_init 50 = .ok (.putfield 32, 3) := by decide +kernel
theorem dX2_init_53 : decode cX2_init 53 = .ok (.aload_n 0, 1) := by decide +kernel
theorem dX2_init_54 : decode cX2_init 54 = .ok (.bipush 32, 2) := by decide +kernel
theorem dX2_init_56 : decode cX2_init 56 = .ok (.newarray .long, 2) := by decide +kernel
theorem dX2_init_58 : decode cX2_init 58 = .ok (.putfield 35, 3) := by decide +kernel
theorem dX2_init_61 : decode cX2_init 61 = .ok (.aload_n 0, 1) := by decide +kernel
theorem dX2_init_62 : decode cX2_init 62 = .ok (.bipush 32, 2) := by decide +kernel
theorem dX2_init_64 : decode cX2_init 64 = .ok (.newarray .long, 2) := by decide +kernel
theorem dX2_init_66 : decode cX2_init 66 = .ok (.putfield 38, 3) := by decide +kernel
theorem dX2_init_69 : decode cX2_init 69 = .ok (.return_, 1) := by decide +kernel
theorem dX2_follow_0 : decode cX2_follow 0 = .ok (.aload_n 0, 1) := by decide +kernel
theorem dX2_follow_1 : decode cX2_follow 1 = .ok (.invokevirtual 41, 3) := by decide +kernel
theorem dX2_follow_4 : decode cX2_follow 4 = .ok (.iload_n 3, 1) := by decide +kernel
theorem dX2_follow_5 : decode cX2_follow 5 = .ok (.aload_n 1, 1) := by decide +kernel
theorem dX2_follow_6 : decode cX2_follow 6 = .ok (.getfield 44, 3) := by decide +kernel
theorem dX2_follow_9 : decode cX2_follow 9 = .ok (.iadd, 1) := by decide +kernel
theorem dX2_follow_10 : decode cX2_follow 10 = .ok (.istore 4, 2) := by decide +kernel
theorem dX2_follow_12 : decode cX2_follow 12 = .ok (.aload_n 1, 1) := by decide +kernel
theorem dX2_follow_13 : decode cX2_follow 13 = .ok (.invokevirtual 50, 3) := by decide +kernel
theorem dX2_follow_16 : decode cX2_follow 16 = .ok (.istore 5, 2) := by decide +kernel
theorem dX2_follow_18 : decode cX2_follow 18 = .ok (.iconst 0, 1) := by decide +kernel
theorem dX2_follow_19 : decode cX2_follow 19 = .ok (.istore 6, 2) := by decide +kernel
theorem dX2_follow_21 : decode cX2_follow 21 = .ok (.iload 6, 2) := by decide +kernel
theorem dX2_follow_23 : decode cX2_follow 23 = .ok (.iload 5, 2) := by decide +kernel
theorem dX2_follow_25 : decode cX2_follow 25 = .ok (.if_icmp .ge 64, 3) := by decide +kernel
theorem dX2_follow_28 : decode cX2_follow 28 = .ok (.iload 6, 2) := by decide +kernel
theorem dX2_follow_30 : decode cX2_follow 30 = .ok (.iconst 2, 1) := by decide +kernel
theorem dX2_follow_31 : decode cX2_follow 31 = .ok (.if_icmp .gt 10, 3) := by decide +kernel
theorem dX2_follow_34 : decode cX2_follow 34 = .ok (.aload_n 0, 1) := by decide +kernel
theorem dX2_follow_35 : decode cX2_follow 35 = .ok (.aload_n 1, 1) := by decide +kernel
theorem dX2_follow_36 : decode cX2_follow 36 = .ok (.iload 6, 2) := by decide +kernel
theorem dX2_follow_38 : decode cX2_follow 38 = .ok (.invokevirtual 54, 3) := by decide +kernel
theorem dX2_follow_41 : decode cX2_follow 41 = .ok (.aload_n 0, 1) := by decide +kernel
theorem dX2_follow_42 : decode cX2_follow 42 = .ok (.aload_n 2, 1) := by decide +kernel
theorem dX2_follow_43 : decode cX2_follow 43 = .ok (.iload 4, 2) := by decide +kernel
theorem dX2_follow_45 : decode cX2_follow 45 = .ok (.iconst 2, 1) := by decide +kernel
theorem dX2_follow_46 : decode cX2_follow 46 = .ok (.iload 6, 2) := by decide +kernel
theorem dX2_follow_48 : decode cX2_follow 48 = .ok (.imul, 1) := by decide +kernel
theorem dX2_follow_49 : decode cX2_follow 49 = .ok (.iadd, 1) := by decide +kernel
theorem dX2_follow_50 : decode cX2_follow 50 = .ok (.invokevirtual 58, 3) := by decide +kernel
theorem dX2_follow_53 : decode cX2_follow 53 = .ok (.aload_n 2, 1) := by decide +kernel
theorem dX2_follow_54 : decode cX2_follow 54 = .ok (.iload 4, 2) := by decide +kernel
theorem dX2_follow_56 : decode cX2_follow 56 = .ok (.iconst 2, 1) := by decide +kernel
theorem dX2_follow_57 : decode cX2_follow 57 = .ok (.iload 6, 2) := by decide +kernel
theorem dX2_follow_59 : decode cX2_follow 59 = .ok (.imul, 1) := by decide +kernel
theorem dX2_follow_60 : decode cX2_follow 60 = .ok (.iadd, 1) := by decide +kernel
theorem dX2_follow_61 : decode cX2_follow 61 = .ok (.iconst 1, 1) := by decide +kernel
theorem dX2_follow_62 : decode cX2_follow 62 = .ok (.iadd, 1) := by decide +kernel
theorem dX2_follow_63 : decode cX2_follow 63 = .ok (.invokevirtual 58, 3) := by decide +kernel
theorem dX2_follow_66 : decode cX2_follow 66 = .ok (.iload 6, 2) := by decide +kernel
theorem dX2_follow_68 : decode cX2_follow 68 = .ok (.aload_n 1, 1) := by decide +kernel
theorem dX2_follow_69 : decode cX2_follow 69 = .ok (.getfield 64, 3) := by decide +kernel
theorem dX2_follow_72 : decode cX2_follow 72 = .ok (.if_icmp .ge 7, 3) := by decide +kernel
theorem dX2_follow_75 : decode cX2_follow 75 = .ok (.iconst 1, 1) := by decide +kernel
theorem dX2_follow_76 : decode cX2_follow 76 = .ok (.goto 4, 3) := by decide +kernel
theorem dX2_follow_79 : decode cX2_follow 79 = .ok (.iconst 0, 1) := by decide +kernel
theorem dX2_follow_80 : decode cX2_follow 80 = .ok (.invokevirtual 67, 3) := by decide +kernel
theorem dX2_follow_83 : decode cX2_follow 83 = .ok (.iinc 6 1, 3) := by decide +kernel
theorem dX2_follow_86 : decode cX2_follow 86 = .ok (.goto (-65), 3) := by decide +kernel
theorem dX2_follow_89 : decode cX2_follow 89 = .ok (.aload_n 0, 1) := by decide +kernel
theorem dX2_follow_90 : decode cX2_follow 90 = .ok (.invokevirtual 71, 3) := by decide +kernel
theorem dX2_follow_93 : decode cX2_follow 93 = .ok (.return_, 1) := by decide +kernel
theorem dX2_begin_0 : decode cX2_begin 0 = .ok (.iconst 0, 1) := by decide +kernel
theorem dX2_begin_1 : decode cX2_begin 1 = .ok (.istore_n 1, 1) := by decide +kernel
theorem dX2_begin_2 : decode cX2_begin 2 = .ok (.iload_n 1, 1) := by decide +kernel
theorem dX2_begin_3 : decode cX2_begin 3 = .ok (.bipush 32, 2) := by decide +kernel
theorem dX2_begin_5 : decode cX2_begin 5 = .ok (.if_icmp .ge 25, 3) := by decide +kernel
theorem dX2_begin_8 : decode cX2_begin 8 = .ok (.aload_n 0, 1) := by decide +kernel
theorem dX2_begin_9 : decode cX2_begin 9 = .ok (.getfield 28, 3) := by decide +kernel
theorem dX2_begin_12 : decode cX2_begin 12 = .ok (.iload_n 1, 1) := by decide +kernel
theorem dX2_begin_13 : decode cX2_begin 13 = .ok (.ldc2_w 74, 3) := by decide +kernel
theorem dX2_begin_16 : decode cX2_begin 16 = .ok (.lastore, 1) := by decide +kernel
theorem dX2_begin_17 : decode cX2_begin 17 = .ok (.aload_n 0, 1) := by decide +kernel
theorem dX2_begin_18 : decode cX2_begin 18 = .ok (.getfield 32, 3) := by decide +kernel
theorem dX2_begin_21 : decode cX2_begin 21 = .ok (.iload_n 1, 1) := by decide +kernel
theorem dX2_begin_22 : decode cX2_begin 22 = .ok (.lconst 0, 1) := by decide +kernel
theorem dX2_begin_23 : decode cX2_begin 23 = .ok (.lastore, 1) := by decide +kernel
theorem dX2_begin_24 : decode cX2_begin 24 = .ok (.iinc 1 1, 3) := by decide +kernel
theorem dX2_begin_27 : decode cX2_begin 27 = .ok (.goto (-25), 3) := by decide +kernel
theorem dX2_begin_30 : decode cX2_begin 30 = .ok (.aload_n 0, 1) := by decide +kernel
theorem dX2_begin_31 : decode cX2_begin 31 = .ok (.getfield 28, 3) := by decide +kernel
theorem dX2_begin_34 : decode cX2_begin 34 = .ok (.iconst 0, 1) := by decide +kernel
theorem dX2_begin_35 : decode cX2_begin 35 = .ok (.lconst 0, 1) := by decide +kernel
theorem dX2_begin_36 : decode cX2_begin 36 = .ok (.lastore, 1) := by decide +kernel
theorem dX2_begin_37 : decode cX2_begin 37 = .ok (.return_, 1) := by decide +kernel
theorem dX2_tabulate_0 : decode cX2_tabulate 0 = .ok (.iconst 0, 1) := by decide +kernel
theorem dX2_tabulate_1 : decode cX2_tabulate 1 = .ok (.istore_n 3, 1) := by decide +kernel
theorem dX2_tabulate_2 : decode cX2_tabulate 2 = .ok (.iload_n 3, 1) := by decide +kernel
theorem dX2_tabulate_3 : decode cX2_tabulate 3 = .ok (.bipush 64, 2) := by decide +kernel
theorem dX2_tabulate_5 : decode cX2_tabulate 5 = .ok (.if_icmp .ge 43, 3) := by decide +kernel
theorem dX2_tabulate_8 : decode cX2_tabulate 8 = .ok (.aload_n 0, 1) := by decide +kernel
theorem dX2_tabulate_9 : decode cX2_tabulate 9 = .ok (.getfield 22, 3) := by decide +kernel
theorem dX2_tabulate_12 : decode cX2_tabulate 12 = .ok (.iload_n 3, 1) := by decide +kernel
theorem dX2_tabulate_13 : decode cX2_tabulate 13 = .ok (.aload_n 0, 1) := by decide +kernel
theorem dX2_tabulate_14 : decode cX2_tabulate 14 = .ok (.aload_n 1, 1) := by decide +kernel
theorem dX2_tabulate_15 : decode cX2_tabulate 15 = .ok (.iload_n 2, 1) := by decide +kernel
theorem dX2_tabulate_16 : decode cX2_tabulate 16 = .ok (.iload_n 3, 1) := by decide +kernel
theorem dX2_tabulate_17 : decode cX2_tabulate 17 = .ok (.iconst 2, 1) := by decide +kernel
theorem dX2_tabulate_18 : decode cX2_tabulate 18 = .ok (.iload_n 2, 1) := by decide +kernel
theorem dX2_tabulate_19 : decode cX2_tabulate 19 = .ok (.imul, 1) := by decide +kernel
theorem dX2_tabulate_20 : decode cX2_tabulate 20 = .ok (.invokevirtual 76, 3) := by decide +kernel
theorem dX2_tabulate_23 : decode cX2_tabulate 23 = .ok (.iastore, 1) := by decide +kernel
theorem dX2_tabulate_24 : decode cX2_tabulate 24 = .ok (.aload_n 0, 1) := by decide +kernel
theorem dX2_tabulate_25 : decode cX2_tabulate 25 = .ok (.getfield 25, 3) := by decide +kernel
theorem dX2_tabulate_28 : decode cX2_tabulate 28 = .ok (.iload_n 3, 1) := by decide +kernel
theorem dX2_tabulate_29 : decode cX2_tabulate 29 = .ok (.aload_n 0, 1) := by decide +kernel
theorem dX2_tabulate_30 : decode cX2_tabulate 30 = .ok (.aload_n 1, 1) := by decide +kernel
theorem dX2_tabulate_31 : decode cX2_tabulate 31 = .ok (.iload_n 2, 1) := by decide +kernel
theorem dX2_tabulate_32 : decode cX2_tabulate 32 = .ok (.iload_n 3, 1) := by decide +kernel
theorem dX2_tabulate_33 : decode cX2_tabulate 33 = .ok (.iconst 2, 1) := by decide +kernel
theorem dX2_tabulate_34 : decode cX2_tabulate 34 = .ok (.iload_n 2, 1) := by decide +kernel
theorem dX2_tabulate_35 : decode cX2_tabulate 35 = .ok (.imul, 1) := by decide +kernel
theorem dX2_tabulate_36 : decode cX2_tabulate 36 = .ok (.iconst 1, 1) := by decide +kernel
theorem dX2_tabulate_37 : decode cX2_tabulate 37 = .ok (.iadd, 1) := by decide +kernel
theorem dX2_tabulate_38 : decode cX2_tabulate 38 = .ok (.invokevirtual 76, 3) := by decide +kernel
theorem dX2_tabulate_41 : decode cX2_tabulate 41 = .ok (.iastore, 1) := by decide +kernel
theorem dX2_tabulate_42 : decode cX2_tabulate 42 = .ok (.iinc 3 1, 3) := by decide +kernel
theorem dX2_tabulate_45 : decode cX2_tabulate 45 = .ok (.goto (-43), 3) := by decide +kernel
theorem dX2_tabulate_48 : decode cX2_tabulate 48 = .ok (.return_, 1) := by decide +kernel
theorem dX2_dueSample_0 : decode cX2_dueSample 0 = .ok (.iconst 0, 1) := by decide +kernel
theorem dX2_dueSample_1 : decode cX2_dueSample 1 = .ok (.istore 5, 2) := by decide +kernel
theorem dX2_dueSample_3 : decode cX2_dueSample 3 = .ok (.iconst 0, 1) := by decide +kernel
theorem dX2_dueSample_4 : decode cX2_dueSample 4 = .ok (.istore 6, 2) := by decide +kernel
theorem dX2_dueSample_6 : decode cX2_dueSample 6 = .ok (.iload 6, 2) := by decide +kernel
theorem dX2_dueSample_8 : decode cX2_dueSample 8 = .ok (.aload_n 0, 1) := by decide +kernel
theorem dX2_dueSample_9 : decode cX2_dueSample 9 = .ok (.getfield 9, 3) := by decide +kernel
theorem dX2_dueSample_12 : decode cX2_dueSample 12 = .ok (.arraylength, 1) := by decide +kernel
theorem dX2_dueSample_13 : decode cX2_dueSample 13 = .ok (.if_icmp .ge 74, 3) := by decide +kernel
theorem dX2_dueSample_16 : decode cX2_dueSample 16 = .ok (.iload 4, 2) := by decide +kernel
theorem dX2_dueSample_18 : decode cX2_dueSample 18 = .ok (.iload 6, 2) := by decide +kernel
theorem dX2_dueSample_20 : decode cX2_dueSample 20 = .ok (.isub, 1) := by decide +kernel
theorem dX2_dueSample_21 : decode cX2_dueSample 21 = .ok (.istore 7, 2) := by decide +kernel
theorem dX2_dueSample_23 : decode cX2_dueSample 23 = .ok (.iload 7, 2) := by decide +kernel
theorem dX2_dueSample_25 : decode cX2_dueSample 25 = .ok (.ifCond .ge 22, 3) := by decide +kernel
theorem dX2_dueSample_28 : decode cX2_dueSample 28 = .ok (.aload_n 1, 1) := by decide +kernel
theorem dX2_dueSample_29 : decode cX2_dueSample 29 = .ok (.aload_n 1, 1) := by decide +kernel
theorem dX2_dueSample_30 : decode cX2_dueSample 30 = .ok (.getfield 44, 3) := by decide +kernel
theorem dX2_dueSample_33 : decode cX2_dueSample 33 = .ok (.iload 7, 2) := by decide +kernel
theorem dX2_dueSample_35 : decode cX2_dueSample 35 = .ok (.iadd, 1) := by decide +kernel
theorem dX2_dueSample_36 : decode cX2_dueSample 36 = .ok (.invokevirtual 80, 3) := by decide +kernel
theorem dX2_dueSample_39 : decode cX2_dueSample 39 = .ok (.aload_n 1, 1) := by decide +kernel
theorem dX2_dueSample_40 : decode cX2_dueSample 40 = .ok (.getfield 83, 3) := by decide +kernel
theorem dX2_dueSample_43 : decode cX2_dueSample 43 = .ok (.imul, 1) := by decide +kernel
theorem dX2_dueSample_44 : decode cX2_dueSample 44 = .ok (.goto 20, 3) := by decide +kernel
theorem dX2_dueSample_47 : decode cX2_dueSample 47 = .ok (.aload_n 1, 1) := by decide +kernel
theorem dX2_dueSample_48 : decode cX2_dueSample 48 = .ok (.iload_n 3, 1) := by decide +kernel
theorem dX2_dueSample_49 : decode cX2_dueSample 49 = .ok (.iload_n 2, 1) := by decide +kernel
theorem dX2_dueSample_50 : decode cX2_dueSample 50 = .ok (.iload 7, 2) := by decide +kernel
theorem dX2_dueSample_52 : decode cX2_dueSample 52 = .ok (.iconst 2, 1) := by decide +kernel
theorem dX2_dueSample_53 : decode cX2_dueSample 53 = .ok (.idiv, 1) := by decide +kernel
theorem dX2_dueSample_54 : decode cX2_dueSample 54 = .ok (.isub, 1) := by decide +kernel
theorem dX2_dueSample_55 : decode cX2_dueSample 55 = .ok (.ishr, 1) := by decide +kernel
theorem dX2_dueSample_56 : decode cX2_dueSample 56 = .ok (.i2l, 1) := by decide +kernel
theorem dX2_dueSample_57 : decode cX2_dueSample 57 = .ok (.iload 7, 2) := by decide +kernel
theorem dX2_dueSample_59 : decode cX2_dueSample 59 = .ok (.iconst 2, 1) := by decide +kernel
theorem dX2_dueSample_60 : decode cX2_dueSample 60 = .ok (.irem, 1) := by decide +kernel
theorem dX2_dueSample_61 : decode cX2_dueSample 61 = .ok (.invokevirtual 86, 3) := by decide +kernel
theorem dX2_dueSample_64 : decode cX2_dueSample 64 = .ok (.istore 8, 2) := by decide +kernel
theorem dX2_dueSample_66 : decode cX2_dueSample 66 = .ok (.iload 5, 2) := by decide +kernel
theorem dX2_dueSample_68 : decode cX2_dueSample 68 = .ok (.aload_n 0, 1) := by decide +kernel
theorem dX2_dueSample_69 : decode cX2_dueSample 69 = .ok (.getfield 9, 3) := by decide +kernel
theorem dX2_dueSample_72 : decode cX2_dueSample 72 = .ok (.iload 6, 2) := by decide +kernel
theorem dX2_dueSample_74 : decode cX2_dueSample 74 = .ok (.iaload, 1) := by decide +kernel
theorem dX2_dueSample_75 : decode cX2_dueSample 75 = .ok (.iload 8, 2) := by decide +kernel
theorem dX2_dueSample_77 : decode cX2_dueSample 77 = .ok (.imul, 1) := by decide +kernel
theorem dX2_dueSample_78 : decode cX2_dueSample 78 = .ok (.iadd, 1) := by decide +kernel
theorem dX2_dueSample_79 : decode cX2_dueSample 79 = .ok (.istore 5, 2) := by decide +kernel
theorem dX2_dueSample_81 : decode cX2_dueSample 81 = .ok (.iinc 6 1, 3) := by decide +kernel
theorem dX2_dueSample_84 : decode cX2_dueSample 84 = .ok (.goto (-78), 3) := by decide +kernel
theorem dX2_dueSample_87 : decode cX2_dueSample 87 = .ok (.iload 5, 2) := by decide +kernel
theorem dX2_dueSample_89 : decode cX2_dueSample 89 = .ok (.ireturn, 1) := by decide +kernel
theorem dX2_goOn_0 : decode cX2_goOn 0 = .ok (.iconst 0, 1) := by decide +kernel
theorem dX2_goOn_1 : decode cX2_goOn 1 = .ok (.istore 4, 2) := by decide +kernel
theorem dX2_goOn_3 : decode cX2_goOn 3 = .ok (.iload 4, 2) := by decide +kernel
theorem dX2_goOn_5 : decode cX2_goOn 5 = .ok (.bipush 32, 2) := by decide +kernel
theorem dX2_goOn_7 : decode cX2_goOn 7 = .ok (.if_icmp .ge 19, 3) := by decide +kernel
theorem dX2_goOn_10 : decode cX2_goOn 10 = .ok (.aload_n 0, 1) := by decide +kernel
theorem dX2_goOn_11 : decode cX2_goOn 11 = .ok (.getfield 35, 3) := by decide +kernel
theorem dX2_goOn_14 : decode cX2_goOn 14 = .ok (.iload 4, 2) := by decide +kernel
theorem dX2_goOn_16 : decode cX2_goOn 16 = .ok (.ldc2_w 74, 3) := by decide +kernel
theorem dX2_goOn_19 : decode cX2_goOn 19 = .ok (.lastore, 1) := by decide +kernel
theorem dX2_goOn_20 : decode cX2_goOn 20 = .ok (.iinc 4 1, 3) := by decide +kernel
theorem dX2_goOn_23 : decode cX2_goOn 23 = .ok (.goto (-20), 3) := by decide +kernel
theorem dX2_goOn_26 : decode cX2_goOn 26 = .ok (.iload_n 3, 1) := by decide +kernel
theorem dX2_goOn_27 : decode cX2_goOn 27 = .ok (.ifCond .eq 7, 3) := by decide +kernel
theorem dX2_goOn_30 : decode cX2_goOn 30 = .ok (.iconst 1, 1) := by decide +kernel
theorem dX2_goOn_31 : decode cX2_goOn 31 = .ok (.goto 4, 3) := by decide +kernel
theorem dX2_goOn_34 : decode cX2_goOn 34 = .ok (.iconst 2, 1) := by decide +kernel
theorem dX2_goOn_35 : decode cX2_goOn 35 = .ok (.istore 4, 2) := by decide +kernel
theorem dX2_goOn_37 : decode cX2_goOn 37 = .ok (.iconst 0, 1) := by decide +kernel
theorem dX2_goOn_38 : decode cX2_goOn 38 = .ok (.istore 5, 2) := by decide +kernel
theorem dX2_goOn_40 : decode cX2_goOn 40 = .ok (.iload 5, 2) := by decide +kernel
theorem dX2_goOn_42 : decode cX2_goOn 42 = .ok (.bipush 64, 2) := by decide +kernel
theorem dX2_goOn_44 : decode cX2_goOn 44 = .ok (.if_icmp .ge 120, 3) := by decide +kernel
theorem dX2_goOn_47 : decode cX2_goOn 47 = .ok (.iload 5, 2) := by decide +kernel
theorem dX2_goOn_49 : decode cX2_goOn 49 = .ok (.iconst 2, 1) := by decide +kernel
theorem dX2_goOn_50 : decode cX2_goOn 50 = .ok (.idiv, 1) := by decide +kernel
theorem dX2_goOn_51 : decode cX2_goOn 51 = .ok (.istore 6, 2) := by decide +kernel
theorem dX2_goOn_53 : decode cX2_goOn 53 = .ok (.aload_n 0, 1) := by decide +kernel
theorem dX2_goOn_54 : decode cX2_goOn 54 = .ok (.getfield 28, 3) := by decide +kernel
theorem dX2_goOn_57 : decode cX2_goOn 57 = .ok (.iload 6, 2) := by decide +kernel
theorem dX2_goOn_59 : decode cX2_goOn 59 = .ok (.laload, 1) := by decide +kernel
theorem dX2_goOn_60 : decode cX2_goOn 60 = .ok (.ldc2_w 74, 3) := by decide +kernel
theorem dX2_goOn_63 : decode cX2_goOn 63 = .ok (.lcmp, 1) := by decide +kernel
theorem dX2_goOn_64 : decode cX2_goOn 64 = .ok (.ifCond .ge 90, 3) := by decide +kernel
theorem dX2_goOn_67 : decode cX2_goOn 67 = .ok (.iload_n 1, 1) := by decide +kernel
theorem dX2_goOn_68 : decode cX2_goOn 68 = .ok (.aload_n 0, 1) := by decide +kernel
theorem dX2_goOn_69 : decode cX2_goOn 69 = .ok (.getfield 22, 3) := by decide +kernel
theorem dX2_goOn_72 : decode cX2_goOn 72 = .ok (.iload 5, 2) := by decide +kernel
theorem dX2_goOn_74 : decode cX2_goOn 74 = .ok (.iaload, 1) := by decide +kernel
theorem dX2_goOn_75 : decode cX2_goOn 75 = .ok (.isub, 1) := by decide +kernel
theorem dX2_goOn_76 : decode cX2_goOn 76 = .ok (.i2l, 1) := by decide +kernel
theorem dX2_goOn_77 : decode cX2_goOn 77 = .ok (.lstore 7, 2) := by decide +kernel
theorem dX2_goOn_79 : decode cX2_goOn 79 = .ok (.iload_n 2, 1) := by decide +kernel
theorem dX2_goOn_80 : decode cX2_goOn 80 = .ok (.aload_n 0, 1) := by decide +kernel
theorem dX2_goOn_81 : decode cX2_goOn 81 = .ok (.getfield 25, 3) := by decide +kernel
theorem dX2_goOn_84 : decode cX2_goOn 84 = .ok (.iload 5, 2) := by decide +kernel
theorem dX2_goOn_86 : decode cX2_goOn 86 = .ok (.iaload, 1) := by decide +kernel
theorem dX2_goOn_87 : decode cX2_goOn 87 = .ok (.isub, 1) := by decide +kernel
theorem dX2_goOn_88 : decode cX2_goOn 88 = .ok (.i2l, 1) := by decide +kernel
theorem dX2_goOn_89 : decode cX2_goOn 89 = .ok (.lstore 9, 2) := by decide +kernel
theorem dX2_goOn_91 : decode cX2_goOn 91 = .ok (.iload_n 3, 1) := by decide +kernel
theorem dX2_goOn_92 : decode cX2_goOn 92 = .ok (.ifCond .eq 23, 3) := by decide +kernel
theorem dX2_goOn_95 : decode cX2_goOn 95 = .ok (.ldc2_w 90, 3) := by decide +kernel
theorem dX2_goOn_98 : decode cX2_goOn 98 = .ok (.aload_n 0, 1) := by decide +kernel
theorem dX2_goOn_99 : decode cX2_goOn 99 = .ok (.getfield 32, 3) := by decide +kernel
theorem dX2_goOn_102 : decode cX2_goOn 102 = .ok (.iload 6, 2) := by decide +kernel
theorem dX2_goOn_104 : decode cX2_goOn 104 = .ok (.laload, 1) := by decide +kernel
theorem dX2_goOn_105 : decode cX2_goOn 105 = .ok (.lmul, 1) := by decide +kernel
theorem dX2_goOn_106 : decode cX2_goOn 106 = .ok (.iload 5, 2) := by decide +kernel
theorem dX2_goOn_108 : decode cX2_goOn 108 = .ok (.iconst 2, 1) := by decide +kernel
theorem dX2_goOn_109 : decode cX2_goOn 109 = .ok (.irem, 1) := by decide +kernel
theorem dX2_goOn_110 : decode cX2_goOn 110 = .ok (.i2l, 1) := by decide +kernel
theorem dX2_goOn_111 : decode cX2_goOn 111 = .ok (.ladd, 1) := by decide +kernel
theorem dX2_goOn_112 : decode cX2_goOn 112 = .ok (.goto 10, 3) := by decide +kernel
theorem dX2_goOn_115 : decode cX2_goOn 115 = .ok (.aload_n 0, 1) := by decide +kernel
theorem dX2_goOn_116 : decode cX2_goOn 116 = .ok (.getfield 32, 3) := by decide +kernel
theorem dX2_goOn_119 : decode cX2_goOn 119 = .ok (.iload 6, 2) := by decide +kernel
theorem dX2_goOn_121 : decode cX2_goOn 121 = .ok (.laload, 1) := by decide +kernel
theorem dX2_goOn_122 : decode cX2_goOn 122 = .ok (.lstore 11, 2) := by decide +kernel
theorem dX2_goOn_124 : decode cX2_goOn 124 = .ok (.aload_n 0, 1) := by decide +kernel
theorem dX2_goOn_125 : decode cX2_goOn 125 = .ok (.iload 5, 2) := by decide +kernel
theorem dX2_goOn_127 : decode cX2_goOn 127 = .ok (.bipush 32, 2) := by decide +kernel
theorem dX2_goOn_129 : decode cX2_goOn 129 = .ok (.irem, 1) := by decide +kernel
theorem dX2_goOn_130 : decode cX2_goOn 130 = .ok (.aload_n 0, 1) := by decide +kernel
theorem dX2_goOn_131 : decode cX2_goOn 131 = .ok (.getfield 28, 3) := by decide +kernel
theorem dX2_goOn_134 : decode cX2_goOn 134 = .ok (.iload 6, 2) := by decide +kernel
theorem dX2_goOn_136 : decode cX2_goOn 136 = .ok (.laload, 1) := by decide +kernel
theorem dX2_goOn_137 : decode cX2_goOn 137 = .ok (.lload 7, 2) := by decide +kernel
theorem dX2_goOn_139 : decode cX2_goOn 139 = .ok (.lload 7, 2) := by decide +kernel
theorem dX2_goOn_141 : decode cX2_goOn 141 = .ok (.lmul, 1) := by decide +kernel
theorem dX2_goOn_142 : decode cX2_goOn 142 = .ok (.ladd, 1) := by decide +kernel
theorem dX2_goOn_143 : decode cX2_goOn 143 = .ok (.lload 9, 2) := by decide +kernel
theorem dX2_goOn_145 : decode cX2_goOn 145 = .ok (.lload 9, 2) := by decide +kernel
theorem dX2_goOn_147 : decode cX2_goOn 147 = .ok (.lmul, 1) := by decide +kernel
theorem dX2_goOn_148 : decode cX2_goOn 148 = .ok (.ladd, 1) := by decide +kernel
theorem dX2_goOn_149 : decode cX2_goOn 149 = .ok (.lload 11, 2) := by decide +kernel
theorem dX2_goOn_151 : decode cX2_goOn 151 = .ok (.invokevirtual 92, 3) := by decide +kernel
theorem dX2_goOn_154 : decode cX2_goOn 154 = .ok (.iload 5, 2) := by decide +kernel
theorem dX2_goOn_156 : decode cX2_goOn 156 = .ok (.iload 4, 2) := by decide +kernel
theorem dX2_goOn_158 : decode cX2_goOn 158 = .ok (.iadd, 1) := by decide +kernel
theorem dX2_goOn_159 : decode cX2_goOn 159 = .ok (.istore 5, 2) := by decide +kernel
theorem dX2_goOn_161 : decode cX2_goOn 161 = .ok (.goto (-121), 3) := by decide +kernel
theorem dX2_goOn_164 : decode cX2_goOn 164 = .ok (.aload_n 0, 1) := by decide +kernel
theorem dX2_goOn_165 : decode cX2_goOn 165 = .ok (.getfield 35, 3) := by decide +kernel
theorem dX2_goOn_168 : decode cX2_goOn 168 = .ok (.iconst 0, 1) := by decide +kernel
theorem dX2_goOn_169 : decode cX2_goOn 169 = .ok (.aload_n 0, 1) := by decide +kernel
theorem dX2_goOn_170 : decode cX2_goOn 170 = .ok (.getfield 28, 3) := by decide +kernel
theorem dX2_goOn_173 : decode cX2_goOn 173 = .ok (.iconst 0, 1) := by decide +kernel
theorem dX2_goOn_174 : decode cX2_goOn 174 = .ok (.bipush 32, 2) := by decide +kernel
theorem dX2_goOn_176 : decode cX2_goOn 176 = .ok (.invokestatic 96, 3) := by decide +kernel
theorem dX2_goOn_179 : decode cX2_goOn 179 = .ok (.aload_n 0, 1) := by decide +kernel
theorem dX2_goOn_180 : decode cX2_goOn 180 = .ok (.getfield 38, 3) := by decide +kernel
theorem dX2_goOn_183 : decode cX2_goOn 183 = .ok (.iconst 0, 1) := by decide +kernel
theorem dX2_goOn_184 : decode cX2_goOn 184 = .ok (.aload_n 0, 1) := by decide +kernel
theorem dX2_goOn_185 : decode cX2_goOn 185 = .ok (.getfield 32, 3) := by decide +kernel
theorem dX2_goOn_188 : decode cX2_goOn 188 = .ok (.iconst 0, 1) := by decide +kernel
theorem dX2_goOn_189 : decode cX2_goOn 189 = .ok (.bipush 32, 2) := by decide +kernel
theorem dX2_goOn_191 : decode cX2_goOn 191 = .ok (.invokestatic 96, 3) := by decide +kernel
theorem dX2_goOn_194 : decode cX2_goOn 194 = .ok (.return_, 1) := by decide +kernel
theorem dX2_offer_0 : decode cX2_offer 0 = .ok (.iload_n 1, 1) := by decide +kernel
theorem dX2_offer_1 : decode cX2_offer 1 = .ok (.iconst 0, 1) := by decide +kernel
theorem dX2_offer_2 : decode cX2_offer 2 = .ok (.bipush 31, 2) := by decide +kernel
theorem dX2_offer_4 : decode cX2_offer 4 = .ok (.invokestatic 102, 3) := by decide +kernel
theorem dX2_offer_7 : decode cX2_offer 7 = .ok (.ifCond .ne 4, 3) := by decide +kernel
theorem dX2_offer_10 : decode cX2_offer 10 = .ok (.return_, 1) := by decide +kernel
theorem dX2_offer_11 : decode cX2_offer 11 = .ok (.lload_n 2, 1) := by decide +kernel
theorem dX2_offer_12 : decode cX2_offer 12 = .ok (.aload_n 0, 1) := by decide +kernel
theorem dX2_offer_13 : decode cX2_offer 13 = .ok (.getfield 35, 3) := by decide +kernel
theorem dX2_offer_16 : decode cX2_offer 16 = .ok (.iload_n 1, 1) := by decide +kernel
theorem dX2_offer_17 : decode cX2_offer 17 = .ok (.laload, 1) := by decide +kernel
theorem dX2_offer_18 : decode cX2_offer 18 = .ok (.lcmp, 1) := by decide +kernel
theorem dX2_offer_19 : decode cX2_offer 19 = .ok (.ifCond .lt 26, 3) := by decide +kernel
theorem dX2_offer_22 : decode cX2_offer 22 = .ok (.lload_n 2, 1) := by decide +kernel
theorem dX2_offer_23 : decode cX2_offer 23 = .ok (.aload_n 0, 1) := by decide +kernel
theorem dX2_offer_24 : decode cX2_offer 24 = .ok (.getfield 35, 3) := by decide +kernel
theorem dX2_offer_27 : decode cX2_offer 27 = .ok (.iload_n 1, 1) := by decide +kernel
theorem dX2_offer_28 : decode cX2_offer 28 = .ok (.laload, 1) := by decide +kernel
theorem dX2_offer_29 : decode cX2_offer 29 = .ok (.lcmp, 1) := by decide +kernel
theorem dX2_offer_30 : decode cX2_offer 30 = .ok (.ifCond .ne 30, 3) := by decide +kernel
theorem dX2_offer_33 : decode cX2_offer 33 = .ok (.lload 4, 2) := by decide +kernel
theorem dX2_offer_35 : decode cX2_offer 35 = .ok (.aload_n 0, 1) := by decide +kernel
theorem dX2_offer_36 : decode cX2_offer 36 = .ok (.getfield 38, 3) := by decide +kernel
theorem dX2_offer_39 : decode cX2_offer 39 = .ok (.iload_n 1, 1) := by decide +kernel
theorem dX2_offer_40 : decode cX2_offer 40 = .ok (.laload, 1) := by decide +kernel
theorem dX2_offer_41 : decode cX2_offer 41 = .ok (.lcmp, 1) := by decide +kernel
theorem dX2_offer_42 : decode cX2_offer 42 = .ok (.ifCond .ge 18, 3) := by decide +kernel
theorem dX2_offer_45 : decode cX2_offer 45 = .ok (.aload_n 0, 1) := by decide +kernel
theorem dX2_offer_46 : decode cX2_offer 46 = .ok (.getfield 35, 3) := by decide +kernel
theorem dX2_offer_49 : decode cX2_offer 49 = .ok (.iload_n 1, 1) := by decide +kernel
theorem dX2_offer_50 : decode cX2_offer 50 = .ok (.lload_n 2, 1) := by decide +kernel
theorem dX2_offer_51 : decode cX2_offer 51 = .ok (.lastore, 1) := by decide +kernel
theorem dX2_offer_52 : decode cX2_offer 52 = .ok (.aload_n 0, 1) := by decide +kernel
theorem dX2_offer_53 : decode cX2_offer 53 = .ok (.getfield 38, 3) := by decide +kernel
theorem dX2_offer_56 : decode cX2_offer 56 = .ok (.iload_n 1, 1) := by decide +kernel
theorem dX2_offer_57 : decode cX2_offer 57 = .ok (.lload 4, 2) := by decide +kernel
theorem dX2_offer_59 : decode cX2_offer 59 = .ok (.lastore, 1) := by decide +kernel
theorem dX2_offer_60 : decode cX2_offer 60 = .ok (.return_, 1) := by decide +kernel
theorem dX2_settle_0 : decode cX2_settle 0 = .ok (.aload_n 0, 1) := by decide +kernel
theorem dX2_settle_1 : decode cX2_settle 1 = .ok (.aload_n 0, 1) := by decide +kernel
theorem dX2_settle_2 : decode cX2_settle 2 = .ok (.getfield 28, 3) := by decide +kernel
theorem dX2_settle_5 : decode cX2_settle 5 = .ok (.iconst 0, 1) := by decide +kernel
theorem dX2_settle_6 : decode cX2_settle 6 = .ok (.laload, 1) := by decide +kernel
theorem dX2_settle_7 : decode cX2_settle 7 = .ok (.putfield 15, 3) := by decide +kernel
theorem dX2_settle_10 : decode cX2_settle 10 = .ok (.aload_n 0, 1) := by decide +kernel
theorem dX2_settle_11 : decode cX2_settle 11 = .ok (.aload_n 0, 1) := by decide +kernel
theorem dX2_settle_12 : decode cX2_settle 12 = .ok (.getfield 32, 3) := by decide +kernel
theorem dX2_settle_15 : decode cX2_settle 15 = .ok (.iconst 0, 1) := by decide +kernel
theorem dX2_settle_16 : decode cX2_settle 16 = .ok (.laload, 1) := by decide +kernel
theorem dX2_settle_17 : decode cX2_settle 17 = .ok (.putfield 19, 3) := by decide +kernel
theorem dX2_settle_20 : decode cX2_settle 20 = .ok (.iconst 1, 1) := by decide +kernel
theorem dX2_settle_21 : decode cX2_settle 21 = .ok (.istore_n 1, 1) := by decide +kernel
theorem dX2_settle_22 : decode cX2_settle 22 = .ok (.iload_n 1, 1) := by decide +kernel
theorem dX2_settle_23 : decode cX2_settle 23 = .ok (.bipush 32, 2) := by decide +kernel
theorem dX2_settle_25 : decode cX2_settle 25 = .ok (.if_icmp .ge 71, 3) := by decide +kernel
theorem dX2_settle_28 : decode cX2_settle 28 = .ok (.aload_n 0, 1) := by decide +kernel
theorem dX2_settle_29 : decode cX2_settle 29 = .ok (.getfield 28, 3) := by decide +kernel
theorem dX2_settle_32 : decode cX2_settle 32 = .ok (.iload_n 1, 1) := by decide +kernel
theorem dX2_settle_33 : decode cX2_settle 33 = .ok (.laload, 1) := by decide +kernel
theorem dX2_settle_34 : decode cX2_settle 34 = .ok (.aload_n 0, 1) := by decide +kernel
theorem dX2_settle_35 : decode cX2_settle 35 = .ok (.getfield 15, 3) := by decide +kernel
theorem dX2_settle_38 : decode cX2_settle 38 = .ok (.lcmp, 1) := by decide +kernel
theorem dX2_settle_39 : decode cX2_settle 39 = .ok (.ifCond .lt 31, 3) := by decide +kernel
theorem dX2_settle_42 : decode cX2_settle 42 = .ok (.aload_n 0, 1) := by decide +kernel
theorem dX2_settle_43 : decode cX2_settle 43 = .ok (.getfield 28, 3) := by decide +kernel
theorem dX2_settle_46 : decode cX2_settle 46 = .ok (.iload_n 1, 1) := by decide +kernel
theorem dX2_settle_47 : decode cX2_settle 47 = .ok (.laload, 1) := by decide +kernel
theorem dX2_settle_48 : decode cX2_settle 48 = .ok (.aload_n 0, 1) := by decide +kernel
theorem dX2_settle_49 : decode cX2_settle 49 = .ok (.getfield 15, 3) := by decide +kernel
theorem dX2_settle_52 : decode cX2_settle 52 = .ok (.lcmp, 1) := by decide +kernel
theorem dX2_settle_53 : decode cX2_settle 53 = .ok (.ifCond .ne 37, 3) := by decide +kernel
theorem dX2_settle_56 : decode cX2_settle 56 = .ok (.aload_n 0, 1) := by decide +kernel
theorem dX2_settle_57 : decode cX2_settle 57 = .ok (.getfield 32, 3) := by decide +kernel
theorem dX2_settle_60 : decode cX2_settle 60 = .ok (.iload_n 1, 1) := by decide +kernel
theorem dX2_settle_61 : decode cX2_settle 61 = .ok (.laload, 1) := by decide +kernel
theorem dX2_settle_62 : decode cX2_settle 62 = .ok (.aload_n 0, 1) := by decide +kernel
theorem dX2_settle_63 : decode cX2_settle 63 = .ok (.getfield 19, 3) := by decide +kernel
theorem dX2_settle_66 : decode cX2_settle 66 = .ok (.lcmp, 1) := by decide +kernel
theorem dX2_settle_67 : decode cX2_settle 67 = .ok (.ifCond .ge 23, 3) := by decide +kernel
theorem dX2_settle_70 : decode cX2_settle 70 = .ok (.aload_n 0, 1) := by decide +kernel
theorem dX2_settle_71 : decode cX2_settle 71 = .ok (.aload_n 0, 1) := by decide +kernel
theorem dX2_settle_72 : decode cX2_settle 72 = .ok (.getfield 28, 3) := by decide +kernel
theorem dX2_settle_75 : decode cX2_settle 75 = .ok (.iload_n 1, 1) := by decide +kernel
theorem dX2_settle_76 : decode cX2_settle 76 = .ok (.laload, 1) := by decide +kernel
theorem dX2_settle_77 : decode cX2_settle 77 = .ok (.putfield 15, 3) := by decide +kernel
theorem dX2_settle_80 : decode cX2_settle 80 = .ok (.aload_n 0, 1) := by decide +kernel
theorem dX2_settle_81 : decode cX2_settle 81 = .ok (.aload_n 0, 1) := by decide +kernel
theorem dX2_settle_82 : decode cX2_settle 82 = .ok (.getfield 32, 3) := by decide +kernel
theorem dX2_settle_85 : decode cX2_settle 85 = .ok (.iload_n 1, 1) := by decide +kernel
theorem dX2_settle_86 : decode cX2_settle 86 = .ok (.laload, 1) := by decide +kernel
theorem dX2_settle_87 : decode cX2_settle 87 = .ok (.putfield 19, 3) := by decide +kernel
theorem dX2_settle_90 : decode cX2_settle 90 = .ok (.iinc 1 1, 3) := by decide +kernel
theorem dX2_settle_93 : decode cX2_settle 93 = .ok (.goto (-71), 3) := by decide +kernel
theorem dX2_settle_96 : decode cX2_settle 96 = .ok (.return_, 1) := by decide +kernel
theorem dX3_init_0 : decode cX3_init 0 = .ok (.aload_n 0, 1) := by decide +kernel
theorem dX3_init_1 : decode cX3_init 1 = .ok (.invokespecial 3, 3) := by decide +kernel
theorem dX3_init_4 : decode cX3_init 4 = .ok (.aload_n 0, 1) := by decide +kernel
theorem dX3_init_5 : decode cX3_init 5 = .ok (.lconst 0, 1) := by decide +kernel
theorem dX3_init_6 : decode cX3_init 6 = .ok (.putfield 9, 3) := by decide +kernel
theorem dX3_init_9 : decode cX3_init 9 = .ok (.aload_n 0, 1) := by decide +kernel
theorem dX3_init_10 : decode cX3_init 10 = .ok (.lconst 0, 1) := by decide +kernel
theorem dX3_init_11 : decode cX3_init 11 = .ok (.putfield 15, 3) := by decide +kernel
theorem dX3_init_14 : decode cX3_init 14 = .ok (.aload_n 0, 1) := by decide +kernel
theorem dX3_init_15 : decode cX3_init 15 = .ok (.iconst 0, 1) := by decide +kernel
theorem dX3_init_16 : decode cX3_init 16 = .ok (.putfield 18, 3) := by decide +kernel
theorem dX3_init_19 : decode cX3_init 19 = .ok (.aload_n 0, 1) := by decide +kernel
theorem dX3_init_20 : decode cX3_init 20 = .ok (.iconst 0, 1) := by decide +kernel
theorem dX3_init_21 : decode cX3_init 21 = .ok (.putfield 22, 3) := by decide +kernel
theorem dX3_init_24 : decode cX3_init 24 = .ok (.aload_n 0, 1) := by decide +kernel
theorem dX3_init_25 : decode cX3_init 25 = .ok (.bipush 13, 2) := by decide +kernel
theorem dX3_init_27 : decode cX3_init 27 = .ok (.putfield 25, 3) := by decide +kernel
theorem dX3_init_30 : decode cX3_init 30 = .ok (.aload_n 0, 1) := by decide +kernel
theorem dX3_init_31 : decode cX3_init 31 = .ok (.bipush 15, 2) := by decide +kernel
theorem dX3_init_33 : decode cX3_init 33 = .ok (.putfield 28, 3) := by decide +kernel
theorem dX3_init_36 : decode cX3_init 36 = .ok (.aload_n 0, 1) := by decide +kernel
theorem dX3_init_37 : decode cX3_init 37 = .ok (.bipush 10, 2) := by decide +kernel
theorem dX3_init_39 : decode cX3_init 39 = .ok (.putfield 31, 3) := by decide +kernel
theorem dX3_init_42 : decode cX3_init 42 = .ok (.aload_n 0, 1) := by decide +kernel
theorem dX3_init_43 : decode cX3_init 43 = .ok (.bipush 8, 2) := by decide +kernel
theorem dX3_init_45 : decode cX3_init 45 = .ok (.putfield 34, 3) := by decide +kernel
theorem dX3_init_48 : decode cX3_init 48 = .ok (.aload_n 0, 1) := by decide +kernel
theorem dX3_init_49 : decode cX3_init 49 = .ok (.sipush 212, 3) := by decide +kernel
theorem dX3_init_52 : decode cX3_init 52 = .ok (.putfield 37, 3) := by decide +kernel
theorem dX3_init_55 : decode cX3_init 55 = .ok (.return_, 1) := by decide +kernel
theorem dX3_append_0 : decode cX3_append 0 = .ok (.aload_n 0, 1) := by decide +kernel
theorem dX3_append_1 : decode cX3_append 1 = .ok (.aload_n 0, 1) := by decide +kernel
theorem dX3_append_2 : decode cX3_append 2 = .ok (.getfield 9, 3) := by decide +kernel
theorem dX3_append_5 : decode cX3_append 5 = .ok (.iload_n 3, 1) := by decide +kernel
theorem dX3_append_6 : decode cX3_append 6 = .ok (.lshl, 1) := by decide +kernel
theorem dX3_append_7 : decode cX3_append 7 = .ok (.lload_n 1, 1) := by decide +kernel
theorem dX3_append_8 : decode cX3_append 8 = .ok (.lconst 1, 1) := by decide +kernel
theorem dX3_append_9 : decode cX3_append 9 = .ok (.iload_n 3, 1) := by decide +kernel
theorem dX3_append_10 : decode cX3_append 10 = .ok (.lshl, 1) := by decide +kernel
theorem dX3_append_11 : decode cX3_append 11 = .ok (.lconst 1, 1) := by decide +kernel
theorem dX3_append_12 : decode cX3_append 12 = .ok (.lsub, 1) := by decide +kernel
theorem dX3_append_13 : decode cX3_append 13 = .ok (.land, 1) := by decide +kernel
theorem dX3_append_14 : decode cX3_append 14 = .ok (.lor, 1) := by decide +kernel
theorem dX3_append_15 : decode cX3_append 15 = .ok (.putfield 9, 3) := by decide +kernel
theorem dX3_append_18 : decode cX3_append 18 = .ok (.aload_n 0, 1) := by decide +kernel
theorem dX3_append_19 : decode cX3_append 19 = .ok (.dup, 1) := by decide +kernel
theorem dX3_append_20 : decode cX3_append 20 = .ok (.getfield 18, 3) := by decide +kernel
theorem dX3_append_23 : decode cX3_append 23 = .ok (.iload_n 3, 1) := by decide +kernel
theorem dX3_append_24 : decode cX3_append 24 = .ok (.iadd, 1) := by decide +kernel
theorem dX3_append_25 : decode cX3_append 25 = .ok (.putfield 18, 3) := by decide +kernel
theorem dX3_append_28 : decode cX3_append 28 = .ok (.aload_n 0, 1) := by decide +kernel
theorem dX3_append_29 : decode cX3_append 29 = .ok (.aload_n 0, 1) := by decide +kernel
theorem dX3_append_30 : decode cX3_append 30 = .ok (.getfield 9, 3) := by decide +kernel
theorem dX3_append_33 : decode cX3_append 33 = .ok (.aload_n 0, 1) := by decide +kernel
theorem dX3_append_34 : decode cX3_append 34 = .ok (.getfield 18, 3) := by decide +kernel
theorem dX3_append_37 : decode cX3_append 37 = .ok (.aload_n 0, 1) := by decide +kernel
theorem dX3_append_38 : decode cX3_append 38 = .ok (.getfield 22, 3) := by decide +kernel
theorem dX3_append_41 : decode cX3_append 41 = .ok (.invokestatic 40, 3) := by decide +kernel
theorem dX3_append_44 : decode cX3_append 44 = .ok (.putfield 15, 3) := by decide +kernel
theorem dX3_append_47 : decode cX3_append 47 = .ok (.return_, 1) := by decide +kernel
theorem dX3_empty_0 : decode cX3_empty 0 = .ok (.aload_n 0, 1) := by decide +kernel
theorem dX3_empty_1 : decode cX3_empty 1 = .ok (.lconst 0, 1) := by decide +kernel
theorem dX3_empty_2 : decode cX3_empty 2 = .ok (.putfield 9, 3) := by decide +kernel
theorem dX3_empty_5 : decode cX3_empty 5 = .ok (.aload_n 0, 1) := by decide +kernel
theorem dX3_empty_6 : decode cX3_empty 6 = .ok (.lconst 0, 1) := by decide +kernel
theorem dX3_empty_7 : decode cX3_empty 7 = .ok (.putfield 15, 3) := by decide +kernel
theorem dX3_empty_10 : decode cX3_empty 10 = .ok (.aload_n 0, 1) := by decide +kernel
theorem dX3_empty_11 : decode cX3_empty 11 = .ok (.iconst 0, 1) := by decide +kernel
theorem dX3_empty_12 : decode cX3_empty 12 = .ok (.putfield 18, 3) := by decide +kernel
theorem dX3_empty_15 : decode cX3_empty 15 = .ok (.return_, 1) := by decide +kernel
theorem dX3_setMask_0 : decode cX3_setMask 0 = .ok (.aload_n 0, 1) := by decide +kernel
theorem dX3_setMask_1 : decode cX3_setMask 1 = .ok (.iload_n 1, 1) := by decide +kernel
theorem dX3_setMask_2 : decode cX3_setMask 2 = .ok (.putfield 22, 3) := by decide +kernel
theorem dX3_setMask_5 : decode cX3_setMask 5 = .ok (.aload_n 0, 1) := by decide +kernel
theorem dX3_setMask_6 : decode cX3_setMask 6 = .ok (.aload_n 0, 1) := by decide +kernel
theorem dX3_setMask_7 : decode cX3_setMask 7 = .ok (.getfield 9, 3) := by decide +kernel
theorem dX3_setMask_10 : decode cX3_setMask 10 = .ok (.aload_n 0, 1) := by decide +kernel
theorem dX3_setMask_11 : decode cX3_setMask 11 = .ok (.getfield 18, 3) := by decide +kernel
theorem dX3_setMask_14 : decode cX3_setMask 14 = .ok (.aload_n 0, 1) := by decide +kernel
theorem dX3_setMask_15 : decode cX3_setMask 15 = .ok (.getfield 22, 3) := by decide +kernel
theorem dX3_setMask_18 : decode cX3_setMask 18 = .ok (.invokestatic 40, 3) := by decide +kernel
theorem dX3_setMask_21 : decode cX3_setMask 21 = .ok (.putfield 15, 3) := by decide +kernel
theorem dX3_setMask_24 : decode cX3_setMask 24 = .ok (.return_, 1) := by decide +kernel
theorem dX3_steps_0 : decode cX3_steps 0 = .ok (.aload_n 0, 1) := by decide +kernel
theorem dX3_steps_1 : decode cX3_steps 1 = .ok (.getfield 18, 3) := by decide +kernel
theorem dX3_steps_4 : decode cX3_steps 4 = .ok (.iconst 3, 1) := by decide +kernel
theorem dX3_steps_5 : decode cX3_steps 5 = .ok (.iadd, 1) := by decide +kernel
theorem dX3_steps_6 : decode cX3_steps 6 = .ok (.ireturn, 1) := by decide +kernel
theorem dX3_frameSize_0 : decode cX3_frameSize 0 = .ok (.aload_n 0, 1) := by decide +kernel
theorem dX3_frameSize_1 : decode cX3_frameSize 1 = .ok (.getfield 34, 3) := by decide +kernel
theorem dX3_frameSize_4 : decode cX3_frameSize 4 = .ok (.iconst 2, 1) := by decide +kernel
theorem dX3_frameSize_5 : decode cX3_frameSize 5 = .ok (.aload_n 0, 1) := by decide +kernel
theorem dX3_frameSize_6 : decode cX3_frameSize 6 = .ok (.invokevirtual 44, 3) := by decide +kernel
theorem dX3_frameSize_9 : decode cX3_frameSize 9 = .ok (.imul, 1) := by decide +kernel
theorem dX3_frameSize_10 : decode cX3_frameSize 10 = .ok (.iadd, 1) := by decide +kernel
theorem dX3_frameSize_11 : decode cX3_frameSize 11 = .ok (.ireturn, 1) := by decide +kernel
theorem dX3_sign_0 : decode cX3_sign 0 = .ok (.iload_n 1, 1) := by decide +kernel
theorem dX3_sign_1 : decode cX3_sign 1 = .ok (.iconst 0, 1) := by decide +kernel
theorem dX3_sign_2 : decode cX3_sign 2 = .ok (.aload_n 0, 1) := by decide +kernel
theorem dX3_sign_3 : decode cX3_sign 3 = .ok (.getfield 34, 3) := by decide +kernel
theorem dX3_sign_6 : decode cX3_sign 6 = .ok (.iconst 1, 1) := by decide +kernel
theorem dX3_sign_7 : decode cX3_sign 7 = .ok (.isub, 1) := by decide +kernel
theorem dX3_sign_8 : decode cX3_sign 8 = .ok (.invokestatic 48, 3) := by decide +kernel
theorem dX3_sign_11 : decode cX3_sign 11 = .ok (.ifCond .ne 5, 3) := by decide +kernel
theorem dX3_sign_14 : decode cX3_sign 14 = .ok (.iconst 0, 1) := by decide +kernel
theorem dX3_sign_15 : decode cX3_sign 15 = .ok (.ireturn, 1) := by decide +kernel
theorem dX3_sign_16 : decode cX3_sign 16 = .ok (.aload_n 0, 1) := by decide +kernel
theorem dX3_sign_17 : decode cX3_sign 17 = .ok (.getfield 37, 3) := by decide +kernel
theorem dX3_sign_20 : decode cX3_sign 20 = .ok (.i2l, 1) := by decide +kernel
theorem dX3_sign_21 : decode cX3_sign 21 = .ok (.aload_n 0, 1) := by decide +kernel
theorem dX3_sign_22 : decode cX3_sign 22 = .ok (.getfield 34, 3) := by decide +kernel
theorem dX3_sign_25 : decode cX3_sign 25 = .ok (.iload_n 1, 1) := by decide +kernel
theorem dX3_sign_26 : decode cX3_sign 26 = .ok (.invokestatic 52, 3) := by decide +kernel
theorem dX3_sign_29 : decode cX3_sign 29 = .ok (.iconst 1, 1) := by decide +kernel
theorem dX3_sign_30 : decode cX3_sign 30 = .ok (.if_icmp .ne 7, 3) := by decide +kernel
theorem dX3_sign_33 : decode cX3_sign 33 = .ok (.iconst 1, 1) := by decide +kernel
theorem dX3_sign_34 : decode cX3_sign 34 = .ok (.goto 4, 3) := by decide +kernel
theorem dX3_sign_37 : decode cX3_sign 37 = .ok (.iconst (-1), 1) := by decide +kernel
theorem dX3_sign_38 : decode cX3_sign 38 = .ok (.ireturn, 1) := by decide +kernel
theorem dX3_codeVoice_0 : decode cX3_codeVoice 0 = .ok (.iload_n 3, 1) := by decide +kernel
theorem dX3_codeVoice_1 : decode cX3_codeVoice 1 = .ok (.ifCond .ne 10, 3) := by decide +kernel
theorem dX3_codeVoice_4 : decode cX3_codeVoice 4 = .ok (.aload_n 0, 1) := by decide +kernel
theorem dX3_codeVoice_5 : decode cX3_codeVoice 5 = .ok (.getfield 25, 3) := by decide +kernel
theorem dX3_codeVoice_8 : decode cX3_codeVoice 8 = .ok (.goto 7, 3) := by decide +kernel
theorem dX3_codeVoice_11 : decode cX3_codeVoice 11 = .ok (.aload_n 0, 1) := by decide +kernel
theorem dX3_codeVoice_12 : decode cX3_codeVoice 12 = .ok (.getfield 28, 3) := by decide +kernel
theorem dX3_codeVoice_15 : decode cX3_codeVoice 15 = .ok (.istore 4, 2) := by decide +kernel
theorem dX3_codeVoice_17 : decode cX3_codeVoice 17 = .ok (.lload_n 1, 1) := by decide +kernel
theorem dX3_codeVoice_18 : decode cX3_codeVoice 18 = .ok (.iload 4, 2) := by decide +kernel
theorem dX3_codeVoice_20 : decode cX3_codeVoice 20 = .ok (.i2l, 1) := by decide +kernel
theorem dX3_codeVoice_21 : decode cX3_codeVoice 21 = .ok (.land, 1) := by decide +kernel
theorem dX3_codeVoice_22 : decode cX3_codeVoice 22 = .ok (.invokestatic 56, 3) := by decide +kernel
theorem dX3_codeVoice_25 : decode cX3_codeVoice 25 = .ok (.iconst 1, 1) := by decide +kernel
theorem dX3_codeVoice_26 : decode cX3_codeVoice 26 = .ok (.if_icmp .ne 10, 3) := by decide +kernel
theorem dX3_codeVoice_29 : decode cX3_codeVoice 29 = .ok (.aload_n 0, 1) := by decide +kernel
theorem dX3_codeVoice_30 : decode cX3_codeVoice 30 = .ok (.getfield 31, 3) := by decide +kernel
theorem dX3_codeVoice_33 : decode cX3_codeVoice 33 = .ok (.goto 8, 3) := by decide +kernel
theorem dX3_codeVoice_36 : decode cX3_codeVoice 36 = .ok (.aload_n 0, 1) := by decide +kernel
theorem dX3_codeVoice_37 : decode cX3_codeVoice 37 = .ok (.getfield 31, 3) := by decide +kernel
theorem dX3_codeVoice_40 : decode cX3_codeVoice 40 = .ok (.ineg, 1) := by decide +kernel
theorem dX3_codeVoice_41 : decode cX3_codeVoice 41 = .ok (.ireturn, 1) := by decide +kernel
theorem dX3_frameVoice_0 : decode cX3_frameVoice 0 = .ok (.iload_n 1, 1) := by decide +kernel
theorem dX3_frameVoice_1 : decode cX3_frameVoice 1 = .ok (.aload_n 0, 1) := by decide +kernel
theorem dX3_frameVoice_2 : decode cX3_frameVoice 2 = .ok (.getfield 34, 3) := by decide +kernel
theorem dX3_frameVoice_5 : decode cX3_frameVoice 5 = .ok (.if_icmp .ge 14, 3) := by decide +kernel
theorem dX3_frameVoice_8 : decode cX3_frameVoice 8 = .ok (.aload_n 0, 1) := by decide +kernel
theorem dX3_frameVoice_9 : decode cX3_frameVoice 9 = .ok (.iload_n 1, 1) := by decide +kernel
theorem dX3_frameVoice_10 : decode cX3_frameVoice 10 = .ok (.invokevirtual 60, 3) := by decide +kernel
theorem dX3_frameVoice_13 : decode cX3_frameVoice 13 = .ok (.aload_n 0, 1) := by decide +kernel
theorem dX3_frameVoice_14 : decode cX3_frameVoice 14 = .ok (.getfield 31, 3) := by decide +kernel
theorem dX3_frameVoice_17 : decode cX3_frameVoice 17 = .ok (.imul, 1) := by decide +kernel
theorem dX3_frameVoice_18 : decode cX3_frameVoice 18 = .ok (.ireturn, 1) := by decide +kernel
theorem dX3_frameVoice_19 : decode cX3_frameVoice 19 = .ok (.iload_n 1, 1) := by decide +kernel
theorem dX3_frameVoice_20 : decode cX3_frameVoice 20 = .ok (.aload_n 0, 1) := by decide +kernel
theorem dX3_frameVoice_21 : decode cX3_frameVoice 21 = .ok (.getfield 34, 3) := by decide +kernel
theorem dX3_frameVoice_24 : decode cX3_frameVoice 24 = .ok (.isub, 1) := by decide +kernel
theorem dX3_frameVoice_25 : decode cX3_frameVoice 25 = .ok (.istore_n 2, 1) := by decide +kernel
theorem dX3_frameVoice_26 : decode cX3_frameVoice 26 = .ok (.iload_n 2, 1) := by decide +kernel
theorem dX3_frameVoice_27 : decode cX3_frameVoice 27 = .ok (.iconst 2, 1) := by decide +kernel
theorem dX3_frameVoice_28 : decode cX3_frameVoice 28 = .ok (.idiv, 1) := by decide +kernel
theorem dX3_frameVoice_29 : decode cX3_frameVoice 29 = .ok (.istore_n 3, 1) := by decide +kernel
theorem dX3_frameVoice_30 : decode cX3_frameVoice 30 = .ok (.iload_n 3, 1) := by decide +kernel
theorem dX3_frameVoice_31 : decode cX3_frameVoice 31 = .ok (.aload_n 0, 1) := by decide +kernel
theorem dX3_frameVoice_32 : decode cX3_frameVoice 32 = .ok (.invokevirtual 44, 3) := by decide +kernel
theorem dX3_frameVoice_35 : decode cX3_frameVoice 35 = .ok (.if_icmp .lt 5, 3) := by decide +kernel
theorem dX3_frameVoice_38 : decode cX3_frameVoice 38 = .ok (.iconst 0, 1) := by decide +kernel
theorem dX3_frameVoice_39 : decode cX3_frameVoice 39 = .ok (.ireturn, 1) := by decide +kernel
theorem dX3_frameVoice_40 : decode cX3_frameVoice 40 = .ok (.aload_n 0, 1) := by decide +kernel
theorem dX3_frameVoice_41 : decode cX3_frameVoice 41 = .ok (.getfield 15, 3) := by decide +kernel
theorem dX3_frameVoice_44 : decode cX3_frameVoice 44 = .ok (.iconst 3, 1) := by decide +kernel
theorem dX3_frameVoice_45 : decode cX3_frameVoice 45 = .ok (.lshl, 1) := by decide +kernel
theorem dX3_frameVoice_46 : decode cX3_frameVoice 46 = .ok (.lstore 4, 2) := by decide +kernel
theorem dX3_frameVoice_48 : decode cX3_frameVoice 48 = .ok (.aload_n 0, 1) := by decide +kernel
theorem dX3_frameVoice_49 : decode cX3_frameVoice 49 = .ok (.lload 4, 2) := by decide +kernel
theorem dX3_frameVoice_51 : decode cX3_frameVoice 51 = .ok (.aload_n 0, 1) := by decide +kernel
theorem dX3_frameVoice_52 : decode cX3_frameVoice 52 = .ok (.invokevirtual 44, 3) := by decide +kernel
theorem dX3_frameVoice_55 : decode cX3_frameVoice 55 = .ok (.iconst 1, 1) := by decide +kernel
theorem dX3_frameVoice_56 : decode cX3_frameVoice 56 = .ok (.isub, 1) := by decide +kernel
theorem dX3_frameVoice_57 : decode cX3_frameVoice 57 = .ok (.iload_n 3, 1) := by decide +kernel
theorem dX3_frameVoice_58 : decode cX3_frameVoice 58 = .ok (.isub, 1) := by decide +kernel
theorem dX3_frameVoice_59 : decode cX3_frameVoice 59 = .ok (.lshr, 1) := by decide +kernel
theorem dX3_frameVoice_60 : decode cX3_frameVoice 60 = .ok (.iload_n 2, 1) := by decide +kernel
theorem dX3_frameVoice_61 : decode cX3_frameVoice 61 = .ok (.iconst 2, 1) := by decide +kernel
theorem dX3_frameVoice_62 : decode cX3_frameVoice 62 = .ok (.irem, 1) := by decide +kernel
theorem dX3_frameVoice_63 : decode cX3_frameVoice 63 = .ok (.invokevirtual 64, 3) := by decide +kernel
theorem dX3_frameVoice_66 : decode cX3_frameVoice 66 = .ok (.ireturn, 1) := by decide +kernel
theorem dJ13_bitCount_95d88_0 : decode cJ13_bitCount_95d88 0 = .ok (.lload_n 0, 1) := by decide +kernel
theorem dJ13_bitCount_95d88_1 : decode cJ13_bitCount_95d88 1 = .ok (.lload_n 0, 1) := by decide +kernel
theorem dJ13_bitCount_95d88_2 : decode cJ13_bitCount_95d88 2 = .ok (.iconst 1, 1) := by decide +kernel
theorem dJ13_bitCount_95d88_3 : decode cJ13_bitCount_95d88 3 = .ok (.lushr, 1) := by decide +kernel
theorem dJ13_bitCount_95d88_4 : decode cJ13_bitCount_95d88 4 = .ok (.ldc2_w 314, 3) := by decide +kernel
theorem dJ13_bitCount_95d88_7 : decode cJ13_bitCount_95d88 7 = .ok (.land, 1) := by decide +kernel
theorem dJ13_bitCount_95d88_8 : decode cJ13_bitCount_95d88 8 = .ok (.lsub, 1) := by decide +kernel
theorem dJ13_bitCount_95d88_9 : decode cJ13_bitCount_95d88 9 = .ok (.lstore_n 0, 1) := by decide +kernel
theorem dJ13_bitCount_95d88_10 : decode cJ13_bitCount_95d88 10 = .ok (.lload_n 0, 1) := by decide +kernel
theorem dJ13_bitCount_95d88_11 : decode cJ13_bitCount_95d88 11 = .ok (.ldc2_w 316, 3) := by decide +kernel
theorem dJ13_bitCount_95d88_14 : decode cJ13_bitCount_95d88 14 = .ok (.land, 1) := by decide +kernel
theorem dJ13_bitCount_95d88_15 : decode cJ13_bitCount_95d88 15 = .ok (.lload_n 0, 1) := by decide +kernel
theorem dJ13_bitCount_95d88_16 : decode cJ13_bitCount_95d88 16 = .ok (.iconst 2, 1) := by decide +kernel
theorem dJ13_bitCount_95d88_17 : decode cJ13_bitCount_95d88 17 = .ok (.lushr, 1) := by decide +kernel
theorem dJ13_bitCount_95d88_18 : decode cJ13_bitCount_95d88 18 = .ok (.ldc2_w 316, 3) := by decide +kernel
theorem dJ13_bitCount_95d88_21 : decode cJ13_bitCount_95d88 21 = .ok (.land, 1) := by decide +kernel
theorem dJ13_bitCount_95d88_22 : decode cJ13_bitCount_95d88 22 = .ok (.ladd, 1) := by decide +kernel
theorem dJ13_bitCount_95d88_23 : decode cJ13_bitCount_95d88 23 = .ok (.lstore_n 0, 1) := by decide +kernel
theorem dJ13_bitCount_95d88_24 : decode cJ13_bitCount_95d88 24 = .ok (.lload_n 0, 1) := by decide +kernel
theorem dJ13_bitCount_95d88_25 : decode cJ13_bitCount_95d88 25 = .ok (.lload_n 0, 1) := by decide +kernel
theorem dJ13_bitCount_95d88_26 : decode cJ13_bitCount_95d88 26 = .ok (.iconst 4, 1) := by decide +kernel
theorem dJ13_bitCount_95d88_27 : decode cJ13_bitCount_95d88 27 = .ok (.lushr, 1) := by decide +kernel
theorem dJ13_bitCount_95d88_28 : decode cJ13_bitCount_95d88 28 = .ok (.ladd, 1) := by decide +kernel
theorem dJ13_bitCount_95d88_29 : decode cJ13_bitCount_95d88 29 = .ok (.ldc2_w 318, 3) := by decide +kernel
theorem dJ13_bitCount_95d88_32 : decode cJ13_bitCount_95d88 32 = .ok (.land, 1) := by decide +kernel
theorem dJ13_bitCount_95d88_33 : decode cJ13_bitCount_95d88 33 = .ok (.lstore_n 0, 1) := by decide +kernel
theorem dJ13_bitCount_95d88_34 : decode cJ13_bitCount_95d88 34 = .ok (.lload_n 0, 1) := by decide +kernel
theorem dJ13_bitCount_95d88_35 : decode cJ13_bitCount_95d88 35 = .ok (.lload_n 0, 1) := by decide +kernel
theorem dJ13_bitCount_95d88_36 : decode cJ13_bitCount_95d88 36 = .ok (.bipush 8, 2) := by decide +kernel
theorem dJ13_bitCount_95d88_38 : decode cJ13_bitCount_95d88 38 = .ok (.lushr, 1) := by decide +kernel
theorem dJ13_bitCount_95d88_39 : decode cJ13_bitCount_95d88 39 = .ok (.ladd, 1) := by decide +kernel
theorem dJ13_bitCount_95d88_40 : decode cJ13_bitCount_95d88 40 = .ok (.lstore_n 0, 1) := by decide +kernel
theorem dJ13_bitCount_95d88_41 : decode cJ13_bitCount_95d88 41 = .ok (.lload_n 0, 1) := by decide +kernel
theorem dJ13_bitCount_95d88_42 : decode cJ13_bitCount_95d88 42 = .ok (.lload_n 0, 1) := by decide +kernel
theorem dJ13_bitCount_95d88_43 : decode cJ13_bitCount_95d88 43 = .ok (.bipush 16, 2) := by decide +kernel
theorem dJ13_bitCount_95d88_45 : decode cJ13_bitCount_95d88 45 = .ok (.lushr, 1) := by decide +kernel
theorem dJ13_bitCount_95d88_46 : decode cJ13_bitCount_95d88 46 = .ok (.ladd, 1) := by decide +kernel
theorem dJ13_bitCount_95d88_47 : decode cJ13_bitCount_95d88 47 = .ok (.lstore_n 0, 1) := by decide +kernel
theorem dJ13_bitCount_95d88_48 : decode cJ13_bitCount_95d88 48 = .ok (.lload_n 0, 1) := by decide +kernel
theorem dJ13_bitCount_95d88_49 : decode cJ13_bitCount_95d88 49 = .ok (.lload_n 0, 1) := by decide +kernel
theorem dJ13_bitCount_95d88_50 : decode cJ13_bitCount_95d88 50 = .ok (.bipush 32, 2) := by decide +kernel
theorem dJ13_bitCount_95d88_52 : decode cJ13_bitCount_95d88 52 = .ok (.lushr, 1) := by decide +kernel
theorem dJ13_bitCount_95d88_53 : decode cJ13_bitCount_95d88 53 = .ok (.ladd, 1) := by decide +kernel
theorem dJ13_bitCount_95d88_54 : decode cJ13_bitCount_95d88 54 = .ok (.lstore_n 0, 1) := by decide +kernel
theorem dJ13_bitCount_95d88_55 : decode cJ13_bitCount_95d88 55 = .ok (.lload_n 0, 1) := by decide +kernel
theorem dJ13_bitCount_95d88_56 : decode cJ13_bitCount_95d88 56 = .ok (.l2i, 1) := by decide +kernel
theorem dJ13_bitCount_95d88_57 : decode cJ13_bitCount_95d88 57 = .ok (.bipush 127, 2) := by decide +kernel
theorem dJ13_bitCount_95d88_59 : decode cJ13_bitCount_95d88 59 = .ok (.iand, 1) := by decide +kernel
theorem dJ13_bitCount_95d88_60 : decode cJ13_bitCount_95d88 60 = .ok (.ireturn, 1) := by decide +kernel
