theorem dX0_init_0 : decode cX0_init 0 = .ok (.aload_n 0, 1) := by decide +kernel
theorem dX0_init_1 : decode cX0_init 1 = .ok (.invokespecial 3, 3) := by decide +kernel
theorem dX0_init_4 : decode cX0_init 4 = .ok (.aload_n 0, 1) := by decide +kernel
theorem dX0_init_5 : decode cX0_init 5 = .ok (.getstatic 9, 3) := by decide +kernel
theorem dX0_init_8 : decode cX0_init 8 = .ok (.invokevirtual 13, 3) := by decide +kernel
theorem dX0_init_11 : decode cX0_init 11 = .ok (.checkcast 14, 3) := by decide +kernel
theorem dX0_init_14 : decode cX0_init 14 = .ok (.putfield 18, 3) := by decide +kernel
theorem dX0_init_17 : decode cX0_init 17 = .ok (.aload_n 0, 1) := by decide +kernel
theorem dX0_init_18 : decode cX0_init 18 = .ok (.iconst 0, 1) := by decide +kernel
theorem dX0_init_19 : decode cX0_init 19 = .ok (.putfield 23, 3) := by decide +kernel
theorem dX0_init_22 : decode cX0_init 22 = .ok (.aload_n 0, 1) := by decide +kernel
theorem dX0_init_23 : decode cX0_init 23 = .ok (.iconst 0, 1) := by decide +kernel
theorem dX0_init_24 : decode cX0_init 24 = .ok (.putfield 27, 3) := by decide +kernel
theorem dX0_init_27 : decode cX0_init 27 = .ok (.aload_n 0, 1) := by decide +kernel
theorem dX0_init_28 : decode cX0_init 28 = .ok (.bipush 12, 2) := by decide +kernel
theorem dX0_init_30 : decode cX0_init 30 = .ok (.newarray .int, 2) := by decide +kernel
theorem dX0_init_32 : decode cX0_init 32 = .ok (.putfield 30, 3) := by decide +kernel
theorem dX0_init_35 : decode cX0_init 35 = .ok (.aload_n 0, 1) := by decide +kernel
theorem dX0_init_36 : decode cX0_init 36 = .ok (.bipush 12, 2) := by decide +kernel
theorem dX0_init_38 : decode cX0_init 38 = .ok (.newarray .int, 2) := by decide +kernel
theorem dX0_init_40 : decode cX0_init 40 = .ok (.putfield 33, 3) := by decide +kernel
theorem dX0_init_43 : decode cX0_init 43 = .ok (.aload_n 0, 1) := by decide +kernel
theorem dX0_init_44 : decode cX0_init 44 = .ok (.bipush 12, 2) := by decide +kernel
theorem dX0_init_46 : decode cX0_init 46 = .ok (.newarray .int, 2) := by decide +kernel
theorem dX0_init_48 : decode cX0_init 48 = .ok (.putfield 36, 3) := by decide +kernel
theorem dX0_init_51 : decode cX0_init 51 = .ok (.aload_n 0, 1) := by decide +kernel
theorem dX0_init_52 : decode cX0_init 52 = .ok (.iconst 0, 1) := by decide +kernel
theorem dX0_init_53 : decode cX0_init 53 = .ok (.putfield 39, 3) := by decide +kernel
theorem dX0_init_56 : decode cX0_init 56 = .ok (.aload_n 0, 1) := by decide +kernel
theorem dX0_init_57 : decode cX0_init 57 = .ok (.bipush 8, 2) := by decide +kernel
theorem dX0_init_59 : decode cX0_init 59 = .ok (.newarray .int, 2) := by decide +kernel
theorem dX0_init_61 : decode cX0_init 61 = .ok (.putfield 42, 3) := by decide +kernel
theorem dX0_init_64 : decode cX0_init 64 = .ok (.aload_n 0, 1) := by decide +kernel
theorem dX0_init_65 : decode cX0_init 65 = .ok (.bipush 8, 2) := by decide +kernel
theorem dX0_init_67 : decode cX0_init 67 = .ok (.newarray .int, 2) := by decide +kernel
theorem dX0_init_69 : decode cX0_init 69 = .ok (.putfield 45, 3) := by decide +kernel
theorem dX0_init_72 : decode cX0_init 72 = .ok (.aload_n 0, 1) := by decide +kernel
theorem dX0_init_73 : decode cX0_init 73 = .ok (.bipush 8, 2) := by decide +kernel
theorem dX0_init_75 : decode cX0_init 75 = .ok (.newarray .int, 2) := by decide +kernel
theorem dX0_init_77 : decode cX0_init 77 = .ok (.putfield 48, 3) := by decide +kernel
theorem dX0_init_80 : decode cX0_init 80 = .ok (.aload_n 0, 1) := by decide +kernel
theorem dX0_init_81 : decode cX0_init 81 = .ok (.bipush 8, 2) := by decide +kernel
theorem dX0_init_83 : decode cX0_init 83 = .ok (.newarray .int, 2) := by decide +kernel
theorem dX0_init_85 : decode cX0_init 85 = .ok (.putfield 51, 3) := by decide +kernel
theorem dX0_init_88 : decode cX0_init 88 = .ok (.aload_n 0, 1) := by decide +kernel
theorem dX0_init_89 : decode cX0_init 89 = .ok (.iconst 1, 1) := by decide +kernel
theorem dX0_init_90 : decode cX0_init 90 = .ok (.putfield 54, 3) := by decide +kernel
theorem dX0_init_93 : decode cX0_init 93 = .ok (.return_, 1) := by decide +kernel
theorem dX0_begin_0 : decode cX0_begin 0 = .ok (.getstatic 9, 3) := by decide +kernel
theorem dX0_begin_3 : decode cX0_begin 3 = .ok (.iconst 0, 1) := by decide +kernel
theorem dX0_begin_4 : decode cX0_begin 4 = .ok (.aload_n 0, 1) := by decide +kernel
theorem dX0_begin_5 : decode cX0_begin 5 = .ok (.getfield 18, 3) := by decide +kernel
theorem dX0_begin_8 : decode cX0_begin 8 = .ok (.iconst 0, 1) := by decide +kernel
theorem dX0_begin_9 : decode cX0_begin 9 = .ok (.aload_n 0, 1) := by decide +kernel
theorem dX0_begin_10 : decode cX0_begin 10 = .ok (.getfield 18, 3) := by decide +kernel
theorem dX0_begin_13 : decode cX0_begin 13 = .ok (.arraylength, 1) := by decide +kernel
theorem dX0_begin_14 : decode cX0_begin 14 = .ok (.invokestatic 57, 3) := by decide +kernel
theorem dX0_begin_17 : decode cX0_begin 17 = .ok (.aload_n 0, 1) := by decide +kernel
theorem dX0_begin_18 : decode cX0_begin 18 = .ok (.iconst 0, 1) := by decide +kernel
theorem dX0_begin_19 : decode cX0_begin 19 = .ok (.putfield 23, 3) := by decide +kernel
theorem dX0_begin_22 : decode cX0_begin 22 = .ok (.aload_n 0, 1) := by decide +kernel
theorem dX0_begin_23 : decode cX0_begin 23 = .ok (.iconst 0, 1) := by decide +kernel
theorem dX0_begin_24 : decode cX0_begin 24 = .ok (.putfield 27, 3) := by decide +kernel
theorem dX0_begin_27 : decode cX0_begin 27 = .ok (.aload_n 0, 1) := by decide +kernel
theorem dX0_begin_28 : decode cX0_begin 28 = .ok (.iconst 0, 1) := by decide +kernel
theorem dX0_begin_29 : decode cX0_begin 29 = .ok (.putfield 39, 3) := by decide +kernel
theorem dX0_begin_32 : decode cX0_begin 32 = .ok (.return_, 1) := by decide +kernel
theorem dX0_become_0 : decode cX0_become 0 = .ok (.aload_n 1, 1) := by decide +kernel
theorem dX0_become_1 : decode cX0_become 1 = .ok (.getfield 18, 3) := by decide +kernel
theorem dX0_become_4 : decode cX0_become 4 = .ok (.iconst 0, 1) := by decide +kernel
theorem dX0_become_5 : decode cX0_become 5 = .ok (.aload_n 0, 1) := by decide +kernel
theorem dX0_become_6 : decode cX0_become 6 = .ok (.getfield 18, 3) := by decide +kernel
theorem dX0_become_9 : decode cX0_become 9 = .ok (.iconst 0, 1) := by decide +kernel
theorem dX0_become_10 : decode cX0_become 10 = .ok (.aload_n 0, 1) := by decide +kernel
theorem dX0_become_11 : decode cX0_become 11 = .ok (.getfield 18, 3) := by decide +kernel
theorem dX0_become_14 : decode cX0_become 14 = .ok (.arraylength, 1) := by decide +kernel
theorem dX0_become_15 : decode cX0_become 15 = .ok (.invokestatic 57, 3) := by decide +kernel
theorem dX0_become_18 : decode cX0_become 18 = .ok (.aload_n 0, 1) := by decide +kernel
theorem dX0_become_19 : decode cX0_become 19 = .ok (.aload_n 1, 1) := by decide +kernel
theorem dX0_become_20 : decode cX0_become 20 = .ok (.getfield 23, 3) := by decide +kernel
theorem dX0_become_23 : decode cX0_become 23 = .ok (.putfield 23, 3) := by decide +kernel
theorem dX0_become_26 : decode cX0_become 26 = .ok (.aload_n 0, 1) := by decide +kernel
theorem dX0_become_27 : decode cX0_become 27 = .ok (.aload_n 1, 1) := by decide +kernel
theorem dX0_become_28 : decode cX0_become 28 = .ok (.getfield 27, 3) := by decide +kernel
theorem dX0_become_31 : decode cX0_become 31 = .ok (.putfield 27, 3) := by decide +kernel
theorem dX0_become_34 : decode cX0_become 34 = .ok (.aload_n 1, 1) := by decide +kernel
theorem dX0_become_35 : decode cX0_become 35 = .ok (.getfield 30, 3) := by decide +kernel
theorem dX0_become_38 : decode cX0_become 38 = .ok (.iconst 0, 1) := by decide +kernel
theorem dX0_become_39 : decode cX0_become 39 = .ok (.aload_n 0, 1) := by decide +kernel
theorem dX0_become_40 : decode cX0_become 40 = .ok (.getfield 30, 3) := by decide +kernel
theorem dX0_become_43 : decode cX0_become 43 = .ok (.iconst 0, 1) := by decide +kernel
theorem dX0_become_44 : decode cX0_become 44 = .ok (.bipush 12, 2) := by decide +kernel
theorem dX0_become_46 : decode cX0_become 46 = .ok (.invokestatic 57, 3) := by decide +kernel
theorem dX0_become_49 : decode cX0_become 49 = .ok (.aload_n 1, 1) := by decide +kernel
theorem dX0_become_50 : decode cX0_become 50 = .ok (.getfield 33, 3) := by decide +kernel
theorem dX0_become_53 : decode cX0_become 53 = .ok (.iconst 0, 1) := by decide +kernel
theorem dX0_become_54 : decode cX0_become 54 = .ok (.aload_n 0, 1) := by decide +kernel
theorem dX0_become_55 : decode cX0_become 55 = .ok (.getfield 33, 3) := by decide +kernel
theorem dX0_become_58 : decode cX0_become 58 = .ok (.iconst 0, 1) := by decide +kernel
theorem dX0_become_59 : decode cX0_become 59 = .ok (.bipush 12, 2) := by decide +kernel
theorem dX0_become_61 : decode cX0_become 61 = .ok (.invokestatic 57, 3) := by decide +kernel
theorem dX0_become_64 : decode cX0_become 64 = .ok (.aload_n 1, 1) := by decide +kernel
theorem dX0_become_65 : decode cX0_become 65 = .ok (.getfield 36, 3) := by decide +kernel
theorem dX0_become_68 : decode cX0_become 68 = .ok (.iconst 0, 1) := by decide +kernel
theorem dX0_become_69 : decode cX0_become 69 = .ok (.aload_n 0, 1) := by decide +kernel
theorem dX0_become_70 : decode cX0_become 70 = .ok (.getfield 36, 3) := by decide +kernel
theorem dX0_become_73 : decode cX0_become 73 = .ok (.iconst 0, 1) := by decide +kernel
theorem dX0_become_74 : decode cX0_become 74 = .ok (.bipush 12, 2) := by decide +kernel
theorem dX0_become_76 : decode cX0_become 76 = .ok (.invokestatic 57, 3) := by decide +kernel
theorem dX0_become_79 : decode cX0_become 79 = .ok (.aload_n 0, 1) := by decide +kernel
theorem dX0_become_80 : decode cX0_become 80 = .ok (.aload_n 1, 1) := by decide +kernel
theorem dX0_become_81 : decode cX0_become 81 = .ok (.getfield 39, 3) := by decide +kernel
theorem dX0_become_84 : decode cX0_become 84 = .ok (.putfield 39, 3) := by decide +kernel
theorem dX0_become_87 : decode cX0_become 87 = .ok (.aload_n 1, 1) := by decide +kernel
theorem dX0_become_88 : decode cX0_become 88 = .ok (.getfield 42, 3) := by decide +kernel
theorem dX0_become_91 : decode cX0_become 91 = .ok (.iconst 0, 1) := by decide +kernel
theorem dX0_become_92 : decode cX0_become 92 = .ok (.aload_n 0, 1) := by decide +kernel
theorem dX0_become_93 : decode cX0_become 93 = .ok (.getfield 42, 3) := by decide +kernel
theorem dX0_become_96 : decode cX0_become 96 = .ok (.iconst 0, 1) := by decide +kernel
theorem dX0_become_97 : decode cX0_become 97 = .ok (.bipush 8, 2) := by decide +kernel
theorem dX0_become_99 : decode cX0_become 99 = .ok (.invokestatic 57, 3) := by decide +kernel
theorem dX0_become_102 : decode cX0_become 102 = .ok (.aload_n 1, 1) := by decide +kernel
theorem dX0_become_103 : decode cX0_become 103 = .ok (.getfield 45, 3) := by decide +kernel
theorem dX0_become_106 : decode cX0_become 106 = .ok (.iconst 0, 1) := by decide +kernel
theorem dX0_become_107 : decode cX0_become 107 = .ok (.aload_n 0, 1) := by decide +kernel
theorem dX0_become_108 : decode cX0_become 108 = .ok (.getfield 45, 3) := by decide +kernel
theorem dX0_become_111 : decode cX0_become 111 = .ok (.iconst 0, 1) := by decide +kernel
theorem dX0_become_112 : decode cX0_become 112 = .ok (.bipush 8, 2) := by decide +kernel
theorem dX0_become_114 : decode cX0_become 114 = .ok (.invokestatic 57, 3) := by decide +kernel
theorem dX0_become_117 : decode cX0_become 117 = .ok (.aload_n 1, 1) := by decide +kernel
theorem dX0_become_118 : decode cX0_become 118 = .ok (.getfield 48, 3) := by decide +kernel
theorem dX0_become_121 : decode cX0_become 121 = .ok (.iconst 0, 1) := by decide +kernel
theorem dX0_become_122 : decode cX0_become 122 = .ok (.aload_n 0, 1) := by decide +kernel
theorem dX0_become_123 : decode cX0_become 123 = .ok (.getfield 48, 3) := by decide +kernel
theorem dX0_become_126 : decode cX0_become 126 = .ok (.iconst 0, 1) := by decide +kernel
theorem dX0_become_127 : decode cX0_become 127 = .ok (.bipush 8, 2) := by decide +kernel
theorem dX0_become_129 : decode cX0_become 129 = .ok (.invokestatic 57, 3) := by decide +kernel
theorem dX0_become_132 : decode cX0_become 132 = .ok (.aload_n 1, 1) := by decide +kernel
theorem dX0_become_133 : decode cX0_become 133 = .ok (.getfield 51, 3) := by decide +kernel
theorem dX0_become_136 : decode cX0_become 136 = .ok (.iconst 0, 1) := by decide +kernel
theorem dX0_become_137 : decode cX0_become 137 = .ok (.aload_n 0, 1) := by decide +kernel
theorem dX0_become_138 : decode cX0_become 138 = .ok (.getfield 51, 3) := by decide +kernel
theorem dX0_become_141 : decode cX0_become 141 = .ok (.iconst 0, 1) := by decide +kernel
theorem dX0_become_142 : decode cX0_become 142 = .ok (.bipush 8, 2) := by decide +kernel
theorem dX0_become_144 : decode cX0_become 144 = .ok (.invokestatic 57, 3) := by decide +kernel
theorem dX0_become_147 : decode cX0_become 147 = .ok (.aload_n 0, 1) := by decide +kernel
theorem dX0_become_148 : decode cX0_become 148 = .ok (.aload_n 1, 1) := by decide +kernel
theorem dX0_become_149 : decode cX0_become 149 = .ok (.getfield 54, 3) := by decide +kernel
theorem dX0_become_152 : decode cX0_become 152 = .ok (.putfield 54, 3) := by decide +kernel
theorem dX0_become_155 : decode cX0_become 155 = .ok (.return_, 1) := by decide +kernel
theorem dX0_addSaying_0 : decode cX0_addSaying 0 = .ok (.aload_n 0, 1) := by decide +kernel
theorem dX0_addSaying_1 : decode cX0_addSaying 1 = .ok (.getfield 23, 3) := by decide +kernel
theorem dX0_addSaying_4 : decode cX0_addSaying 4 = .ok (.bipush 12, 2) := by decide +kernel
theorem dX0_addSaying_6 : decode cX0_addSaying 6 = .ok (.if_icmp .lt 5, 3) := by decide +kernel
theorem dX0_addSaying_9 : decode cX0_addSaying 9 = .ok (.iconst 0, 1) := by decide +kernel
theorem dX0_addSaying_10 : decode cX0_addSaying 10 = .ok (.ireturn, 1) := by decide +kernel
theorem dX0_addSaying_11 : decode cX0_addSaying 11 = .ok (.aload_n 0, 1) := by decide +kernel
theorem dX0_addSaying_12 : decode cX0_addSaying 12 = .ok (.getfield 30, 3) := by decide +kernel
theorem dX0_addSaying_15 : decode cX0_addSaying 15 = .ok (.aload_n 0, 1) := by decide +kernel
theorem dX0_addSaying_16 : decode cX0_addSaying 16 = .ok (.getfield 23, 3) := by decide +kernel
theorem dX0_addSaying_19 : decode cX0_addSaying 19 = .ok (.iload_n 1, 1) := by decide +kernel
theorem dX0_addSaying_20 : decode cX0_addSaying 20 = .ok (.iastore, 1) := by decide +kernel
theorem dX0_addSaying_21 : decode cX0_addSaying 21 = .ok (.aload_n 0, 1) := by decide +kernel
theorem dX0_addSaying_22 : decode cX0_addSaying 22 = .ok (.getfield 33, 3) := by decide +kernel
theorem dX0_addSaying_25 : decode cX0_addSaying 25 = .ok (.aload_n 0, 1) := by decide +kernel
theorem dX0_addSaying_26 : decode cX0_addSaying 26 = .ok (.getfield 23, 3) := by decide +kernel
theorem dX0_addSaying_29 : decode cX0_addSaying 29 = .ok (.iload_n 2, 1) := by decide +kernel
theorem dX0_addSaying_30 : decode cX0_addSaying 30 = .ok (.iastore, 1) := by decide +kernel
theorem dX0_addSaying_31 : decode cX0_addSaying 31 = .ok (.aload_n 0, 1) := by decide +kernel
theorem dX0_addSaying_32 : decode cX0_addSaying 32 = .ok (.getfield 36, 3) := by decide +kernel
theorem dX0_addSaying_35 : decode cX0_addSaying 35 = .ok (.aload_n 0, 1) := by decide +kernel
theorem dX0_addSaying_36 : decode cX0_addSaying 36 = .ok (.getfield 23, 3) := by decide +kernel
theorem dX0_addSaying_39 : decode cX0_addSaying 39 = .ok (.iload_n 3, 1) := by decide +kernel
theorem dX0_addSaying_40 : decode cX0_addSaying 40 = .ok (.iastore, 1) := by decide +kernel
theorem dX0_addSaying_41 : decode cX0_addSaying 41 = .ok (.aload_n 0, 1) := by decide +kernel
theorem dX0_addSaying_42 : decode cX0_addSaying 42 = .ok (.dup, 1) := by decide +kernel
theorem dX0_addSaying_43 : decode cX0_addSaying 43 = .ok (.getfield 23, 3) := by decide +kernel
theorem dX0_addSaying_46 : decode cX0_addSaying 46 = .ok (.iconst 1, 1) := by decide +kernel
theorem dX0_addSaying_47 : decode cX0_addSaying 47 = .ok (.iadd, 1) := by decide +kernel
theorem dX0_addSaying_48 : decode cX0_addSaying 48 = .ok (.putfield 23, 3) := by decide +kernel
theorem dX0_addSaying_51 : decode cX0_addSaying 51 = .ok (.iconst 1, 1) := by decide +kernel
theorem dX0_addSaying_52 : decode cX0_addSaying 52 = .ok (.ireturn, 1) := by decide +kernel
theorem dX0_addHearer_0 : decode cX0_addHearer 0 = .ok (.aload_n 0, 1) := by decide +kernel
theorem dX0_addHearer_1 : decode cX0_addHearer 1 = .ok (.getfield 39, 3) := by decide +kernel
theorem dX0_addHearer_4 : decode cX0_addHearer 4 = .ok (.bipush 8, 2) := by decide +kernel
theorem dX0_addHearer_6 : decode cX0_addHearer 6 = .ok (.if_icmp .lt 5, 3) := by decide +kernel
theorem dX0_addHearer_9 : decode cX0_addHearer 9 = .ok (.iconst 0, 1) := by decide +kernel
theorem dX0_addHearer_10 : decode cX0_addHearer 10 = .ok (.ireturn, 1) := by decide +kernel
theorem dX0_addHearer_11 : decode cX0_addHearer 11 = .ok (.aload_n 0, 1) := by decide +kernel
theorem dX0_addHearer_12 : decode cX0_addHearer 12 = .ok (.getfield 42, 3) := by decide +kernel
theorem dX0_addHearer_15 : decode cX0_addHearer 15 = .ok (.aload_n 0, 1) := by decide +kernel
theorem dX0_addHearer_16 : decode cX0_addHearer 16 = .ok (.getfield 39, 3) := by decide +kernel
theorem dX0_addHearer_19 : decode cX0_addHearer 19 = .ok (.iload_n 1, 1) := by decide +kernel
theorem dX0_addHearer_20 : decode cX0_addHearer 20 = .ok (.iastore, 1) := by decide +kernel
theorem dX0_addHearer_21 : decode cX0_addHearer 21 = .ok (.aload_n 0, 1) := by decide +kernel
theorem dX0_addHearer_22 : decode cX0_addHearer 22 = .ok (.getfield 45, 3) := by decide +kernel
theorem dX0_addHearer_25 : decode cX0_addHearer 25 = .ok (.aload_n 0, 1) := by decide +kernel
theorem dX0_addHearer_26 : decode cX0_addHearer 26 = .ok (.getfield 39, 3) := by decide +kernel
theorem dX0_addHearer_29 : decode cX0_addHearer 29 = .ok (.iload_n 2, 1) := by decide +kernel
theorem dX0_addHearer_30 : decode cX0_addHearer 30 = .ok (.iastore, 1) := by decide +kernel
theorem dX0_addHearer_31 : decode cX0_addHearer 31 = .ok (.aload_n 0, 1) := by decide +kernel
theorem dX0_addHearer_32 : decode cX0_addHearer 32 = .ok (.getfield 48, 3) := by decide +kernel
theorem dX0_addHearer_35 : decode cX0_addHearer 35 = .ok (.aload_n 0, 1) := by decide +kernel
theorem dX0_addHearer_36 : decode cX0_addHearer 36 = .ok (.getfield 39, 3) := by decide +kernel
theorem dX0_addHearer_39 : decode cX0_addHearer 39 = .ok (.iload_n 3, 1) := by decide +kernel
theorem dX0_addHearer_40 : decode cX0_addHearer 40 = .ok (.iastore, 1) := by decide +kernel
theorem dX0_addHearer_41 : decode cX0_addHearer 41 = .ok (.aload_n 0, 1) := by decide +kernel
theorem dX0_addHearer_42 : decode cX0_addHearer 42 = .ok (.getfield 51, 3) := by decide +kernel
theorem dX0_addHearer_45 : decode cX0_addHearer 45 = .ok (.aload_n 0, 1) := by decide +kernel
theorem dX0_addHearer_46 : decode cX0_addHearer 46 = .ok (.getfield 39, 3) := by decide +kernel
theorem dX0_addHearer_49 : decode cX0_addHearer 49 = .ok (.iconst 0, 1) := by decide +kernel
theorem dX0_addHearer_50 : decode cX0_addHearer 50 = .ok (.iastore, 1) := by decide +kernel
theorem dX0_addHearer_51 : decode cX0_addHearer 51 = .ok (.aload_n 0, 1) := by decide +kernel
theorem dX0_addHearer_52 : decode cX0_addHearer 52 = .ok (.dup, 1) := by decide +kernel
theorem dX0_addHearer_53 : decode cX0_addHearer 53 = .ok (.getfield 39, 3) := by decide +kernel
theorem dX0_addHearer_56 : decode cX0_addHearer 56 = .ok (.iconst 1, 1) := by decide +kernel
theorem dX0_addHearer_57 : decode cX0_addHearer 57 = .ok (.iadd, 1) := by decide +kernel
theorem dX0_addHearer_58 : decode cX0_addHearer 58 = .ok (.putfield 39, 3) := by decide +kernel
theorem dX0_addHearer_61 : decode cX0_addHearer 61 = .ok (.iconst 1, 1) := by decide +kernel
theorem dX0_addHearer_62 : decode cX0_addHearer 62 = .ok (.ireturn, 1) := by decide +kernel
theorem dX0_left_0 : decode cX0_left 0 = .ok (.aload_n 0, 1) := by decide +kernel
theorem dX0_left_1 : decode cX0_left 1 = .ok (.getfield 23, 3) := by decide +kernel
theorem dX0_left_4 : decode cX0_left 4 = .ok (.aload_n 0, 1) := by decide +kernel
theorem dX0_left_5 : decode cX0_left 5 = .ok (.getfield 27, 3) := by decide +kernel
theorem dX0_left_8 : decode cX0_left 8 = .ok (.isub, 1) := by decide +kernel
theorem dX0_left_9 : decode cX0_left 9 = .ok (.ireturn, 1) := by decide +kernel
theorem dX0_shivers_0 : decode cX0_shivers 0 = .ok (.aload_n 0, 1) := by decide +kernel
theorem dX0_shivers_1 : decode cX0_shivers 1 = .ok (.getfield 48, 3) := by decide +kernel
theorem dX0_shivers_4 : decode cX0_shivers 4 = .ok (.iload_n 1, 1) := by decide +kernel
theorem dX0_shivers_5 : decode cX0_shivers 5 = .ok (.iaload, 1) := by decide +kernel
theorem dX0_shivers_6 : decode cX0_shivers 6 = .ok (.aload_n 0, 1) := by decide +kernel
theorem dX0_shivers_7 : decode cX0_shivers 7 = .ok (.getfield 30, 3) := by decide +kernel
theorem dX0_shivers_10 : decode cX0_shivers 10 = .ok (.iload_n 2, 1) := by decide +kernel
theorem dX0_shivers_11 : decode cX0_shivers 11 = .ok (.iaload, 1) := by decide +kernel
theorem dX0_shivers_12 : decode cX0_shivers 12 = .ok (.invokestatic 63, 3) := by decide +kernel
theorem dX0_shivers_15 : decode cX0_shivers 15 = .ok (.istore_n 3, 1) := by decide +kernel
theorem dX0_shivers_16 : decode cX0_shivers 16 = .ok (.aload_n 0, 1) := by decide +kernel
theorem dX0_shivers_17 : decode cX0_shivers 17 = .ok (.getfield 36, 3) := by decide +kernel
theorem dX0_shivers_20 : decode cX0_shivers 20 = .ok (.iload_n 2, 1) := by decide +kernel
theorem dX0_shivers_21 : decode cX0_shivers 21 = .ok (.iaload, 1) := by decide +kernel
theorem dX0_shivers_22 : decode cX0_shivers 22 = .ok (.iconst 1, 1) := by decide +kernel
theorem dX0_shivers_23 : decode cX0_shivers 23 = .ok (.if_icmp .ne 7, 3) := by decide +kernel
theorem dX0_shivers_26 : decode cX0_shivers 26 = .ok (.iconst 1, 1) := by decide +kernel
theorem dX0_shivers_27 : decode cX0_shivers 27 = .ok (.goto 4, 3) := by decide +kernel
theorem dX0_shivers_30 : decode cX0_shivers 30 = .ok (.iconst 0, 1) := by decide +kernel
theorem dX0_shivers_31 : decode cX0_shivers 31 = .ok (.istore 4, 2) := by decide +kernel
theorem dX0_shivers_33 : decode cX0_shivers 33 = .ok (.aload_n 0, 1) := by decide +kernel
theorem dX0_shivers_34 : decode cX0_shivers 34 = .ok (.getfield 33, 3) := by decide +kernel
theorem dX0_shivers_37 : decode cX0_shivers 37 = .ok (.iload_n 2, 1) := by decide +kernel
theorem dX0_shivers_38 : decode cX0_shivers 38 = .ok (.iaload, 1) := by decide +kernel
theorem dX0_shivers_39 : decode cX0_shivers 39 = .ok (.iload_n 3, 1) := by decide +kernel
theorem dX0_shivers_40 : decode cX0_shivers 40 = .ok (.ifCond .eq 12, 3) := by decide +kernel
theorem dX0_shivers_43 : decode cX0_shivers 43 = .ok (.aload_n 0, 1) := by decide +kernel
theorem dX0_shivers_44 : decode cX0_shivers 44 = .ok (.getfield 45, 3) := by decide +kernel
theorem dX0_shivers_47 : decode cX0_shivers 47 = .ok (.iload_n 1, 1) := by decide +kernel
theorem dX0_shivers_48 : decode cX0_shivers 48 = .ok (.iaload, 1) := by decide +kernel
theorem dX0_shivers_49 : decode cX0_shivers 49 = .ok (.goto 4, 3) := by decide +kernel
theorem dX0_shivers_52 : decode cX0_shivers 52 = .ok (.iconst 0, 1) := by decide +kernel
theorem dX0_shivers_53 : decode cX0_shivers 53 = .ok (.iadd, 1) := by decide +kernel
theorem dX0_shivers_54 : decode cX0_shivers 54 = .ok (.istore 5, 2) := by decide +kernel
theorem dX0_shivers_56 : decode cX0_shivers 56 = .ok (.iload 5, 2) := by decide +kernel
theorem dX0_shivers_58 : decode cX0_shivers 58 = .ok (.iload 4, 2) := by decide +kernel
theorem dX0_shivers_60 : decode cX0_shivers 60 = .ok (.ifCond .eq 12, 3) := by decide +kernel
theorem dX0_shivers_63 : decode cX0_shivers 63 = .ok (.aload_n 0, 1) := by decide +kernel
theorem dX0_shivers_64 : decode cX0_shivers 64 = .ok (.getfield 18, 3) := by decide +kernel
theorem dX0_shivers_67 : decode cX0_shivers 67 = .ok (.iconst 1, 1) := by decide +kernel
theorem dX0_shivers_68 : decode cX0_shivers 68 = .ok (.iaload, 1) := by decide +kernel
theorem dX0_shivers_69 : decode cX0_shivers 69 = .ok (.goto 4, 3) := by decide +kernel
theorem dX0_shivers_72 : decode cX0_shivers 72 = .ok (.iconst 0, 1) := by decide +kernel
theorem dX0_shivers_73 : decode cX0_shivers 73 = .ok (.iadd, 1) := by decide +kernel
theorem dX0_shivers_74 : decode cX0_shivers 74 = .ok (.istore 6, 2) := by decide +kernel
theorem dX0_shivers_76 : decode cX0_shivers 76 = .ok (.aload_n 0, 1) := by decide +kernel
theorem dX0_shivers_77 : decode cX0_shivers 77 = .ok (.getfield 42, 3) := by decide +kernel
theorem dX0_shivers_80 : decode cX0_shivers 80 = .ok (.iload_n 1, 1) := by decide +kernel
theorem dX0_shivers_81 : decode cX0_shivers 81 = .ok (.iaload, 1) := by decide +kernel
theorem dX0_shivers_82 : decode cX0_shivers 82 = .ok (.tableswitch 77 1 5 #[34, 42, 37, 47, 64], 34) := by decide +kernel
theorem dX0_shivers_116 : decode cX0_shivers 116 = .ok (.iload 6, 2) := by decide +kernel
theorem dX0_shivers_118 : decode cX0_shivers 118 = .ok (.ireturn, 1) := by decide +kernel
theorem dX0_shivers_119 : decode cX0_shivers 119 = .ok (.iload 6, 2) := by decide +kernel
theorem dX0_shivers_121 : decode cX0_shivers 121 = .ok (.iconst 2, 1) := by decide +kernel
theorem dX0_shivers_122 : decode cX0_shivers 122 = .ok (.imul, 1) := by decide +kernel
theorem dX0_shivers_123 : decode cX0_shivers 123 = .ok (.ireturn, 1) := by decide +kernel
theorem dX0_shivers_124 : decode cX0_shivers 124 = .ok (.iload 5, 2) := by decide +kernel
theorem dX0_shivers_126 : decode cX0_shivers 126 = .ok (.iconst 2, 1) := by decide +kernel
theorem dX0_shivers_127 : decode cX0_shivers 127 = .ok (.isub, 1) := by decide +kernel
theorem dX0_shivers_128 : decode cX0_shivers 128 = .ok (.ireturn, 1) := by decide +kernel
theorem dX0_shivers_129 : decode cX0_shivers 129 = .ok (.iload 5, 2) := by decide +kernel
theorem dX0_shivers_131 : decode cX0_shivers 131 = .ok (.iconst 2, 1) := by decide +kernel
theorem dX0_shivers_132 : decode cX0_shivers 132 = .ok (.isub, 1) := by decide +kernel
theorem dX0_shivers_133 : decode cX0_shivers 133 = .ok (.iload 4, 2) := by decide +kernel
theorem dX0_shivers_135 : decode cX0_shivers 135 = .ok (.ifCond .eq 7, 3) := by decide +kernel
theorem dX0_shivers_138 : decode cX0_shivers 138 = .ok (.iconst 0, 1) := by decide +kernel
theorem dX0_shivers_139 : decode cX0_shivers 139 = .ok (.goto 5, 3) := by decide +kernel
theorem dX0_shivers_142 : decode cX0_shivers 142 = .ok (.bipush 9, 2) := by decide +kernel
theorem dX0_shivers_144 : decode cX0_shivers 144 = .ok (.iadd, 1) := by decide +kernel
theorem dX0_shivers_145 : decode cX0_shivers 145 = .ok (.ireturn, 1) := by decide +kernel
theorem dX0_shivers_146 : decode cX0_shivers 146 = .ok (.iload_n 2, 1) := by decide +kernel
theorem dX0_shivers_147 : decode cX0_shivers 147 = .ok (.iconst 2, 1) := by decide +kernel
theorem dX0_shivers_148 : decode cX0_shivers 148 = .ok (.irem, 1) := by decide +kernel
theorem dX0_shivers_149 : decode cX0_shivers 149 = .ok (.ifCond .ne 8, 3) := by decide +kernel
theorem dX0_shivers_152 : decode cX0_shivers 152 = .ok (.iload 5, 2) := by decide +kernel
theorem dX0_shivers_154 : decode cX0_shivers 154 = .ok (.goto 4, 3) := by decide +kernel
theorem dX0_shivers_157 : decode cX0_shivers 157 = .ok (.iconst 0, 1) := by decide +kernel
theorem dX0_shivers_158 : decode cX0_shivers 158 = .ok (.ireturn, 1) := by decide +kernel
theorem dX0_shivers_159 : decode cX0_shivers 159 = .ok (.iload 5, 2) := by decide +kernel
theorem dX0_shivers_161 : decode cX0_shivers 161 = .ok (.ireturn, 1) := by decide +kernel
theorem dX0_needs_0 : decode cX0_needs 0 = .ok (.bipush 6, 2) := by decide +kernel
theorem dX0_needs_2 : decode cX0_needs 2 = .ok (.aload_n 0, 1) := by decide +kernel
theorem dX0_needs_3 : decode cX0_needs 3 = .ok (.getfield 18, 3) := by decide +kernel
theorem dX0_needs_6 : decode cX0_needs 6 = .ok (.iconst 0, 1) := by decide +kernel
theorem dX0_needs_7 : decode cX0_needs 7 = .ok (.iaload, 1) := by decide +kernel
theorem dX0_needs_8 : decode cX0_needs 8 = .ok (.iadd, 1) := by decide +kernel
theorem dX0_needs_9 : decode cX0_needs 9 = .ok (.istore_n 2, 1) := by decide +kernel
theorem dX0_needs_10 : decode cX0_needs 10 = .ok (.aload_n 0, 1) := by decide +kernel
theorem dX0_needs_11 : decode cX0_needs 11 = .ok (.getfield 42, 3) := by decide +kernel
theorem dX0_needs_14 : decode cX0_needs 14 = .ok (.iload_n 1, 1) := by decide +kernel
theorem dX0_needs_15 : decode cX0_needs 15 = .ok (.iaload, 1) := by decide +kernel
theorem dX0_needs_16 : decode cX0_needs 16 = .ok (.tableswitch 73 1 5 #[36, 54, 40, 58, 69], 36) := by decide +kernel
theorem dX0_needs_52 : decode cX0_needs 52 = .ok (.iload_n 2, 1) := by decide +kernel
theorem dX0_needs_53 : decode cX0_needs 53 = .ok (.iconst 2, 1) := by decide +kernel
theorem dX0_needs_54 : decode cX0_needs 54 = .ok (.iadd, 1) := by decide +kernel
theorem dX0_needs_55 : decode cX0_needs 55 = .ok (.ireturn, 1) := by decide +kernel
theorem dX0_needs_56 : decode cX0_needs 56 = .ok (.iload_n 2, 1) := by decide +kernel
theorem dX0_needs_57 : decode cX0_needs 57 = .ok (.iconst 2, 1) := by decide +kernel
theorem dX0_needs_58 : decode cX0_needs 58 = .ok (.iadd, 1) := by decide +kernel
theorem dX0_needs_59 : decode cX0_needs 59 = .ok (.aload_n 0, 1) := by decide +kernel
theorem dX0_needs_60 : decode cX0_needs 60 = .ok (.getfield 45, 3) := by decide +kernel
theorem dX0_needs_63 : decode cX0_needs 63 = .ok (.iload_n 1, 1) := by decide +kernel
theorem dX0_needs_64 : decode cX0_needs 64 = .ok (.iaload, 1) := by decide +kernel
theorem dX0_needs_65 : decode cX0_needs 65 = .ok (.bipush 10, 2) := by decide +kernel
theorem dX0_needs_67 : decode cX0_needs 67 = .ok (.idiv, 1) := by decide +kernel
theorem dX0_needs_68 : decode cX0_needs 68 = .ok (.iadd, 1) := by decide +kernel
theorem dX0_needs_69 : decode cX0_needs 69 = .ok (.ireturn, 1) := by decide +kernel
theorem dX0_needs_70 : decode cX0_needs 70 = .ok (.iload_n 2, 1) := by decide +kernel
theorem dX0_needs_71 : decode cX0_needs 71 = .ok (.iconst 3, 1) := by decide +kernel
theorem dX0_needs_72 : decode cX0_needs 72 = .ok (.isub, 1) := by decide +kernel
theorem dX0_needs_73 : decode cX0_needs 73 = .ok (.ireturn, 1) := by decide +kernel
theorem dX0_needs_74 : decode cX0_needs 74 = .ok (.iload_n 2, 1) := by decide +kernel
theorem dX0_needs_75 : decode cX0_needs 75 = .ok (.iconst 3, 1) := by decide +kernel
theorem dX0_needs_76 : decode cX0_needs 76 = .ok (.isub, 1) := by decide +kernel
theorem dX0_needs_77 : decode cX0_needs 77 = .ok (.aload_n 0, 1) := by decide +kernel
theorem dX0_needs_78 : decode cX0_needs 78 = .ok (.getfield 18, 3) := by decide +kernel
theorem dX0_needs_81 : decode cX0_needs 81 = .ok (.iconst 0, 1) := by decide +kernel
theorem dX0_needs_82 : decode cX0_needs 82 = .ok (.iaload, 1) := by decide +kernel
theorem dX0_needs_83 : decode cX0_needs 83 = .ok (.isub, 1) := by decide +kernel
theorem dX0_needs_84 : decode cX0_needs 84 = .ok (.ireturn, 1) := by decide +kernel
theorem dX0_needs_85 : decode cX0_needs 85 = .ok (.iload_n 2, 1) := by decide +kernel
theorem dX0_needs_86 : decode cX0_needs 86 = .ok (.iconst 2, 1) := by decide +kernel
theorem dX0_needs_87 : decode cX0_needs 87 = .ok (.imul, 1) := by decide +kernel
theorem dX0_needs_88 : decode cX0_needs 88 = .ok (.ireturn, 1) := by decide +kernel
theorem dX0_needs_89 : decode cX0_needs 89 = .ok (.iload_n 2, 1) := by decide +kernel
theorem dX0_needs_90 : decode cX0_needs 90 = .ok (.ireturn, 1) := by decide +kernel
theorem dX0_wears_0 : decode cX0_wears 0 = .ok (.aload_n 0, 1) := by decide +kernel
theorem dX0_wears_1 : decode cX0_wears 1 = .ok (.getfield 18, 3) := by decide +kernel
theorem dX0_wears_4 : decode cX0_wears 4 = .ok (.iconst 2, 1) := by decide +kernel
theorem dX0_wears_5 : decode cX0_wears 5 = .ok (.iaload, 1) := by decide +kernel
theorem dX0_wears_6 : decode cX0_wears 6 = .ok (.istore_n 2, 1) := by decide +kernel
theorem dX0_wears_7 : decode cX0_wears 7 = .ok (.aload_n 0, 1) := by decide +kernel
theorem dX0_wears_8 : decode cX0_wears 8 = .ok (.getfield 42, 3) := by decide +kernel
theorem dX0_wears_11 : decode cX0_wears 11 = .ok (.iload_n 1, 1) := by decide +kernel
theorem dX0_wears_12 : decode cX0_wears 12 = .ok (.iaload, 1) := by decide +kernel
theorem dX0_wears_13 : decode cX0_wears 13 = .ok (.tableswitch 45 2 5 #[35, 31, 39, 43], 31) := by decide +kernel
theorem dX0_wears_44 : decode cX0_wears 44 = .ok (.iload_n 2, 1) := by decide +kernel
theorem dX0_wears_45 : decode cX0_wears 45 = .ok (.iconst 2, 1) := by decide +kernel
theorem dX0_wears_46 : decode cX0_wears 46 = .ok (.imul, 1) := by decide +kernel
theorem dX0_wears_47 : decode cX0_wears 47 = .ok (.ireturn, 1) := by decide +kernel
theorem dX0_wears_48 : decode cX0_wears 48 = .ok (.iload_n 2, 1) := by decide +kernel
theorem dX0_wears_49 : decode cX0_wears 49 = .ok (.iconst 2, 1) := by decide +kernel
theorem dX0_wears_50 : decode cX0_wears 50 = .ok (.isub, 1) := by decide +kernel
theorem dX0_wears_51 : decode cX0_wears 51 = .ok (.ireturn, 1) := by decide +kernel
theorem dX0_wears_52 : decode cX0_wears 52 = .ok (.iload_n 2, 1) := by decide +kernel
theorem dX0_wears_53 : decode cX0_wears 53 = .ok (.iconst 3, 1) := by decide +kernel
theorem dX0_wears_54 : decode cX0_wears 54 = .ok (.isub, 1) := by decide +kernel
theorem dX0_wears_55 : decode cX0_wears 55 = .ok (.ireturn, 1) := by decide +kernel
theorem dX0_wears_56 : decode cX0_wears 56 = .ok (.iconst 0, 1) := by decide +kernel
theorem dX0_wears_57 : decode cX0_wears 57 = .ok (.ireturn, 1) := by decide +kernel
theorem dX0_wears_58 : decode cX0_wears 58 = .ok (.iload_n 2, 1) := by decide +kernel
theorem dX0_wears_59 : decode cX0_wears 59 = .ok (.ireturn, 1) := by decide +kernel
theorem dX0_raisedNext_0 : decode cX0_raisedNext 0 = .ok (.iconst 0, 1) := by decide +kernel
theorem dX0_raisedNext_1 : decode cX0_raisedNext 1 = .ok (.istore_n 2, 1) := by decide +kernel
theorem dX0_raisedNext_2 : decode cX0_raisedNext 2 = .ok (.iconst 0, 1) := by decide +kernel
theorem dX0_raisedNext_3 : decode cX0_raisedNext 3 = .ok (.istore_n 3, 1) := by decide +kernel
theorem dX0_raisedNext_4 : decode cX0_raisedNext 4 = .ok (.iload_n 3, 1) := by decide +kernel
theorem dX0_raisedNext_5 : decode cX0_raisedNext 5 = .ok (.aload_n 0, 1) := by decide +kernel
theorem dX0_raisedNext_6 : decode cX0_raisedNext 6 = .ok (.getfield 39, 3) := by decide +kernel
theorem dX0_raisedNext_9 : decode cX0_raisedNext 9 = .ok (.if_icmp .ge 52, 3) := by decide +kernel
theorem dX0_raisedNext_12 : decode cX0_raisedNext 12 = .ok (.aload_n 0, 1) := by decide +kernel
theorem dX0_raisedNext_13 : decode cX0_raisedNext 13 = .ok (.getfield 27, 3) := by decide +kernel
theorem dX0_raisedNext_16 : decode cX0_raisedNext 16 = .ok (.aload_n 0, 1) := by decide +kernel
theorem dX0_raisedNext_17 : decode cX0_raisedNext 17 = .ok (.getfield 23, 3) := by decide +kernel
theorem dX0_raisedNext_20 : decode cX0_raisedNext 20 = .ok (.if_icmp .ge 41, 3) := by decide +kernel
theorem dX0_raisedNext_23 : decode cX0_raisedNext 23 = .ok (.iload_n 1, 1) := by decide +kernel
theorem dX0_raisedNext_24 : decode cX0_raisedNext 24 = .ok (.iload_n 3, 1) := by decide +kernel
theorem dX0_raisedNext_25 : decode cX0_raisedNext 25 = .ok (.invokestatic 63, 3) := by decide +kernel
theorem dX0_raisedNext_28 : decode cX0_raisedNext 28 = .ok (.ifCond .eq 27, 3) := by decide +kernel
theorem dX0_raisedNext_31 : decode cX0_raisedNext 31 = .ok (.aload_n 0, 1) := by decide +kernel
theorem dX0_raisedNext_32 : decode cX0_raisedNext 32 = .ok (.iload_n 3, 1) := by decide +kernel
theorem dX0_raisedNext_33 : decode cX0_raisedNext 33 = .ok (.aload_n 0, 1) := by decide +kernel
theorem dX0_raisedNext_34 : decode cX0_raisedNext 34 = .ok (.getfield 27, 3) := by decide +kernel
theorem dX0_raisedNext_37 : decode cX0_raisedNext 37 = .ok (.invokevirtual 67, 3) := by decide +kernel
theorem dX0_raisedNext_40 : decode cX0_raisedNext 40 = .ok (.aload_n 0, 1) := by decide +kernel
theorem dX0_raisedNext_41 : decode cX0_raisedNext 41 = .ok (.iload_n 3, 1) := by decide +kernel
theorem dX0_raisedNext_42 : decode cX0_raisedNext 42 = .ok (.invokevirtual 71, 3) := by decide +kernel
theorem dX0_raisedNext_45 : decode cX0_raisedNext 45 = .ok (.if_icmp .lt 10, 3) := by decide +kernel
theorem dX0_raisedNext_48 : decode cX0_raisedNext 48 = .ok (.iload_n 2, 1) := by decide +kernel
theorem dX0_raisedNext_49 : decode cX0_raisedNext 49 = .ok (.iload_n 3, 1) := by decide +kernel
theorem dX0_raisedNext_50 : decode cX0_raisedNext 50 = .ok (.invokestatic 75, 3) := by decide +kernel
theorem dX0_raisedNext_53 : decode cX0_raisedNext 53 = .ok (.ior, 1) := by decide +kernel
theorem dX0_raisedNext_54 : decode cX0_raisedNext 54 = .ok (.istore_n 2, 1) := by decide +kernel
theorem dX0_raisedNext_55 : decode cX0_raisedNext 55 = .ok (.iinc 3 1, 3) := by decide +kernel
theorem dX0_raisedNext_58 : decode cX0_raisedNext 58 = .ok (.goto (-54), 3) := by decide +kernel
theorem dX0_raisedNext_61 : decode cX0_raisedNext 61 = .ok (.iload_n 2, 1) := by decide +kernel
theorem dX0_raisedNext_62 : decode cX0_raisedNext 62 = .ok (.ireturn, 1) := by decide +kernel
theorem dX0_sayNext_0 : decode cX0_sayNext 0 = .ok (.iconst 0, 1) := by decide +kernel
theorem dX0_sayNext_1 : decode cX0_sayNext 1 = .ok (.istore_n 2, 1) := by decide +kernel
theorem dX0_sayNext_2 : decode cX0_sayNext 2 = .ok (.iload_n 2, 1) := by decide +kernel
theorem dX0_sayNext_3 : decode cX0_sayNext 3 = .ok (.aload_n 0, 1) := by decide +kernel
theorem dX0_sayNext_4 : decode cX0_sayNext 4 = .ok (.getfield 39, 3) := by decide +kernel
theorem dX0_sayNext_7 : decode cX0_sayNext 7 = .ok (.if_icmp .ge 54, 3) := by decide +kernel
theorem dX0_sayNext_10 : decode cX0_sayNext 10 = .ok (.iload_n 1, 1) := by decide +kernel
theorem dX0_sayNext_11 : decode cX0_sayNext 11 = .ok (.iload_n 2, 1) := by decide +kernel
theorem dX0_sayNext_12 : decode cX0_sayNext 12 = .ok (.invokestatic 63, 3) := by decide +kernel
theorem dX0_sayNext_15 : decode cX0_sayNext 15 = .ok (.ifCond .eq 40, 3) := by decide +kernel
theorem dX0_sayNext_18 : decode cX0_sayNext 18 = .ok (.aload_n 0, 1) := by decide +kernel
theorem dX0_sayNext_19 : decode cX0_sayNext 19 = .ok (.getfield 51, 3) := by decide +kernel
theorem dX0_sayNext_22 : decode cX0_sayNext 22 = .ok (.iload_n 2, 1) := by decide +kernel
theorem dX0_sayNext_23 : decode cX0_sayNext 23 = .ok (.dup2, 1) := by decide +kernel
theorem dX0_sayNext_24 : decode cX0_sayNext 24 = .ok (.iaload, 1) := by decide +kernel
theorem dX0_sayNext_25 : decode cX0_sayNext 25 = .ok (.aload_n 0, 1) := by decide +kernel
theorem dX0_sayNext_26 : decode cX0_sayNext 26 = .ok (.getfield 27, 3) := by decide +kernel
theorem dX0_sayNext_29 : decode cX0_sayNext 29 = .ok (.invokestatic 75, 3) := by decide +kernel
theorem dX0_sayNext_32 : decode cX0_sayNext 32 = .ok (.ior, 1) := by decide +kernel
theorem dX0_sayNext_33 : decode cX0_sayNext 33 = .ok (.iastore, 1) := by decide +kernel
theorem dX0_sayNext_34 : decode cX0_sayNext 34 = .ok (.aload_n 0, 1) := by decide +kernel
theorem dX0_sayNext_35 : decode cX0_sayNext 35 = .ok (.getfield 45, 3) := by decide +kernel
theorem dX0_sayNext_38 : decode cX0_sayNext 38 = .ok (.iload_n 2, 1) := by decide +kernel
theorem dX0_sayNext_39 : decode cX0_sayNext 39 = .ok (.aload_n 0, 1) := by decide +kernel
theorem dX0_sayNext_40 : decode cX0_sayNext 40 = .ok (.getfield 45, 3) := by decide +kernel
theorem dX0_sayNext_43 : decode cX0_sayNext 43 = .ok (.iload_n 2, 1) := by decide +kernel
theorem dX0_sayNext_44 : decode cX0_sayNext 44 = .ok (.iaload, 1) := by decide +kernel
theorem dX0_sayNext_45 : decode cX0_sayNext 45 = .ok (.aload_n 0, 1) := by decide +kernel
theorem dX0_sayNext_46 : decode cX0_sayNext 46 = .ok (.iload_n 2, 1) := by decide +kernel
theorem dX0_sayNext_47 : decode cX0_sayNext 47 = .ok (.invokevirtual 78, 3) := by decide +kernel
theorem dX0_sayNext_50 : decode cX0_sayNext 50 = .ok (.isub, 1) := by decide +kernel
theorem dX0_sayNext_51 : decode cX0_sayNext 51 = .ok (.invokestatic 81, 3) := by decide +kernel
theorem dX0_sayNext_54 : decode cX0_sayNext 54 = .ok (.iastore, 1) := by decide +kernel
theorem dX0_sayNext_55 : decode cX0_sayNext 55 = .ok (.iinc 2 1, 3) := by decide +kernel
theorem dX0_sayNext_58 : decode cX0_sayNext 58 = .ok (.goto (-56), 3) := by decide +kernel
theorem dX0_sayNext_61 : decode cX0_sayNext 61 = .ok (.aload_n 0, 1) := by decide +kernel
theorem dX0_sayNext_62 : decode cX0_sayNext 62 = .ok (.dup, 1) := by decide +kernel
theorem dX0_sayNext_63 : decode cX0_sayNext 63 = .ok (.getfield 27, 3) := by decide +kernel
theorem dX0_sayNext_66 : decode cX0_sayNext 66 = .ok (.iconst 1, 1) := by decide +kernel
theorem dX0_sayNext_67 : decode cX0_sayNext 67 = .ok (.iadd, 1) := by decide +kernel
theorem dX0_sayNext_68 : decode cX0_sayNext 68 = .ok (.putfield 27, 3) := by decide +kernel
theorem dX0_sayNext_71 : decode cX0_sayNext 71 = .ok (.return_, 1) := by decide +kernel
theorem dX0_sayMore_0 : decode cX0_sayMore 0 = .ok (.iload_n 1, 1) := by decide +kernel
theorem dX0_sayMore_1 : decode cX0_sayMore 1 = .ok (.aload_n 0, 1) := by decide +kernel
theorem dX0_sayMore_2 : decode cX0_sayMore 2 = .ok (.invokevirtual 84, 3) := by decide +kernel
theorem dX0_sayMore_5 : decode cX0_sayMore 5 = .ok (.invokestatic 88, 3) := by decide +kernel
theorem dX0_sayMore_8 : decode cX0_sayMore 8 = .ok (.istore_n 3, 1) := by decide +kernel
theorem dX0_sayMore_9 : decode cX0_sayMore 9 = .ok (.iconst 0, 1) := by decide +kernel
theorem dX0_sayMore_10 : decode cX0_sayMore 10 = .ok (.istore 4, 2) := by decide +kernel
theorem dX0_sayMore_12 : decode cX0_sayMore 12 = .ok (.iload 4, 2) := by decide +kernel
theorem dX0_sayMore_14 : decode cX0_sayMore 14 = .ok (.iload_n 3, 1) := by decide +kernel
theorem dX0_sayMore_15 : decode cX0_sayMore 15 = .ok (.if_icmp .ge 18, 3) := by decide +kernel
theorem dX0_sayMore_18 : decode cX0_sayMore 18 = .ok (.aload_n 0, 1) := by decide +kernel
theorem dX0_sayMore_19 : decode cX0_sayMore 19 = .ok (.aload_n 0, 1) := by decide +kernel
theorem dX0_sayMore_20 : decode cX0_sayMore 20 = .ok (.iload_n 2, 1) := by decide +kernel
theorem dX0_sayMore_21 : decode cX0_sayMore 21 = .ok (.invokevirtual 93, 3) := by decide +kernel
theorem dX0_sayMore_24 : decode cX0_sayMore 24 = .ok (.invokevirtual 96, 3) := by decide +kernel
theorem dX0_sayMore_27 : decode cX0_sayMore 27 = .ok (.iinc 4 1, 3) := by decide +kernel
theorem dX0_sayMore_30 : decode cX0_sayMore 30 = .ok (.goto (-18), 3) := by decide +kernel
theorem dX0_sayMore_33 : decode cX0_sayMore 33 = .ok (.iload_n 3, 1) := by decide +kernel
theorem dX0_sayMore_34 : decode cX0_sayMore 34 = .ok (.ireturn, 1) := by decide +kernel
theorem dX0_draws_0 : decode cX0_draws 0 = .ok (.aload_n 0, 1) := by decide +kernel
theorem dX0_draws_1 : decode cX0_draws 1 = .ok (.aload_n 0, 1) := by decide +kernel
theorem dX0_draws_2 : decode cX0_draws 2 = .ok (.getfield 54, 3) := by decide +kernel
theorem dX0_draws_5 : decode cX0_draws 5 = .ok (.ldc 100, 2) := by decide +kernel
theorem dX0_draws_7 : decode cX0_draws 7 = .ok (.imul, 1) := by decide +kernel
theorem dX0_draws_8 : decode cX0_draws 8 = .ok (.sipush 12345, 3) := by decide +kernel
theorem dX0_draws_11 : decode cX0_draws 11 = .ok (.iadd, 1) := by decide +kernel
theorem dX0_draws_12 : decode cX0_draws 12 = .ok (.putfield 54, 3) := by decide +kernel
theorem dX0_draws_15 : decode cX0_draws 15 = .ok (.aload_n 0, 1) := by decide +kernel
theorem dX0_draws_16 : decode cX0_draws 16 = .ok (.getfield 54, 3) := by decide +kernel
theorem dX0_draws_19 : decode cX0_draws 19 = .ok (.bipush 16, 2) := by decide +kernel
theorem dX0_draws_21 : decode cX0_draws 21 = .ok (.iushr, 1) := by decide +kernel
theorem dX0_draws_22 : decode cX0_draws 22 = .ok (.ireturn, 1) := by decide +kernel
theorem dX0_drawnSet_0 : decode cX0_drawnSet 0 = .ok (.aload_n 0, 1) := by decide +kernel
theorem dX0_drawnSet_1 : decode cX0_drawnSet 1 = .ok (.getfield 39, 3) := by decide +kernel
theorem dX0_drawnSet_4 : decode cX0_drawnSet 4 = .ok (.ifCond .ne 5, 3) := by decide +kernel
theorem dX0_drawnSet_7 : decode cX0_drawnSet 7 = .ok (.iconst 0, 1) := by decide +kernel
theorem dX0_drawnSet_8 : decode cX0_drawnSet 8 = .ok (.ireturn, 1) := by decide +kernel
theorem dX0_drawnSet_9 : decode cX0_drawnSet 9 = .ok (.aload_n 0, 1) := by decide +kernel
theorem dX0_drawnSet_10 : decode cX0_drawnSet 10 = .ok (.invokevirtual 101, 3) := by decide +kernel
theorem dX0_drawnSet_13 : decode cX0_drawnSet 13 = .ok (.aload_n 0, 1) := by decide +kernel
theorem dX0_drawnSet_14 : decode cX0_drawnSet 14 = .ok (.getfield 39, 3) := by decide +kernel
theorem dX0_drawnSet_17 : decode cX0_drawnSet 17 = .ok (.irem, 1) := by decide +kernel
theorem dX0_drawnSet_18 : decode cX0_drawnSet 18 = .ok (.istore_n 1, 1) := by decide +kernel
theorem dX0_drawnSet_19 : decode cX0_drawnSet 19 = .ok (.aload_n 0, 1) := by decide +kernel
theorem dX0_drawnSet_20 : decode cX0_drawnSet 20 = .ok (.invokevirtual 101, 3) := by decide +kernel
theorem dX0_drawnSet_23 : decode cX0_drawnSet 23 = .ok (.bipush 100, 2) := by decide +kernel
theorem dX0_drawnSet_25 : decode cX0_drawnSet 25 = .ok (.irem, 1) := by decide +kernel
theorem dX0_drawnSet_26 : decode cX0_drawnSet 26 = .ok (.aload_n 0, 1) := by decide +kernel
theorem dX0_drawnSet_27 : decode cX0_drawnSet 27 = .ok (.getfield 18, 3) := by decide +kernel
theorem dX0_drawnSet_30 : decode cX0_drawnSet 30 = .ok (.iconst 3, 1) := by decide +kernel
theorem dX0_drawnSet_31 : decode cX0_drawnSet 31 = .ok (.iaload, 1) := by decide +kernel
theorem dX0_drawnSet_32 : decode cX0_drawnSet 32 = .ok (.if_icmp .ge 10, 3) := by decide +kernel
theorem dX0_drawnSet_35 : decode cX0_drawnSet 35 = .ok (.iload_n 1, 1) := by decide +kernel
theorem dX0_drawnSet_36 : decode cX0_drawnSet 36 = .ok (.invokestatic 75, 3) := by decide +kernel
theorem dX0_drawnSet_39 : decode cX0_drawnSet 39 = .ok (.goto 4, 3) := by decide +kernel
theorem dX0_drawnSet_42 : decode cX0_drawnSet 42 = .ok (.iconst 0, 1) := by decide +kernel
theorem dX0_drawnSet_43 : decode cX0_drawnSet 43 = .ok (.ireturn, 1) := by decide +kernel
theorem dX0_raisedBy_0 : decode cX0_raisedBy 0 = .ok (.iconst 0, 1) := by decide +kernel
theorem dX0_raisedBy_1 : decode cX0_raisedBy 1 = .ok (.istore_n 2, 1) := by decide +kernel
theorem dX0_raisedBy_2 : decode cX0_raisedBy 2 = .ok (.iconst 0, 1) := by decide +kernel
theorem dX0_raisedBy_3 : decode cX0_raisedBy 3 = .ok (.istore_n 3, 1) := by decide +kernel
theorem dX0_raisedBy_4 : decode cX0_raisedBy 4 = .ok (.iload_n 3, 1) := by decide +kernel
theorem dX0_raisedBy_5 : decode cX0_raisedBy 5 = .ok (.aload_n 0, 1) := by decide +kernel
theorem dX0_raisedBy_6 : decode cX0_raisedBy 6 = .ok (.getfield 39, 3) := by decide +kernel
theorem dX0_raisedBy_9 : decode cX0_raisedBy 9 = .ok (.if_icmp .ge 29, 3) := by decide +kernel
theorem dX0_raisedBy_12 : decode cX0_raisedBy 12 = .ok (.aload_n 0, 1) := by decide +kernel
theorem dX0_raisedBy_13 : decode cX0_raisedBy 13 = .ok (.getfield 51, 3) := by decide +kernel
theorem dX0_raisedBy_16 : decode cX0_raisedBy 16 = .ok (.iload_n 3, 1) := by decide +kernel
theorem dX0_raisedBy_17 : decode cX0_raisedBy 17 = .ok (.iaload, 1) := by decide +kernel
theorem dX0_raisedBy_18 : decode cX0_raisedBy 18 = .ok (.iload_n 1, 1) := by decide +kernel
theorem dX0_raisedBy_19 : decode cX0_raisedBy 19 = .ok (.invokestatic 63, 3) := by decide +kernel
theorem dX0_raisedBy_22 : decode cX0_raisedBy 22 = .ok (.ifCond .eq 10, 3) := by decide +kernel
theorem dX0_raisedBy_25 : decode cX0_raisedBy 25 = .ok (.iload_n 2, 1) := by decide +kernel
theorem dX0_raisedBy_26 : decode cX0_raisedBy 26 = .ok (.iload_n 3, 1) := by decide +kernel
theorem dX0_raisedBy_27 : decode cX0_raisedBy 27 = .ok (.invokestatic 75, 3) := by decide +kernel
theorem dX0_raisedBy_30 : decode cX0_raisedBy 30 = .ok (.ior, 1) := by decide +kernel
theorem dX0_raisedBy_31 : decode cX0_raisedBy 31 = .ok (.istore_n 2, 1) := by decide +kernel
theorem dX0_raisedBy_32 : decode cX0_raisedBy 32 = .ok (.iinc 3 1, 3) := by decide +kernel
theorem dX0_raisedBy_35 : decode cX0_raisedBy 35 = .ok (.goto (-31), 3) := by decide +kernel
theorem dX0_raisedBy_38 : decode cX0_raisedBy 38 = .ok (.iload_n 2, 1) := by decide +kernel
theorem dX0_raisedBy_39 : decode cX0_raisedBy 39 = .ok (.ireturn, 1) := by decide +kernel
theorem dX0_rightOf_0 : decode cX0_rightOf 0 = .ok (.iconst 0, 1) := by decide +kernel
theorem dX0_rightOf_1 : decode cX0_rightOf 1 = .ok (.istore_n 2, 1) := by decide +kernel
theorem dX0_rightOf_2 : decode cX0_rightOf 2 = .ok (.iconst 0, 1) := by decide +kernel
theorem dX0_rightOf_3 : decode cX0_rightOf 3 = .ok (.istore_n 3, 1) := by decide +kernel
theorem dX0_rightOf_4 : decode cX0_rightOf 4 = .ok (.iload_n 3, 1) := by decide +kernel
theorem dX0_rightOf_5 : decode cX0_rightOf 5 = .ok (.aload_n 0, 1) := by decide +kernel
theorem dX0_rightOf_6 : decode cX0_rightOf 6 = .ok (.getfield 23, 3) := by decide +kernel
theorem dX0_rightOf_9 : decode cX0_rightOf 9 = .ok (.if_icmp .ge 40, 3) := by decide +kernel
theorem dX0_rightOf_12 : decode cX0_rightOf 12 = .ok (.aload_n 0, 1) := by decide +kernel
theorem dX0_rightOf_13 : decode cX0_rightOf 13 = .ok (.getfield 51, 3) := by decide +kernel
theorem dX0_rightOf_16 : decode cX0_rightOf 16 = .ok (.iload_n 1, 1) := by decide +kernel
theorem dX0_rightOf_17 : decode cX0_rightOf 17 = .ok (.iaload, 1) := by decide +kernel
theorem dX0_rightOf_18 : decode cX0_rightOf 18 = .ok (.iload_n 3, 1) := by decide +kernel
theorem dX0_rightOf_19 : decode cX0_rightOf 19 = .ok (.invokestatic 63, 3) := by decide +kernel
theorem dX0_rightOf_22 : decode cX0_rightOf 22 = .ok (.aload_n 0, 1) := by decide +kernel
theorem dX0_rightOf_23 : decode cX0_rightOf 23 = .ok (.getfield 36, 3) := by decide +kernel
theorem dX0_rightOf_26 : decode cX0_rightOf 26 = .ok (.iload_n 3, 1) := by decide +kernel
theorem dX0_rightOf_27 : decode cX0_rightOf 27 = .ok (.iaload, 1) := by decide +kernel
theorem dX0_rightOf_28 : decode cX0_rightOf 28 = .ok (.iconst 1, 1) := by decide +kernel
theorem dX0_rightOf_29 : decode cX0_rightOf 29 = .ok (.if_icmp .ne 7, 3) := by decide +kernel
theorem dX0_rightOf_32 : decode cX0_rightOf 32 = .ok (.iconst 1, 1) := by decide +kernel
theorem dX0_rightOf_33 : decode cX0_rightOf 33 = .ok (.goto 4, 3) := by decide +kernel
theorem dX0_rightOf_36 : decode cX0_rightOf 36 = .ok (.iconst 0, 1) := by decide +kernel
theorem dX0_rightOf_37 : decode cX0_rightOf 37 = .ok (.if_icmp .ne 6, 3) := by decide +kernel
theorem dX0_rightOf_40 : decode cX0_rightOf 40 = .ok (.iinc 2 1, 3) := by decide +kernel
theorem dX0_rightOf_43 : decode cX0_rightOf 43 = .ok (.iinc 3 1, 3) := by decide +kernel
theorem dX0_rightOf_46 : decode cX0_rightOf 46 = .ok (.goto (-42), 3) := by decide +kernel
theorem dX0_rightOf_49 : decode cX0_rightOf 49 = .ok (.iload_n 2, 1) := by decide +kernel
theorem dX0_rightOf_50 : decode cX0_rightOf 50 = .ok (.ireturn, 1) := by decide +kernel
theorem dX0_swornSet_0 : decode cX0_swornSet 0 = .ok (.iconst 0, 1) := by decide +kernel
theorem dX0_swornSet_1 : decode cX0_swornSet 1 = .ok (.istore_n 1, 1) := by decide +kernel
theorem dX0_swornSet_2 : decode cX0_swornSet 2 = .ok (.iconst 0, 1) := by decide +kernel
theorem dX0_swornSet_3 : decode cX0_swornSet 3 = .ok (.istore_n 2, 1) := by decide +kernel
theorem dX0_swornSet_4 : decode cX0_swornSet 4 = .ok (.iload_n 2, 1) := by decide +kernel
theorem dX0_swornSet_5 : decode cX0_swornSet 5 = .ok (.aload_n 0, 1) := by decide +kernel
theorem dX0_swornSet_6 : decode cX0_swornSet 6 = .ok (.getfield 23, 3) := by decide +kernel
theorem dX0_swornSet_9 : decode cX0_swornSet 9 = .ok (.if_icmp .ge 26, 3) := by decide +kernel
theorem dX0_swornSet_12 : decode cX0_swornSet 12 = .ok (.aload_n 0, 1) := by decide +kernel
theorem dX0_swornSet_13 : decode cX0_swornSet 13 = .ok (.getfield 36, 3) := by decide +kernel
theorem dX0_swornSet_16 : decode cX0_swornSet 16 = .ok (.iload_n 2, 1) := by decide +kernel
theorem dX0_swornSet_17 : decode cX0_swornSet 17 = .ok (.iaload, 1) := by decide +kernel
theorem dX0_swornSet_18 : decode cX0_swornSet 18 = .ok (.iconst 1, 1) := by decide +kernel
theorem dX0_swornSet_19 : decode cX0_swornSet 19 = .ok (.if_icmp .ne 10, 3) := by decide +kernel
theorem dX0_swornSet_22 : decode cX0_swornSet 22 = .ok (.iload_n 1, 1) := by decide +kernel
theorem dX0_swornSet_23 : decode cX0_swornSet 23 = .ok (.iload_n 2, 1) := by decide +kernel
theorem dX0_swornSet_24 : decode cX0_swornSet 24 = .ok (.invokestatic 75, 3) := by decide +kernel
theorem dX0_swornSet_27 : decode cX0_swornSet 27 = .ok (.ior, 1) := by decide +kernel
theorem dX0_swornSet_28 : decode cX0_swornSet 28 = .ok (.istore_n 1, 1) := by decide +kernel
theorem dX0_swornSet_29 : decode cX0_swornSet 29 = .ok (.iinc 2 1, 3) := by decide +kernel
theorem dX0_swornSet_32 : decode cX0_swornSet 32 = .ok (.goto (-28), 3) := by decide +kernel
theorem dX0_swornSet_35 : decode cX0_swornSet 35 = .ok (.iload_n 1, 1) := by decide +kernel
theorem dX0_swornSet_36 : decode cX0_swornSet 36 = .ok (.ireturn, 1) := by decide +kernel
theorem dX0_tenderOfAll_0 : decode cX0_tenderOfAll 0 = .ok (.iconst 0, 1) := by decide +kernel
theorem dX0_tenderOfAll_1 : decode cX0_tenderOfAll 1 = .ok (.istore_n 1, 1) := by decide +kernel
theorem dX0_tenderOfAll_2 : decode cX0_tenderOfAll 2 = .ok (.iconst 0, 1) := by decide +kernel
theorem dX0_tenderOfAll_3 : decode cX0_tenderOfAll 3 = .ok (.istore_n 2, 1) := by decide +kernel
theorem dX0_tenderOfAll_4 : decode cX0_tenderOfAll 4 = .ok (.iload_n 2, 1) := by decide +kernel
theorem dX0_tenderOfAll_5 : decode cX0_tenderOfAll 5 = .ok (.aload_n 0, 1) := by decide +kernel
theorem dX0_tenderOfAll_6 : decode cX0_tenderOfAll 6 = .ok (.getfield 39, 3) := by decide +kernel
theorem dX0_tenderOfAll_9 : decode cX0_tenderOfAll 9 = .ok (.if_icmp .ge 18, 3) := by decide +kernel
theorem dX0_tenderOfAll_12 : decode cX0_tenderOfAll 12 = .ok (.iload_n 1, 1) := by decide +kernel
theorem dX0_tenderOfAll_13 : decode cX0_tenderOfAll 13 = .ok (.aload_n 0, 1) := by decide +kernel
theorem dX0_tenderOfAll_14 : decode cX0_tenderOfAll 14 = .ok (.getfield 45, 3) := by decide +kernel
theorem dX0_tenderOfAll_17 : decode cX0_tenderOfAll 17 = .ok (.iload_n 2, 1) := by decide +kernel
theorem dX0_tenderOfAll_18 : decode cX0_tenderOfAll 18 = .ok (.iaload, 1) := by decide +kernel
theorem dX0_tenderOfAll_19 : decode cX0_tenderOfAll 19 = .ok (.iadd, 1) := by decide +kernel
theorem dX0_tenderOfAll_20 : decode cX0_tenderOfAll 20 = .ok (.istore_n 1, 1) := by decide +kernel
theorem dX0_tenderOfAll_21 : decode cX0_tenderOfAll 21 = .ok (.iinc 2 1, 3) := by decide +kernel
theorem dX0_tenderOfAll_24 : decode cX0_tenderOfAll 24 = .ok (.goto (-20), 3) := by decide +kernel
theorem dX0_tenderOfAll_27 : decode cX0_tenderOfAll 27 = .ok (.iload_n 1, 1) := by decide +kernel
theorem dX0_tenderOfAll_28 : decode cX0_tenderOfAll 28 = .ok (.ireturn, 1) := by decide +kernel
theorem dX0_marked_0 : decode cX0_marked 0 = .ok (.iconst 0, 1) := by decide +kernel
theorem dX0_marked_1 : decode cX0_marked 1 = .ok (.istore_n 1, 1) := by decide +kernel
theorem dX0_marked_2 : decode cX0_marked 2 = .ok (.iconst 0, 1) := by decide +kernel
theorem dX0_marked_3 : decode cX0_marked 3 = .ok (.istore_n 2, 1) := by decide +kernel
theorem dX0_marked_4 : decode cX0_marked 4 = .ok (.iload_n 2, 1) := by decide +kernel
theorem dX0_marked_5 : decode cX0_marked 5 = .ok (.aload_n 0, 1) := by decide +kernel
theorem dX0_marked_6 : decode cX0_marked 6 = .ok (.getfield 39, 3) := by decide +kernel
theorem dX0_marked_9 : decode cX0_marked 9 = .ok (.if_icmp .ge 25, 3) := by decide +kernel
theorem dX0_marked_12 : decode cX0_marked 12 = .ok (.aload_n 0, 1) := by decide +kernel
theorem dX0_marked_13 : decode cX0_marked 13 = .ok (.getfield 51, 3) := by decide +kernel
theorem dX0_marked_16 : decode cX0_marked 16 = .ok (.iload_n 2, 1) := by decide +kernel
theorem dX0_marked_17 : decode cX0_marked 17 = .ok (.iaload, 1) := by decide +kernel
theorem dX0_marked_18 : decode cX0_marked 18 = .ok (.ifCond .eq 10, 3) := by decide +kernel
theorem dX0_marked_21 : decode cX0_marked 21 = .ok (.iload_n 1, 1) := by decide +kernel
theorem dX0_marked_22 : decode cX0_marked 22 = .ok (.iload_n 2, 1) := by decide +kernel
theorem dX0_marked_23 : decode cX0_marked 23 = .ok (.invokestatic 75, 3) := by decide +kernel
theorem dX0_marked_26 : decode cX0_marked 26 = .ok (.ior, 1) := by decide +kernel
theorem dX0_marked_27 : decode cX0_marked 27 = .ok (.istore_n 1, 1) := by decide +kernel
theorem dX0_marked_28 : decode cX0_marked 28 = .ok (.iinc 2 1, 3) := by decide +kernel
theorem dX0_marked_31 : decode cX0_marked 31 = .ok (.goto (-27), 3) := by decide +kernel
theorem dX0_marked_34 : decode cX0_marked 34 = .ok (.iload_n 1, 1) := by decide +kernel
theorem dX0_marked_35 : decode cX0_marked 35 = .ok (.ireturn, 1) := by decide +kernel
theorem dX0_sameArms_0 : decode cX0_sameArms 0 = .ok (.iconst 0, 1) := by decide +kernel
theorem dX0_sameArms_1 : decode cX0_sameArms 1 = .ok (.istore_n 2, 1) := by decide +kernel
theorem dX0_sameArms_2 : decode cX0_sameArms 2 = .ok (.iconst 0, 1) := by decide +kernel
theorem dX0_sameArms_3 : decode cX0_sameArms 3 = .ok (.istore_n 3, 1) := by decide +kernel
theorem dX0_sameArms_4 : decode cX0_sameArms 4 = .ok (.iload_n 3, 1) := by decide +kernel
theorem dX0_sameArms_5 : decode cX0_sameArms 5 = .ok (.aload_n 0, 1) := by decide +kernel
theorem dX0_sameArms_6 : decode cX0_sameArms 6 = .ok (.getfield 39, 3) := by decide +kernel
theorem dX0_sameArms_9 : decode cX0_sameArms 9 = .ok (.if_icmp .ge 22, 3) := by decide +kernel
theorem dX0_sameArms_12 : decode cX0_sameArms 12 = .ok (.aload_n 0, 1) := by decide +kernel
theorem dX0_sameArms_13 : decode cX0_sameArms 13 = .ok (.getfield 51, 3) := by decide +kernel
theorem dX0_sameArms_16 : decode cX0_sameArms 16 = .ok (.iload_n 3, 1) := by decide +kernel
theorem dX0_sameArms_17 : decode cX0_sameArms 17 = .ok (.iaload, 1) := by decide +kernel
theorem dX0_sameArms_18 : decode cX0_sameArms 18 = .ok (.iload_n 1, 1) := by decide +kernel
theorem dX0_sameArms_19 : decode cX0_sameArms 19 = .ok (.if_icmp .ne 6, 3) := by decide +kernel
theorem dX0_sameArms_22 : decode cX0_sameArms 22 = .ok (.iinc 2 1, 3) := by decide +kernel
theorem dX0_sameArms_25 : decode cX0_sameArms 25 = .ok (.iinc 3 1, 3) := by decide +kernel
theorem dX0_sameArms_28 : decode cX0_sameArms 28 = .ok (.goto (-24), 3) := by decide +kernel
theorem dX0_sameArms_31 : decode cX0_sameArms 31 = .ok (.iload_n 2, 1) := by decide +kernel
theorem dX0_sameArms_32 : decode cX0_sameArms 32 = .ok (.ireturn, 1) := by decide +kernel
theorem dX0_armsTogether_0 : decode cX0_armsTogether 0 = .ok (.iconst 0, 1) := by decide +kernel
theorem dX0_armsTogether_1 : decode cX0_armsTogether 1 = .ok (.istore_n 2, 1) := by decide +kernel
theorem dX0_armsTogether_2 : decode cX0_armsTogether 2 = .ok (.iconst 0, 1) := by decide +kernel
theorem dX0_armsTogether_3 : decode cX0_armsTogether 3 = .ok (.istore_n 3, 1) := by decide +kernel
theorem dX0_armsTogether_4 : decode cX0_armsTogether 4 = .ok (.iload_n 3, 1) := by decide +kernel
theorem dX0_armsTogether_5 : decode cX0_armsTogether 5 = .ok (.aload_n 0, 1) := by decide +kernel
theorem dX0_armsTogether_6 : decode cX0_armsTogether 6 = .ok (.getfield 39, 3) := by decide +kernel
theorem dX0_armsTogether_9 : decode cX0_armsTogether 9 = .ok (.if_icmp .ge 26, 3) := by decide +kernel
theorem dX0_armsTogether_12 : decode cX0_armsTogether 12 = .ok (.iload_n 1, 1) := by decide +kernel
theorem dX0_armsTogether_13 : decode cX0_armsTogether 13 = .ok (.iload_n 3, 1) := by decide +kernel
theorem dX0_armsTogether_14 : decode cX0_armsTogether 14 = .ok (.invokestatic 63, 3) := by decide +kernel
theorem dX0_armsTogether_17 : decode cX0_armsTogether 17 = .ok (.ifCond .eq 12, 3) := by decide +kernel
theorem dX0_armsTogether_20 : decode cX0_armsTogether 20 = .ok (.iload_n 2, 1) := by decide +kernel
theorem dX0_armsTogether_21 : decode cX0_armsTogether 21 = .ok (.aload_n 0, 1) := by decide +kernel
theorem dX0_armsTogether_22 : decode cX0_armsTogether 22 = .ok (.getfield 51, 3) := by decide +kernel
theorem dX0_armsTogether_25 : decode cX0_armsTogether 25 = .ok (.iload_n 3, 1) := by decide +kernel
theorem dX0_armsTogether_26 : decode cX0_armsTogether 26 = .ok (.iaload, 1) := by decide +kernel
theorem dX0_armsTogether_27 : decode cX0_armsTogether 27 = .ok (.ior, 1) := by decide +kernel
theorem dX0_armsTogether_28 : decode cX0_armsTogether 28 = .ok (.istore_n 2, 1) := by decide +kernel
theorem dX0_armsTogether_29 : decode cX0_armsTogether 29 = .ok (.iinc 3 1, 3) := by decide +kernel
theorem dX0_armsTogether_32 : decode cX0_armsTogether 32 = .ok (.goto (-28), 3) := by decide +kernel
theorem dX0_armsTogether_35 : decode cX0_armsTogether 35 = .ok (.iload_n 2, 1) := by decide +kernel
theorem dX0_armsTogether_36 : decode cX0_armsTogether 36 = .ok (.ireturn, 1) := by decide +kernel
theorem dX0_changePlaces_0 : decode cX0_changePlaces 0 = .ok (.aload_n 0, 1) := by decide +kernel
theorem dX0_changePlaces_1 : decode cX0_changePlaces 1 = .ok (.getfield 30, 3) := by decide +kernel
theorem dX0_changePlaces_4 : decode cX0_changePlaces 4 = .ok (.iload_n 1, 1) := by decide +kernel
theorem dX0_changePlaces_5 : decode cX0_changePlaces 5 = .ok (.iload_n 2, 1) := by decide +kernel
theorem dX0_changePlaces_6 : decode cX0_changePlaces 6 = .ok (.invokestatic 104, 3) := by decide +kernel
theorem dX0_changePlaces_9 : decode cX0_changePlaces 9 = .ok (.aload_n 0, 1) := by decide +kernel
theorem dX0_changePlaces_10 : decode cX0_changePlaces 10 = .ok (.getfield 33, 3) := by decide +kernel
theorem dX0_changePlaces_13 : decode cX0_changePlaces 13 = .ok (.iload_n 1, 1) := by decide +kernel
theorem dX0_changePlaces_14 : decode cX0_changePlaces 14 = .ok (.iload_n 2, 1) := by decide +kernel
theorem dX0_changePlaces_15 : decode cX0_changePlaces 15 = .ok (.invokestatic 104, 3) := by decide +kernel
theorem dX0_changePlaces_18 : decode cX0_changePlaces 18 = .ok (.aload_n 0, 1) := by decide +kernel
theorem dX0_changePlaces_19 : decode cX0_changePlaces 19 = .ok (.getfield 36, 3) := by decide +kernel
theorem dX0_changePlaces_22 : decode cX0_changePlaces 22 = .ok (.iload_n 1, 1) := by decide +kernel
theorem dX0_changePlaces_23 : decode cX0_changePlaces 23 = .ok (.iload_n 2, 1) := by decide +kernel
theorem dX0_changePlaces_24 : decode cX0_changePlaces 24 = .ok (.invokestatic 104, 3) := by decide +kernel
theorem dX0_changePlaces_27 : decode cX0_changePlaces 27 = .ok (.return_, 1) := by decide +kernel
theorem dX0_swaps_0 : decode cX0_swaps 0 = .ok (.aload_n 0, 1) := by decide +kernel
theorem dX0_swaps_1 : decode cX0_swaps 1 = .ok (.iload_n 1, 1) := by decide +kernel
theorem dX0_swaps_2 : decode cX0_swaps 2 = .ok (.iaload, 1) := by decide +kernel
theorem dX0_swaps_3 : decode cX0_swaps 3 = .ok (.istore_n 3, 1) := by decide +kernel
theorem dX0_swaps_4 : decode cX0_swaps 4 = .ok (.aload_n 0, 1) := by decide +kernel
theorem dX0_swaps_5 : decode cX0_swaps 5 = .ok (.iload_n 1, 1) := by decide +kernel
theorem dX0_swaps_6 : decode cX0_swaps 6 = .ok (.aload_n 0, 1) := by decide +kernel
theorem dX0_swaps_7 : decode cX0_swaps 7 = .ok (.iload_n 2, 1) := by decide +kernel
theorem dX0_swaps_8 : decode cX0_swaps 8 = .ok (.iaload, 1) := by decide +kernel
theorem dX0_swaps_9 : decode cX0_swaps 9 = .ok (.iastore, 1) := by decide +kernel
theorem dX0_swaps_10 : decode cX0_swaps 10 = .ok (.aload_n 0, 1) := by decide +kernel
theorem dX0_swaps_11 : decode cX0_swaps 11 = .ok (.iload_n 2, 1) := by decide +kernel
theorem dX0_swaps_12 : decode cX0_swaps 12 = .ok (.iload_n 3, 1) := by decide +kernel
theorem dX0_swaps_13 : decode cX0_swaps 13 = .ok (.iastore, 1) := by decide +kernel
theorem dX0_swaps_14 : decode cX0_swaps 14 = .ok (.return_, 1) := by decide +kernel
theorem dX1_init_0 : decode cX1_init 0 = .ok (.aload_n 0, 1) := by decide +kernel
theorem dX1_init_1 : decode cX1_init 1 = .ok (.invokespecial 3, 3) := by decide +kernel
theorem dX1_init_4 : decode cX1_init 4 = .ok (.aload_n 0, 1) := by decide +kernel
theorem dX1_init_5 : decode cX1_init 5 = .ok (.bipush 30, 2) := by decide +kernel
theorem dX1_init_7 : decode cX1_init 7 = .ok (.newarray .int, 2) := by decide +kernel
theorem dX1_init_9 : decode cX1_init 9 = .ok (.putfield 9, 3) := by decide +kernel
theorem dX1_init_12 : decode cX1_init 12 = .ok (.aload_n 0, 1) := by decide +kernel
theorem dX1_init_13 : decode cX1_init 13 = .ok (.iconst 0, 1) := by decide +kernel
theorem dX1_init_14 : decode cX1_init 14 = .ok (.putfield 15, 3) := by decide +kernel
theorem dX1_init_17 : decode cX1_init 17 = .ok (.aload_n 0, 1) := by decide +kernel
theorem dX1_init_18 : decode cX1_init 18 = .ok (.iconst 0, 1) := by decide +kernel
theorem dX1_init_19 : decode cX1_init 19 = .ok (.putfield 19, 3) := by decide +kernel
theorem dX1_init_22 : decode cX1_init 22 = .ok (.aload_n 0, 1) := by decide +kernel
theorem dX1_init_23 : decode cX1_init 23 = .ok (.iconst 0, 1) := by decide +kernel
theorem dX1_init_24 : decode cX1_init 24 = .ok (.putfield 23, 3) := by decide +kernel
theorem dX1_init_27 : decode cX1_init 27 = .ok (.aload_n 0, 1) := by decide +kernel
theorem dX1_init_28 : decode cX1_init 28 = .ok (.iconst 0, 1) := by decide +kernel
theorem dX1_init_29 : decode cX1_init 29 = .ok (.putfield 26, 3) := by decide +kernel
theorem dX1_init_32 : decode cX1_init 32 = .ok (.aload_n 0, 1) := by decide +kernel
theorem dX1_init_33 : decode cX1_init 33 = .ok (.iconst 0, 1) := by decide +kernel
theorem dX1_init_34 : decode cX1_init 34 = .ok (.putfield 29, 3) := by decide +kernel
theorem dX1_init_37 : decode cX1_init 37 = .ok (.return_, 1) := by decide +kernel
theorem dX1_begin_0 : decode cX1_begin 0 = .ok (.aload_n 0, 1) := by decide +kernel
theorem dX1_begin_1 : decode cX1_begin 1 = .ok (.iload_n 1, 1) := by decide +kernel
theorem dX1_begin_2 : decode cX1_begin 2 = .ok (.putfield 23, 3) := by decide +kernel
theorem dX1_begin_5 : decode cX1_begin 5 = .ok (.aload_n 0, 1) := by decide +kernel
theorem dX1_begin_6 : decode cX1_begin 6 = .ok (.iload_n 2, 1) := by decide +kernel
theorem dX1_begin_7 : decode cX1_begin 7 = .ok (.putfield 26, 3) := by decide +kernel
theorem dX1_begin_10 : decode cX1_begin 10 = .ok (.aload_n 0, 1) := by decide +kernel
theorem dX1_begin_11 : decode cX1_begin 11 = .ok (.iload_n 3, 1) := by decide +kernel
theorem dX1_begin_12 : decode cX1_begin 12 = .ok (.putfield 29, 3) := by decide +kernel
theorem dX1_begin_15 : decode cX1_begin 15 = .ok (.aload_n 0, 1) := by decide +kernel
theorem dX1_begin_16 : decode cX1_begin 16 = .ok (.iconst 0, 1) := by decide +kernel
theorem dX1_begin_17 : decode cX1_begin 17 = .ok (.putfield 15, 3) := by decide +kernel
theorem dX1_begin_20 : decode cX1_begin 20 = .ok (.aload_n 0, 1) := by decide +kernel
theorem dX1_begin_21 : decode cX1_begin 21 = .ok (.iconst 0, 1) := by decide +kernel
theorem dX1_begin_22 : decode cX1_begin 22 = .ok (.putfield 19, 3) := by decide +kernel
theorem dX1_begin_25 : decode cX1_begin 25 = .ok (.return_, 1) := by decide +kernel
theorem dX1_bodyOf_0 : decode cX1_bodyOf 0 = .ok (.iload_n 0, 1) := by decide +kernel
theorem dX1_bodyOf_1 : decode cX1_bodyOf 1 = .ok (.invokestatic 32, 3) := by decide +kernel
theorem dX1_bodyOf_4 : decode cX1_bodyOf 4 = .ok (.ifCond .ne 6, 3) := by decide +kernel
theorem dX1_bodyOf_7 : decode cX1_bodyOf 7 = .ok (.bipush (-3), 2) := by decide +kernel
theorem dX1_bodyOf_9 : decode cX1_bodyOf 9 = .ok (.ireturn, 1) := by decide +kernel
theorem dX1_bodyOf_10 : decode cX1_bodyOf 10 = .ok (.iload_n 1, 1) := by decide +kernel
theorem dX1_bodyOf_11 : decode cX1_bodyOf 11 = .ok (.tableswitch 43 0 2 #[25, 31, 37], 25) := by decide +kernel
theorem dX1_bodyOf_36 : decode cX1_bodyOf 36 = .ok (.getstatic 36, 3) := by decide +kernel
theorem dX1_bodyOf_39 : decode cX1_bodyOf 39 = .ok (.iload_n 0, 1) := by decide +kernel
theorem dX1_bodyOf_40 : decode cX1_bodyOf 40 = .ok (.iaload, 1) := by decide +kernel
theorem dX1_bodyOf_41 : decode cX1_bodyOf 41 = .ok (.ireturn, 1) := by decide +kernel
theorem dX1_bodyOf_42 : decode cX1_bodyOf 42 = .ok (.getstatic 39, 3) := by decide +kernel
theorem dX1_bodyOf_45 : decode cX1_bodyOf 45 = .ok (.iload_n 0, 1) := by decide +kernel
theorem dX1_bodyOf_46 : decode cX1_bodyOf 46 = .ok (.iaload, 1) := by decide +kernel
theorem dX1_bodyOf_47 : decode cX1_bodyOf 47 = .ok (.ireturn, 1) := by decide +kernel
theorem dX1_bodyOf_48 : decode cX1_bodyOf 48 = .ok (.getstatic 42, 3) := by decide +kernel
theorem dX1_bodyOf_51 : decode cX1_bodyOf 51 = .ok (.iload_n 0, 1) := by decide +kernel
theorem dX1_bodyOf_52 : decode cX1_bodyOf 52 = .ok (.iaload, 1) := by decide +kernel
theorem dX1_bodyOf_53 : decode cX1_bodyOf 53 = .ok (.ireturn, 1) := by decide +kernel
theorem dX1_bodyOf_54 : decode cX1_bodyOf 54 = .ok (.getstatic 45, 3) := by decide +kernel
theorem dX1_bodyOf_57 : decode cX1_bodyOf 57 = .ok (.iload_n 0, 1) := by decide +kernel
theorem dX1_bodyOf_58 : decode cX1_bodyOf 58 = .ok (.iaload, 1) := by decide +kernel
theorem dX1_bodyOf_59 : decode cX1_bodyOf 59 = .ok (.ireturn, 1) := by decide +kernel
theorem dX1_runs_0 : decode cX1_runs 0 = .ok (.aload_n 0, 1) := by decide +kernel
theorem dX1_runs_1 : decode cX1_runs 1 = .ok (.getfield 19, 3) := by decide +kernel
theorem dX1_runs_4 : decode cX1_runs 4 = .ok (.ifCond .ne 9, 3) := by decide +kernel
theorem dX1_runs_7 : decode cX1_runs 7 = .ok (.iload_n 3, 1) := by decide +kernel
theorem dX1_runs_8 : decode cX1_runs 8 = .ok (.bipush 40, 2) := by decide +kernel
theorem dX1_runs_10 : decode cX1_runs 10 = .ok (.if_icmp .le 5, 3) := by decide +kernel
theorem dX1_runs_13 : decode cX1_runs 13 = .ok (.iconst 0, 1) := by decide +kernel
theorem dX1_runs_14 : decode cX1_runs 14 = .ok (.ireturn, 1) := by decide +kernel
theorem dX1_runs_15 : decode cX1_runs 15 = .ok (.aload_n 0, 1) := by decide +kernel
theorem dX1_runs_16 : decode cX1_runs 16 = .ok (.iload_n 1, 1) := by decide +kernel
theorem dX1_runs_17 : decode cX1_runs 17 = .ok (.invokevirtual 48, 3) := by decide +kernel
theorem dX1_runs_20 : decode cX1_runs 20 = .ok (.iload_n 3, 1) := by decide +kernel
theorem dX1_runs_21 : decode cX1_runs 21 = .ok (.iconst 1, 1) := by decide +kernel
theorem dX1_runs_22 : decode cX1_runs 22 = .ok (.iadd, 1) := by decide +kernel
theorem dX1_runs_23 : decode cX1_runs 23 = .ok (.istore 4, 2) := by decide +kernel
theorem dX1_runs_25 : decode cX1_runs 25 = .ok (.iload_n 1, 1) := by decide +kernel
theorem dX1_runs_26 : decode cX1_runs 26 = .ok (.tableswitch 442 10 61 #[222, 231, 252, 258, 442, 442, 442, 442, 442, 442, 278, 442, 442, 442, 442, 442, 442, 442, 442, 442, 290, 302, 442, 442, 442, 442, 442, 442, 442, 442, 331, 343, 442, 442, 442, 442, 442, 442, 442, 442, 372, 386, 442, 442, 442, 442, 442, 442, 442, 442, 401, 413], 222) := by decide +kernel
theorem dX1_runs_248 : decode cX1_runs 248 = .ok (.iload_n 2, 1) := by decide +kernel
theorem dX1_runs_249 : decode cX1_runs 249 = .ok (.iconst 5, 1) := by decide +kernel
theorem dX1_runs_250 : decode cX1_runs 250 = .ok (.imul, 1) := by decide +kernel
theorem dX1_runs_251 : decode cX1_runs 251 = .ok (.aload_n 0, 1) := by decide +kernel
theorem dX1_runs_252 : decode cX1_runs 252 = .ok (.getfield 26, 3) := by decide +kernel
theorem dX1_runs_255 : decode cX1_runs 255 = .ok (.iadd, 1) := by decide +kernel
theorem dX1_runs_256 : decode cX1_runs 256 = .ok (.ireturn, 1) := by decide +kernel
theorem dX1_runs_257 : decode cX1_runs 257 = .ok (.aload_n 0, 1) := by decide +kernel
theorem dX1_runs_258 : decode cX1_runs 258 = .ok (.getstatic 36, 3) := by decide +kernel
theorem dX1_runs_261 : decode cX1_runs 261 = .ok (.aload_n 0, 1) := by decide +kernel
theorem dX1_runs_262 : decode cX1_runs 262 = .ok (.getfield 23, 3) := by decide +kernel
theorem dX1_runs_265 : decode cX1_runs 265 = .ok (.iaload, 1) := by decide +kernel
theorem dX1_runs_266 : decode cX1_runs 266 = .ok (.iload_n 2, 1) := by decide +kernel
theorem dX1_runs_267 : decode cX1_runs 267 = .ok (.iload 4, 2) := by decide +kernel
theorem dX1_runs_269 : decode cX1_runs 269 = .ok (.invokestatic 52, 3) := by decide +kernel
theorem dX1_runs_272 : decode cX1_runs 272 = .ok (.aload_n 0, 1) := by decide +kernel
theorem dX1_runs_273 : decode cX1_runs 273 = .ok (.getfield 29, 3) := by decide +kernel
theorem dX1_runs_276 : decode cX1_runs 276 = .ok (.isub, 1) := by decide +kernel
theorem dX1_runs_277 : decode cX1_runs 277 = .ok (.ireturn, 1) := by decide +kernel
theorem dX1_runs_278 : decode cX1_runs 278 = .ok (.aload_n 0, 1) := by decide +kernel
theorem dX1_runs_279 : decode cX1_runs 279 = .ok (.iload_n 2, 1) := by decide +kernel
theorem dX1_runs_280 : decode cX1_runs 280 = .ok (.invokevirtual 56, 3) := by decide +kernel
theorem dX1_runs_283 : decode cX1_runs 283 = .ok (.ireturn, 1) := by decide +kernel
theorem dX1_runs_284 : decode cX1_runs 284 = .ok (.aload_n 0, 1) := by decide +kernel
theorem dX1_runs_285 : decode cX1_runs 285 = .ok (.getstatic 39, 3) := by decide +kernel
theorem dX1_runs_288 : decode cX1_runs 288 = .ok (.aload_n 0, 1) := by decide +kernel
theorem dX1_runs_289 : decode cX1_runs 289 = .ok (.getfield 23, 3) := by decide +kernel
theorem dX1_runs_292 : decode cX1_runs 292 = .ok (.iaload, 1) := by decide +kernel
theorem dX1_runs_293 : decode cX1_runs 293 = .ok (.iload_n 2, 1) := by decide +kernel
theorem dX1_runs_294 : decode cX1_runs 294 = .ok (.iload 4, 2) := by decide +kernel
theorem dX1_runs_296 : decode cX1_runs 296 = .ok (.invokestatic 52, 3) := by decide +kernel
theorem dX1_runs_299 : decode cX1_runs 299 = .ok (.sipush 150, 3) := by decide +kernel
theorem dX1_runs_302 : decode cX1_runs 302 = .ok (.ixor, 1) := by decide +kernel
theorem dX1_runs_303 : decode cX1_runs 303 = .ok (.ireturn, 1) := by decide +kernel
theorem dX1_runs_304 : decode cX1_runs 304 = .ok (.aload_n 0, 1) := by decide +kernel
theorem dX1_runs_305 : decode cX1_runs 305 = .ok (.bipush 11, 2) := by decide +kernel
theorem dX1_runs_307 : decode cX1_runs 307 = .ok (.iload_n 2, 1) := by decide +kernel
theorem dX1_runs_308 : decode cX1_runs 308 = .ok (.iload 4, 2) := by decide +kernel
theorem dX1_runs_310 : decode cX1_runs 310 = .ok (.invokestatic 52, 3) := by decide +kernel
theorem dX1_runs_313 : decode cX1_runs 313 = .ok (.iconst 2, 1) := by decide +kernel
theorem dX1_runs_314 : decode cX1_runs 314 = .ok (.imul, 1) := by decide +kernel
theorem dX1_runs_315 : decode cX1_runs 315 = .ok (.ireturn, 1) := by decide +kernel
theorem dX1_runs_316 : decode cX1_runs 316 = .ok (.aload_n 0, 1) := by decide +kernel
theorem dX1_runs_317 : decode cX1_runs 317 = .ok (.bipush 10, 2) := by decide +kernel
theorem dX1_runs_319 : decode cX1_runs 319 = .ok (.iload_n 2, 1) := by decide +kernel
theorem dX1_runs_320 : decode cX1_runs 320 = .ok (.iload 4, 2) := by decide +kernel
theorem dX1_runs_322 : decode cX1_runs 322 = .ok (.invokestatic 52, 3) := by decide +kernel
theorem dX1_runs_325 : decode cX1_runs 325 = .ok (.iconst 4, 1) := by decide +kernel
theorem dX1_runs_326 : decode cX1_runs 326 = .ok (.isub, 1) := by decide +kernel
theorem dX1_runs_327 : decode cX1_runs 327 = .ok (.ireturn, 1) := by decide +kernel
theorem dX1_runs_328 : decode cX1_runs 328 = .ok (.aload_n 0, 1) := by decide +kernel
theorem dX1_runs_329 : decode cX1_runs 329 = .ok (.bipush 13, 2) := by decide +kernel
theorem dX1_runs_331 : decode cX1_runs 331 = .ok (.iload_n 2, 1) := by decide +kernel
theorem dX1_runs_332 : decode cX1_runs 332 = .ok (.iload 4, 2) := by decide +kernel
theorem dX1_runs_334 : decode cX1_runs 334 = .ok (.invokestatic 52, 3) := by decide +kernel
theorem dX1_runs_337 : decode cX1_runs 337 = .ok (.aload_n 0, 1) := by decide +kernel
theorem dX1_runs_338 : decode cX1_runs 338 = .ok (.getstatic 42, 3) := by decide +kernel
theorem dX1_runs_341 : decode cX1_runs 341 = .ok (.aload_n 0, 1) := by decide +kernel
theorem dX1_runs_342 : decode cX1_runs 342 = .ok (.getfield 23, 3) := by decide +kernel
theorem dX1_runs_345 : decode cX1_runs 345 = .ok (.iaload, 1) := by decide +kernel
theorem dX1_runs_346 : decode cX1_runs 346 = .ok (.aload_n 0, 1) := by decide +kernel
theorem dX1_runs_347 : decode cX1_runs 347 = .ok (.getfield 26, 3) := by decide +kernel
theorem dX1_runs_350 : decode cX1_runs 350 = .ok (.iload 4, 2) := by decide +kernel
theorem dX1_runs_352 : decode cX1_runs 352 = .ok (.invokestatic 52, 3) := by decide +kernel
theorem dX1_runs_355 : decode cX1_runs 355 = .ok (.iadd, 1) := by decide +kernel
theorem dX1_runs_356 : decode cX1_runs 356 = .ok (.ireturn, 1) := by decide +kernel
theorem dX1_runs_357 : decode cX1_runs 357 = .ok (.iconst 0, 1) := by decide +kernel
theorem dX1_runs_358 : decode cX1_runs 358 = .ok (.aload_n 0, 1) := by decide +kernel
theorem dX1_runs_359 : decode cX1_runs 359 = .ok (.bipush 30, 2) := by decide +kernel
theorem dX1_runs_361 : decode cX1_runs 361 = .ok (.iload_n 2, 1) := by decide +kernel
theorem dX1_runs_362 : decode cX1_runs 362 = .ok (.iload 4, 2) := by decide +kernel
theorem dX1_runs_364 : decode cX1_runs 364 = .ok (.invokestatic 52, 3) := by decide +kernel
theorem dX1_runs_367 : decode cX1_runs 367 = .ok (.isub, 1) := by decide +kernel
theorem dX1_runs_368 : decode cX1_runs 368 = .ok (.ireturn, 1) := by decide +kernel
theorem dX1_runs_369 : decode cX1_runs 369 = .ok (.aload_n 0, 1) := by decide +kernel
theorem dX1_runs_370 : decode cX1_runs 370 = .ok (.bipush 11, 2) := by decide +kernel
theorem dX1_runs_372 : decode cX1_runs 372 = .ok (.iload_n 2, 1) := by decide +kernel
theorem dX1_runs_373 : decode cX1_runs 373 = .ok (.iload 4, 2) := by decide +kernel
theorem dX1_runs_375 : decode cX1_runs 375 = .ok (.invokestatic 52, 3) := by decide +kernel
theorem dX1_runs_378 : decode cX1_runs 378 = .ok (.aload_n 0, 1) := by decide +kernel
theorem dX1_runs_379 : decode cX1_runs 379 = .ok (.getstatic 36, 3) := by decide +kernel
theorem dX1_runs_382 : decode cX1_runs 382 = .ok (.aload_n 0, 1) := by decide +kernel
theorem dX1_runs_383 : decode cX1_runs 383 = .ok (.getfield 23, 3) := by decide +kernel
theorem dX1_runs_386 : decode cX1_runs 386 = .ok (.iaload, 1) := by decide +kernel
theorem dX1_runs_387 : decode cX1_runs 387 = .ok (.aload_n 0, 1) := by decide +kernel
theorem dX1_runs_388 : decode cX1_runs 388 = .ok (.getfield 29, 3) := by decide +kernel
theorem dX1_runs_391 : decode cX1_runs 391 = .ok (.iload 4, 2) := by decide +kernel
theorem dX1_runs_393 : decode cX1_runs 393 = .ok (.invokestatic 52, 3) := by decide +kernel
theorem dX1_runs_396 : decode cX1_runs 396 = .ok (.ixor, 1) := by decide +kernel
theorem dX1_runs_397 : decode cX1_runs 397 = .ok (.ireturn, 1) := by decide +kernel
theorem dX1_runs_398 : decode cX1_runs 398 = .ok (.aload_n 0, 1) := by decide +kernel
theorem dX1_runs_399 : decode cX1_runs 399 = .ok (.bipush 12, 2) := by decide +kernel
theorem dX1_runs_401 : decode cX1_runs 401 = .ok (.iload_n 2, 1) := by decide +kernel
theorem dX1_runs_402 : decode cX1_runs 402 = .ok (.iconst 3, 1) := by decide +kernel
theorem dX1_runs_403 : decode cX1_runs 403 = .ok (.imul, 1) := by decide +kernel
theorem dX1_runs_404 : decode cX1_runs 404 = .ok (.iload 4, 2) := by decide +kernel
theorem dX1_runs_406 : decode cX1_runs 406 = .ok (.invokestatic 52, 3) := by decide +kernel
theorem dX1_runs_409 : decode cX1_runs 409 = .ok (.iconst 2, 1) := by decide +kernel
theorem dX1_runs_410 : decode cX1_runs 410 = .ok (.iadd, 1) := by decide +kernel
theorem dX1_runs_411 : decode cX1_runs 411 = .ok (.ireturn, 1) := by decide +kernel
theorem dX1_runs_412 : decode cX1_runs 412 = .ok (.aload_n 0, 1) := by decide +kernel
theorem dX1_runs_413 : decode cX1_runs 413 = .ok (.bipush 10, 2) := by decide +kernel
theorem dX1_runs_415 : decode cX1_runs 415 = .ok (.iload_n 2, 1) := by decide +kernel
theorem dX1_runs_416 : decode cX1_runs 416 = .ok (.iload 4, 2) := by decide +kernel
theorem dX1_runs_418 : decode cX1_runs 418 = .ok (.invokestatic 52, 3) := by decide +kernel
theorem dX1_runs_421 : decode cX1_runs 421 = .ok (.aload_n 0, 1) := by decide +kernel
theorem dX1_runs_422 : decode cX1_runs 422 = .ok (.getfield 29, 3) := by decide +kernel
theorem dX1_runs_425 : decode cX1_runs 425 = .ok (.iadd, 1) := by decide +kernel
theorem dX1_runs_426 : decode cX1_runs 426 = .ok (.ireturn, 1) := by decide +kernel
theorem dX1_runs_427 : decode cX1_runs 427 = .ok (.aload_n 0, 1) := by decide +kernel
theorem dX1_runs_428 : decode cX1_runs 428 = .ok (.bipush 13, 2) := by decide +kernel
theorem dX1_runs_430 : decode cX1_runs 430 = .ok (.iload_n 2, 1) := by decide +kernel
theorem dX1_runs_431 : decode cX1_runs 431 = .ok (.iload 4, 2) := by decide +kernel
theorem dX1_runs_433 : decode cX1_runs 433 = .ok (.invokestatic 52, 3) := by decide +kernel
theorem dX1_runs_436 : decode cX1_runs 436 = .ok (.iconst 2, 1) := by decide +kernel
theorem dX1_runs_437 : decode cX1_runs 437 = .ok (.imul, 1) := by decide +kernel
theorem dX1_runs_438 : decode cX1_runs 438 = .ok (.ireturn, 1) := by decide +kernel
theorem dX1_runs_439 : decode cX1_runs 439 = .ok (.aload_n 0, 1) := by decide +kernel
theorem dX1_runs_440 : decode cX1_runs 440 = .ok (.bipush 12, 2) := by decide +kernel
theorem dX1_runs_442 : decode cX1_runs 442 = .ok (.iload_n 2, 1) := by decide +kernel
theorem dX1_runs_443 : decode cX1_runs 443 = .ok (.iload 4, 2) := by decide +kernel
theorem dX1_runs_445 : decode cX1_runs 445 = .ok (.invokestatic 52, 3) := by decide +kernel
theorem dX1_runs_448 : decode cX1_runs 448 = .ok (.aload_n 0, 1) := by decide +kernel
theorem dX1_runs_449 : decode cX1_runs 449 = .ok (.getstatic 36, 3) := by decide +kernel
theorem dX1_runs_452 : decode cX1_runs 452 = .ok (.aload_n 0, 1) := by decide +kernel
theorem dX1_runs_453 : decode cX1_runs 453 = .ok (.getfield 23, 3) := by decide +kernel
theorem dX1_runs_456 : decode cX1_runs 456 = .ok (.iaload, 1) := by decide +kernel
theorem dX1_runs_457 : decode cX1_runs 457 = .ok (.aload_n 0, 1) := by decide +kernel
theorem dX1_runs_458 : decode cX1_runs 458 = .ok (.getfield 26, 3) := by decide +kernel
theorem dX1_runs_461 : decode cX1_runs 461 = .ok (.iload 4, 2) := by decide +kernel
theorem dX1_runs_463 : decode cX1_runs 463 = .ok (.invokestatic 52, 3) := by decide +kernel
theorem dX1_runs_466 : decode cX1_runs 466 = .ok (.isub, 1) := by decide +kernel
theorem dX1_runs_467 : decode cX1_runs 467 = .ok (.ireturn, 1) := by decide +kernel
theorem dX1_runs_468 : decode cX1_runs 468 = .ok (.iconst 0, 1) := by decide +kernel
theorem dX1_runs_469 : decode cX1_runs 469 = .ok (.ireturn, 1) := by decide +kernel
theorem dX1_notes_0 : decode cX1_notes 0 = .ok (.aload_n 0, 1) := by decide +kernel
theorem dX1_notes_1 : decode cX1_notes 1 = .ok (.getfield 15, 3) := by decide +kernel
theorem dX1_notes_4 : decode cX1_notes 4 = .ok (.bipush 30, 2) := by decide +kernel
theorem dX1_notes_6 : decode cX1_notes 6 = .ok (.if_icmp .ge 23, 3) := by decide +kernel
theorem dX1_notes_9 : decode cX1_notes 9 = .ok (.aload_n 0, 1) := by decide +kernel
theorem dX1_notes_10 : decode cX1_notes 10 = .ok (.getfield 9, 3) := by decide +kernel
theorem dX1_notes_13 : decode cX1_notes 13 = .ok (.aload_n 0, 1) := by decide +kernel
theorem dX1_notes_14 : decode cX1_notes 14 = .ok (.getfield 15, 3) := by decide +kernel
theorem dX1_notes_17 : decode cX1_notes 17 = .ok (.iload_n 1, 1) := by decide +kernel
theorem dX1_notes_18 : decode cX1_notes 18 = .ok (.iastore, 1) := by decide +kernel
theorem dX1_notes_19 : decode cX1_notes 19 = .ok (.aload_n 0, 1) := by decide +kernel
theorem dX1_notes_20 : decode cX1_notes 20 = .ok (.dup, 1) := by decide +kernel
theorem dX1_notes_21 : decode cX1_notes 21 = .ok (.getfield 15, 3) := by decide +kernel
theorem dX1_notes_24 : decode cX1_notes 24 = .ok (.iconst 1, 1) := by decide +kernel
theorem dX1_notes_25 : decode cX1_notes 25 = .ok (.iadd, 1) := by decide +kernel
theorem dX1_notes_26 : decode cX1_notes 26 = .ok (.putfield 15, 3) := by decide +kernel
theorem dX1_notes_29 : decode cX1_notes 29 = .ok (.return_, 1) := by decide +kernel
theorem dX1_quotient_0 : decode cX1_quotient 0 = .ok (.aload_n 0, 1) := by decide +kernel
theorem dX1_quotient_1 : decode cX1_quotient 1 = .ok (.getfield 29, 3) := by decide +kernel
theorem dX1_quotient_4 : decode cX1_quotient 4 = .ok (.aload_n 0, 1) := by decide +kernel
theorem dX1_quotient_5 : decode cX1_quotient 5 = .ok (.getfield 26, 3) := by decide +kernel
theorem dX1_quotient_8 : decode cX1_quotient 8 = .ok (.isub, 1) := by decide +kernel
theorem dX1_quotient_9 : decode cX1_quotient 9 = .ok (.istore_n 2, 1) := by decide +kernel
theorem dX1_quotient_10 : decode cX1_quotient 10 = .ok (.iload_n 2, 1) := by decide +kernel
theorem dX1_quotient_11 : decode cX1_quotient 11 = .ok (.ifCond .ne 10, 3) := by decide +kernel
theorem dX1_quotient_14 : decode cX1_quotient 14 = .ok (.aload_n 0, 1) := by decide +kernel
theorem dX1_quotient_15 : decode cX1_quotient 15 = .ok (.iconst 1, 1) := by decide +kernel
theorem dX1_quotient_16 : decode cX1_quotient 16 = .ok (.putfield 19, 3) := by decide +kernel
theorem dX1_quotient_19 : decode cX1_quotient 19 = .ok (.iconst 0, 1) := by decide +kernel
theorem dX1_quotient_20 : decode cX1_quotient 20 = .ok (.ireturn, 1) := by decide +kernel
theorem dX1_quotient_21 : decode cX1_quotient 21 = .ok (.iload_n 1, 1) := by decide +kernel
theorem dX1_quotient_22 : decode cX1_quotient 22 = .ok (.iload_n 2, 1) := by decide +kernel
theorem dX1_quotient_23 : decode cX1_quotient 23 = .ok (.idiv, 1) := by decide +kernel
theorem dX1_quotient_24 : decode cX1_quotient 24 = .ok (.ireturn, 1) := by decide +kernel
theorem dX2_init_0 : decode cX2_init 0 = .ok (.aload_n 0, 1) := by decide +kernel
theorem dX2_init_1 : decode cX2_init 1 = .ok (.invokespecial 3, 3) := by decide +kernel
theorem dX2_init_4 : decode cX2_init 4 = .ok (.aload_n 0, 1) := by decide +kernel
theorem dX2_init_5 : decode cX2_init 5 = .ok (.iconst (-1), 1) := by decide +kernel
theorem dX2_init_6 : decode cX2_init 6 = .ok (.putfield 11, 3) := by decide +kernel
theorem dX2_init_9 : decode cX2_init 9 = .ok (.aload_n 0, 1) := by decide +kernel
theorem dX2_init_10 : decode cX2_init 10 = .ok (.iconst 0, 1) := by decide +kernel
theorem dX2_init_11 : decode cX2_init 11 = .ok (.putfield 15, 3) := by decide +kernel
theorem dX2_init_14 : decode cX2_init 14 = .ok (.aload_n 0, 1) := by decide +kernel
theorem dX2_init_15 : decode cX2_init 15 = .ok (.bipush 40, 2) := by decide +kernel
theorem dX2_init_17 : decode cX2_init 17 = .ok (.newarray .long, 2) := by decide +kernel
theorem dX2_init_19 : decode cX2_init 19 = .ok (.putfield 18, 3) := by decide +kernel
theorem dX2_init_22 : decode cX2_init 22 = .ok (.return_, 1) := by decide +kernel
theorem dX2_isMissing_0 : decode cX2_isMissing 0 = .ok (.aload_n 0, 1) := by decide +kernel
theorem dX2_isMissing_1 : decode cX2_isMissing 1 = .ok (.getfield 11, 3) := by decide +kernel
theorem dX2_isMissing_4 : decode cX2_isMissing 4 = .ok (.iconst (-1), 1) := by decide +kernel
theorem dX2_isMissing_5 : decode cX2_isMissing 5 = .ok (.if_icmp .ne 7, 3) := by decide +kernel
theorem dX2_isMissing_8 : decode cX2_isMissing 8 = .ok (.iconst 1, 1) := by decide +kernel
theorem dX2_isMissing_9 : decode cX2_isMissing 9 = .ok (.goto 4, 3) := by decide +kernel
theorem dX2_isMissing_12 : decode cX2_isMissing 12 = .ok (.iconst 0, 1) := by decide +kernel
theorem dX2_isMissing_13 : decode cX2_isMissing 13 = .ok (.ireturn, 1) := by decide +kernel
theorem dX2_becomes_0 : decode cX2_becomes 0 = .ok (.aload_n 0, 1) := by decide +kernel
theorem dX2_becomes_1 : decode cX2_becomes 1 = .ok (.iload_n 1, 1) := by decide +kernel
theorem dX2_becomes_2 : decode cX2_becomes 2 = .ok (.putfield 11, 3) := by decide +kernel
theorem dX2_becomes_5 : decode cX2_becomes 5 = .ok (.aload_n 0, 1) := by decide +kernel
theorem dX2_becomes_6 : decode cX2_becomes 6 = .ok (.iload_n 2, 1) := by decide +kernel
theorem dX2_becomes_7 : decode cX2_becomes 7 = .ok (.putfield 15, 3) := by decide +kernel
theorem dX2_becomes_10 : decode cX2_becomes 10 = .ok (.iconst 0, 1) := by decide +kernel
theorem dX2_becomes_11 : decode cX2_becomes 11 = .ok (.istore_n 3, 1) := by decide +kernel
theorem dX2_becomes_12 : decode cX2_becomes 12 = .ok (.iload_n 3, 1) := by decide +kernel
theorem dX2_becomes_13 : decode cX2_becomes 13 = .ok (.bipush 40, 2) := by decide +kernel
theorem dX2_becomes_15 : decode cX2_becomes 15 = .ok (.if_icmp .ge 16, 3) := by decide +kernel
theorem dX2_becomes_18 : decode cX2_becomes 18 = .ok (.aload_n 0, 1) := by decide +kernel
theorem dX2_becomes_19 : decode cX2_becomes 19 = .ok (.getfield 18, 3) := by decide +kernel
theorem dX2_becomes_22 : decode cX2_becomes 22 = .ok (.iload_n 3, 1) := by decide +kernel
theorem dX2_becomes_23 : decode cX2_becomes 23 = .ok (.lconst 0, 1) := by decide +kernel
theorem dX2_becomes_24 : decode cX2_becomes 24 = .ok (.lastore, 1) := by decide +kernel
theorem dX2_becomes_25 : decode cX2_becomes 25 = .ok (.iinc 3 1, 3) := by decide +kernel
theorem dX2_becomes_28 : decode cX2_becomes 28 = .ok (.goto (-16), 3) := by decide +kernel
theorem dX2_becomes_31 : decode cX2_becomes 31 = .ok (.return_, 1) := by decide +kernel
theorem dX2_narrowed_0 : decode cX2_narrowed 0 = .ok (.aload_n 0, 1) := by decide +kernel
theorem dX2_narrowed_1 : decode cX2_narrowed 1 = .ok (.getfield 11, 3) := by decide +kernel
theorem dX2_narrowed_4 : decode cX2_narrowed 4 = .ok (.lookupswitch 36 #[(0, 28), (1, 32)], 28) := by decide +kernel
theorem dX2_narrowed_32 : decode cX2_narrowed 32 = .ok (.iload_n 1, 1) := by decide +kernel
theorem dX2_narrowed_33 : decode cX2_narrowed 33 = .ok (.i2b, 1) := by decide +kernel
theorem dX2_narrowed_34 : decode cX2_narrowed 34 = .ok (.i2l, 1) := by decide +kernel
theorem dX2_narrowed_35 : decode cX2_narrowed 35 = .ok (.lreturn, 1) := by decide +kernel
theorem dX2_narrowed_36 : decode cX2_narrowed 36 = .ok (.iload_n 1, 1) := by decide +kernel
theorem dX2_narrowed_37 : decode cX2_narrowed 37 = .ok (.i2s, 1) := by decide +kernel
theorem dX2_narrowed_38 : decode cX2_narrowed 38 = .ok (.i2l, 1) := by decide +kernel
theorem dX2_narrowed_39 : decode cX2_narrowed 39 = .ok (.lreturn, 1) := by decide +kernel
theorem dX2_narrowed_40 : decode cX2_narrowed 40 = .ok (.iload_n 1, 1) := by decide +kernel
theorem dX2_narrowed_41 : decode cX2_narrowed 41 = .ok (.i2l, 1) := by decide +kernel
theorem dX2_narrowed_42 : decode cX2_narrowed 42 = .ok (.lreturn, 1) := by decide +kernel
theorem dX3_init_0 : decode cX3_init 0 = .ok (.aload_n 0, 1) := by decide +kernel
theorem dX3_init_1 : decode cX3_init 1 = .ok (.invokespecial 1, 3) := by decide +kernel
theorem dX3_init_4 : decode cX3_init 4 = .ok (.aload_n 0, 1) := by decide +kernel
theorem dX3_init_5 : decode cX3_init 5 = .ok (.iconst 0, 1) := by decide +kernel
theorem dX3_init_6 : decode cX3_init 6 = .ok (.putfield 9, 3) := by decide +kernel
theorem dX3_init_9 : decode cX3_init 9 = .ok (.aload_n 0, 1) := by decide +kernel
theorem dX3_init_10 : decode cX3_init 10 = .ok (.iconst 0, 1) := by decide +kernel
theorem dX3_init_11 : decode cX3_init 11 = .ok (.putfield 13, 3) := by decide +kernel
theorem dX3_init_14 : decode cX3_init 14 = .ok (.aload_n 0, 1) := by decide +kernel
theorem dX3_init_15 : decode cX3_init 15 = .ok (.iconst 0, 1) := by decide +kernel
theorem dX3_init_16 : decode cX3_init 16 = .ok (.putfield 16, 3) := by decide +kernel
theorem dX3_init_19 : decode cX3_init 19 = .ok (.aload_n 0, 1) := by decide +kernel
theorem dX3_init_20 : decode cX3_init 20 = .ok (.iconst 0, 1) := by decide +kernel
theorem dX3_init_21 : decode cX3_init 21 = .ok (.putfield 19, 3) := by decide +kernel
theorem dX3_init_24 : decode cX3_init 24 = .ok (.return_, 1) := by decide +kernel
theorem dX3_empties_0 : decode cX3_empties 0 = .ok (.aload_n 0, 1) := by decide +kernel
theorem dX3_empties_1 : decode cX3_empties 1 = .ok (.iconst 0, 1) := by decide +kernel
theorem dX3_empties_2 : decode cX3_empties 2 = .ok (.putfield 9, 3) := by decide +kernel
theorem dX3_empties_5 : decode cX3_empties 5 = .ok (.return_, 1) := by decide +kernel
theorem dX3_takesHearer_0 : decode cX3_takesHearer 0 = .ok (.aload_n 0, 1) := by decide +kernel
theorem dX3_takesHearer_1 : decode cX3_takesHearer 1 = .ok (.iconst 1, 1) := by decide +kernel
theorem dX3_takesHearer_2 : decode cX3_takesHearer 2 = .ok (.putfield 9, 3) := by decide +kernel
theorem dX3_takesHearer_5 : decode cX3_takesHearer 5 = .ok (.aload_n 0, 1) := by decide +kernel
theorem dX3_takesHearer_6 : decode cX3_takesHearer 6 = .ok (.iload_n 1, 1) := by decide +kernel
theorem dX3_takesHearer_7 : decode cX3_takesHearer 7 = .ok (.putfield 13, 3) := by decide +kernel
theorem dX3_takesHearer_10 : decode cX3_takesHearer 10 = .ok (.return_, 1) := by decide +kernel
theorem dX3_takesRow_0 : decode cX3_takesRow 0 = .ok (.aload_n 0, 1) := by decide +kernel
theorem dX3_takesRow_1 : decode cX3_takesRow 1 = .ok (.aload_n 1, 1) := by decide +kernel
theorem dX3_takesRow_2 : decode cX3_takesRow 2 = .ok (.invokevirtual 22, 3) := by decide +kernel
theorem dX3_takesRow_5 : decode cX3_takesRow 5 = .ok (.ifCond .eq 7, 3) := by decide +kernel
theorem dX3_takesRow_8 : decode cX3_takesRow 8 = .ok (.iconst 0, 1) := by decide +kernel
theorem dX3_takesRow_9 : decode cX3_takesRow 9 = .ok (.goto 4, 3) := by decide +kernel
theorem dX3_takesRow_12 : decode cX3_takesRow 12 = .ok (.iconst 2, 1) := by decide +kernel
theorem dX3_takesRow_13 : decode cX3_takesRow 13 = .ok (.putfield 9, 3) := by decide +kernel
theorem dX3_takesRow_16 : decode cX3_takesRow 16 = .ok (.aload_n 0, 1) := by decide +kernel
theorem dX3_takesRow_17 : decode cX3_takesRow 17 = .ok (.aload_n 1, 1) := by decide +kernel
theorem dX3_takesRow_18 : decode cX3_takesRow 18 = .ok (.getfield 28, 3) := by decide +kernel
theorem dX3_takesRow_21 : decode cX3_takesRow 21 = .ok (.putfield 16, 3) := by decide +kernel
theorem dX3_takesRow_24 : decode cX3_takesRow 24 = .ok (.aload_n 0, 1) := by decide +kernel
theorem dX3_takesRow_25 : decode cX3_takesRow 25 = .ok (.aload_n 1, 1) := by decide +kernel
theorem dX3_takesRow_26 : decode cX3_takesRow 26 = .ok (.getfield 29, 3) := by decide +kernel
theorem dX3_takesRow_29 : decode cX3_takesRow 29 = .ok (.putfield 19, 3) := by decide +kernel
theorem dX3_takesRow_32 : decode cX3_takesRow 32 = .ok (.return_, 1) := by decide +kernel
theorem dX4_init_0 : decode cX4_init 0 = .ok (.aload_n 0, 1) := by decide +kernel
theorem dX4_init_1 : decode cX4_init 1 = .ok (.invokespecial 3, 3) := by decide +kernel
theorem dX4_init_4 : decode cX4_init 4 = .ok (.aload_n 0, 1) := by decide +kernel
theorem dX4_init_5 : decode cX4_init 5 = .ok (.sipush 200, 3) := by decide +kernel
theorem dX4_init_8 : decode cX4_init 8 = .ok (.newarray .byte, 2) := by decide +kernel
theorem dX4_init_10 : decode cX4_init 10 = .ok (.putfield 9, 3) := by decide +kernel
theorem dX4_init_13 : decode cX4_init 13 = .ok (.aload_n 0, 1) := by decide +kernel
theorem dX4_init_14 : decode cX4_init 14 = .ok (.iconst 0, 1) := by decide +kernel
theorem dX4_init_15 : decode cX4_init 15 = .ok (.putfield 15, 3) := by decide +kernel
theorem dX4_init_18 : decode cX4_init 18 = .ok (.aload_n 0, 1) := by decide +kernel
theorem dX4_init_19 : decode cX4_init 19 = .ok (.iconst 0, 1) := by decide +kernel
theorem dX4_init_20 : decode cX4_init 20 = .ok (.putfield 19, 3) := by decide +kernel
theorem dX4_init_23 : decode cX4_init 23 = .ok (.aload_n 0, 1) := by decide +kernel
theorem dX4_init_24 : decode cX4_init 24 = .ok (.iconst 0, 1) := by decide +kernel
theorem dX4_init_25 : decode cX4_init 25 = .ok (.putfield 22, 3) := by decide +kernel
theorem dX4_init_28 : decode cX4_init 28 = .ok (.aload_n 0, 1) := by decide +kernel
theorem dX4_init_29 : decode cX4_init 29 = .ok (.iconst 0, 1) := by decide +kernel
theorem dX4_init_30 : decode cX4_init 30 = .ok (.putfield 25, 3) := by decide +kernel
theorem dX4_init_33 : decode cX4_init 33 = .ok (.aload_n 0, 1) := by decide +kernel
theorem dX4_init_34 : decode cX4_init 34 = .ok (.iconst 0, 1) := by decide +kernel
theorem dX4_init_35 : decode cX4_init 35 = .ok (.putfield 28, 3) := by decide +kernel
theorem dX4_init_38 : decode cX4_init 38 = .ok (.aload_n 0, 1) := by decide +kernel
theorem dX4_init_39 : decode cX4_init 39 = .ok (.bipush (-3), 2) := by decide +kernel
theorem dX4_init_41 : decode cX4_init 41 = .ok (.putfield 31, 3) := by decide +kernel
theorem dX4_init_44 : decode cX4_init 44 = .ok (.return_, 1) := by decide +kernel
theorem dX4_takes_0 : decode cX4_takes 0 = .ok (.aload_n 0, 1) := by decide +kernel
theorem dX4_takes_1 : decode cX4_takes 1 = .ok (.getfield 15, 3) := by decide +kernel
theorem dX4_takes_4 : decode cX4_takes 4 = .ok (.iload_n 3, 1) := by decide +kernel
theorem dX4_takes_5 : decode cX4_takes 5 = .ok (.iadd, 1) := by decide +kernel
theorem dX4_takes_6 : decode cX4_takes 6 = .ok (.sipush 200, 3) := by decide +kernel
theorem dX4_takes_9 : decode cX4_takes 9 = .ok (.if_icmp .le 5, 3) := by decide +kernel
theorem dX4_takes_12 : decode cX4_takes 12 = .ok (.iconst 0, 1) := by decide +kernel
theorem dX4_takes_13 : decode cX4_takes 13 = .ok (.ireturn, 1) := by decide +kernel
theorem dX4_takes_14 : decode cX4_takes 14 = .ok (.iconst 0, 1) := by decide +kernel
theorem dX4_takes_15 : decode cX4_takes 15 = .ok (.istore 4, 2) := by decide +kernel
theorem dX4_takes_17 : decode cX4_takes 17 = .ok (.iload 4, 2) := by decide +kernel
theorem dX4_takes_19 : decode cX4_takes 19 = .ok (.iload_n 3, 1) := by decide +kernel
theorem dX4_takes_20 : decode cX4_takes 20 = .ok (.if_icmp .ge 37, 3) := by decide +kernel
theorem dX4_takes_23 : decode cX4_takes 23 = .ok (.aload_n 0, 1) := by decide +kernel
theorem dX4_takes_24 : decode cX4_takes 24 = .ok (.getfield 9, 3) := by decide +kernel
theorem dX4_takes_27 : decode cX4_takes 27 = .ok (.aload_n 0, 1) := by decide +kernel
theorem dX4_takes_28 : decode cX4_takes 28 = .ok (.getfield 15, 3) := by decide +kernel
theorem dX4_takes_31 : decode cX4_takes 31 = .ok (.lload_n 1, 1) := by decide +kernel
theorem dX4_takes_32 : decode cX4_takes 32 = .ok (.bipush 8, 2) := by decide +kernel
theorem dX4_takes_34 : decode cX4_takes 34 = .ok (.iload 4, 2) := by decide +kernel
theorem dX4_takes_36 : decode cX4_takes 36 = .ok (.imul, 1) := by decide +kernel
theorem dX4_takes_37 : decode cX4_takes 37 = .ok (.lushr, 1) := by decide +kernel
theorem dX4_takes_38 : decode cX4_takes 38 = .ok (.l2i, 1) := by decide +kernel
theorem dX4_takes_39 : decode cX4_takes 39 = .ok (.i2b, 1) := by decide +kernel
theorem dX4_takes_40 : decode cX4_takes 40 = .ok (.bastore, 1) := by decide +kernel
theorem dX4_takes_41 : decode cX4_takes 41 = .ok (.aload_n 0, 1) := by decide +kernel
theorem dX4_takes_42 : decode cX4_takes 42 = .ok (.dup, 1) := by decide +kernel
theorem dX4_takes_43 : decode cX4_takes 43 = .ok (.getfield 15, 3) := by decide +kernel
theorem dX4_takes_46 : decode cX4_takes 46 = .ok (.iconst 1, 1) := by decide +kernel
theorem dX4_takes_47 : decode cX4_takes 47 = .ok (.iadd, 1) := by decide +kernel
theorem dX4_takes_48 : decode cX4_takes 48 = .ok (.putfield 15, 3) := by decide +kernel
theorem dX4_takes_51 : decode cX4_takes 51 = .ok (.iinc 4 1, 3) := by decide +kernel
theorem dX4_takes_54 : decode cX4_takes 54 = .ok (.goto (-37), 3) := by decide +kernel
theorem dX4_takes_57 : decode cX4_takes 57 = .ok (.iconst 1, 1) := by decide +kernel
theorem dX4_takes_58 : decode cX4_takes 58 = .ok (.ireturn, 1) := by decide +kernel
theorem dX4_tells_0 : decode cX4_tells 0 = .ok (.aload_n 0, 1) := by decide +kernel
theorem dX4_tells_1 : decode cX4_tells 1 = .ok (.iconst 0, 1) := by decide +kernel
theorem dX4_tells_2 : decode cX4_tells 2 = .ok (.putfield 22, 3) := by decide +kernel
theorem dX4_tells_5 : decode cX4_tells 5 = .ok (.aload_n 0, 1) := by decide +kernel
theorem dX4_tells_6 : decode cX4_tells 6 = .ok (.bipush (-3), 2) := by decide +kernel
theorem dX4_tells_8 : decode cX4_tells 8 = .ok (.putfield 31, 3) := by decide +kernel
theorem dX4_tells_11 : decode cX4_tells 11 = .ok (.aload_n 0, 1) := by decide +kernel
theorem dX4_tells_12 : decode cX4_tells 12 = .ok (.invokevirtual 34, 3) := by decide +kernel
theorem dX4_tells_15 : decode cX4_tells 15 = .ok (.iconst 0, 1) := by decide +kernel
theorem dX4_tells_16 : decode cX4_tells 16 = .ok (.istore_n 2, 1) := by decide +kernel
theorem dX4_tells_17 : decode cX4_tells 17 = .ok (.iload_n 2, 1) := by decide +kernel
theorem dX4_tells_18 : decode cX4_tells 18 = .ok (.sipush 200, 3) := by decide +kernel
theorem dX4_tells_21 : decode cX4_tells 21 = .ok (.if_icmp .gt 28, 3) := by decide +kernel
theorem dX4_tells_24 : decode cX4_tells 24 = .ok (.aload_n 0, 1) := by decide +kernel
theorem dX4_tells_25 : decode cX4_tells 25 = .ok (.getfield 25, 3) := by decide +kernel
theorem dX4_tells_28 : decode cX4_tells 28 = .ok (.ifCond .eq 21, 3) := by decide +kernel
theorem dX4_tells_31 : decode cX4_tells 31 = .ok (.aload_n 0, 1) := by decide +kernel
theorem dX4_tells_32 : decode cX4_tells 32 = .ok (.getfield 31, 3) := by decide +kernel
theorem dX4_tells_35 : decode cX4_tells 35 = .ok (.ifCond .ge 14, 3) := by decide +kernel
theorem dX4_tells_38 : decode cX4_tells 38 = .ok (.aload_n 0, 1) := by decide +kernel
theorem dX4_tells_39 : decode cX4_tells 39 = .ok (.aload_n 1, 1) := by decide +kernel
theorem dX4_tells_40 : decode cX4_tells 40 = .ok (.invokevirtual 37, 3) := by decide +kernel
theorem dX4_tells_43 : decode cX4_tells 43 = .ok (.iinc 2 1, 3) := by decide +kernel
theorem dX4_tells_46 : decode cX4_tells 46 = .ok (.goto (-29), 3) := by decide +kernel
theorem dX4_tells_49 : decode cX4_tells 49 = .ok (.aload_n 0, 1) := by decide +kernel
theorem dX4_tells_50 : decode cX4_tells 50 = .ok (.getfield 31, 3) := by decide +kernel
theorem dX4_tells_53 : decode cX4_tells 53 = .ok (.ireturn, 1) := by decide +kernel
theorem dX4_tellsOne_0 : decode cX4_tellsOne 0 = .ok (.aload_n 0, 1) := by decide +kernel
theorem dX4_tellsOne_1 : decode cX4_tellsOne 1 = .ok (.invokevirtual 41, 3) := by decide +kernel
theorem dX4_tellsOne_4 : decode cX4_tellsOne 4 = .ok (.istore_n 2, 1) := by decide +kernel
theorem dX4_tellsOne_5 : decode cX4_tellsOne 5 = .ok (.aload_n 0, 1) := by decide +kernel
theorem dX4_tellsOne_6 : decode cX4_tellsOne 6 = .ok (.invokevirtual 45, 3) := by decide +kernel
theorem dX4_tellsOne_9 : decode cX4_tellsOne 9 = .ok (.istore_n 3, 1) := by decide +kernel
theorem dX4_tellsOne_10 : decode cX4_tellsOne 10 = .ok (.aload_n 0, 1) := by decide +kernel
theorem dX4_tellsOne_11 : decode cX4_tellsOne 11 = .ok (.ldc 48, 2) := by decide +kernel
theorem dX4_tellsOne_13 : decode cX4_tellsOne 13 = .ok (.invokevirtual 50, 3) := by decide +kernel
theorem dX4_tellsOne_16 : decode cX4_tellsOne 16 = .ok (.ifCond .eq 11, 3) := by decide +kernel
theorem dX4_tellsOne_19 : decode cX4_tellsOne 19 = .ok (.aload_n 0, 1) := by decide +kernel
theorem dX4_tellsOne_20 : decode cX4_tellsOne 20 = .ok (.aload_n 1, 1) := by decide +kernel
theorem dX4_tellsOne_21 : decode cX4_tellsOne 21 = .ok (.invokevirtual 54, 3) := by decide +kernel
theorem dX4_tellsOne_24 : decode cX4_tellsOne 24 = .ok (.goto 46, 3) := by decide +kernel
theorem dX4_tellsOne_27 : decode cX4_tellsOne 27 = .ok (.iload_n 2, 1) := by decide +kernel
theorem dX4_tellsOne_28 : decode cX4_tellsOne 28 = .ok (.ifCond .lt 12, 3) := by decide +kernel
theorem dX4_tellsOne_31 : decode cX4_tellsOne 31 = .ok (.aload_n 0, 1) := by decide +kernel
theorem dX4_tellsOne_32 : decode cX4_tellsOne 32 = .ok (.aload_n 1, 1) := by decide +kernel
theorem dX4_tellsOne_33 : decode cX4_tellsOne 33 = .ok (.iload_n 2, 1) := by decide +kernel
theorem dX4_tellsOne_34 : decode cX4_tellsOne 34 = .ok (.invokevirtual 57, 3) := by decide +kernel
theorem dX4_tellsOne_37 : decode cX4_tellsOne 37 = .ok (.goto 33, 3) := by decide +kernel
theorem dX4_tellsOne_40 : decode cX4_tellsOne 40 = .ok (.iload_n 3, 1) := by decide +kernel
theorem dX4_tellsOne_41 : decode cX4_tellsOne 41 = .ok (.ifCond .lt 25, 3) := by decide +kernel
theorem dX4_tellsOne_44 : decode cX4_tellsOne 44 = .ok (.aload_n 0, 1) := by decide +kernel
theorem dX4_tellsOne_45 : decode cX4_tellsOne 45 = .ok (.invokevirtual 34, 3) := by decide +kernel
theorem dX4_tellsOne_48 : decode cX4_tellsOne 48 = .ok (.aload_n 1, 1) := by decide +kernel
theorem dX4_tellsOne_49 : decode cX4_tellsOne 49 = .ok (.getfield 61, 3) := by decide +kernel
theorem dX4_tellsOne_52 : decode cX4_tellsOne 52 = .ok (.iload_n 3, 1) := by decide +kernel
theorem dX4_tellsOne_53 : decode cX4_tellsOne 53 = .ok (.aload_n 0, 1) := by decide +kernel
theorem dX4_tellsOne_54 : decode cX4_tellsOne 54 = .ok (.getstatic 67, 3) := by decide +kernel
theorem dX4_tellsOne_57 : decode cX4_tellsOne 57 = .ok (.iload_n 3, 1) := by decide +kernel
theorem dX4_tellsOne_58 : decode cX4_tellsOne 58 = .ok (.iaload, 1) := by decide +kernel
theorem dX4_tellsOne_59 : decode cX4_tellsOne 59 = .ok (.invokevirtual 70, 3) := by decide +kernel
theorem dX4_tellsOne_62 : decode cX4_tellsOne 62 = .ok (.iastore, 1) := by decide +kernel
theorem dX4_tellsOne_63 : decode cX4_tellsOne 63 = .ok (.goto 7, 3) := by decide +kernel
theorem dX4_tellsOne_66 : decode cX4_tellsOne 66 = .ok (.aload_n 0, 1) := by decide +kernel
theorem dX4_tellsOne_67 : decode cX4_tellsOne 67 = .ok (.invokevirtual 74, 3) := by decide +kernel
theorem dX4_tellsOne_70 : decode cX4_tellsOne 70 = .ok (.aload_n 0, 1) := by decide +kernel
theorem dX4_tellsOne_71 : decode cX4_tellsOne 71 = .ok (.invokevirtual 77, 3) := by decide +kernel
theorem dX4_tellsOne_74 : decode cX4_tellsOne 74 = .ok (.return_, 1) := by decide +kernel
theorem dX4_tellsSaying_0 : decode cX4_tellsSaying 0 = .ok (.aload_n 1, 1) := by decide +kernel
theorem dX4_tellsSaying_1 : decode cX4_tellsSaying 1 = .ok (.getfield 80, 3) := by decide +kernel
theorem dX4_tellsSaying_4 : decode cX4_tellsSaying 4 = .ok (.bipush 12, 2) := by decide +kernel
theorem dX4_tellsSaying_6 : decode cX4_tellsSaying 6 = .ok (.if_icmp .lt 8, 3) := by decide +kernel
theorem dX4_tellsSaying_9 : decode cX4_tellsSaying 9 = .ok (.aload_n 0, 1) := by decide +kernel
theorem dX4_tellsSaying_10 : decode cX4_tellsSaying 10 = .ok (.invokevirtual 74, 3) := by decide +kernel
theorem dX4_tellsSaying_13 : decode cX4_tellsSaying 13 = .ok (.return_, 1) := by decide +kernel
theorem dX4_tellsSaying_14 : decode cX4_tellsSaying 14 = .ok (.aload_n 0, 1) := by decide +kernel
theorem dX4_tellsSaying_15 : decode cX4_tellsSaying 15 = .ok (.invokevirtual 34, 3) := by decide +kernel
theorem dX4_tellsSaying_18 : decode cX4_tellsSaying 18 = .ok (.aload_n 0, 1) := by decide +kernel
theorem dX4_tellsSaying_19 : decode cX4_tellsSaying 19 = .ok (.bipush 7, 2) := by decide +kernel
theorem dX4_tellsSaying_21 : decode cX4_tellsSaying 21 = .ok (.invokevirtual 70, 3) := by decide +kernel
theorem dX4_tellsSaying_24 : decode cX4_tellsSaying 24 = .ok (.istore_n 2, 1) := by decide +kernel
theorem dX4_tellsSaying_25 : decode cX4_tellsSaying 25 = .ok (.aload_n 0, 1) := by decide +kernel
theorem dX4_tellsSaying_26 : decode cX4_tellsSaying 26 = .ok (.ldc 83, 2) := by decide +kernel
theorem dX4_tellsSaying_28 : decode cX4_tellsSaying 28 = .ok (.bipush 9, 2) := by decide +kernel
theorem dX4_tellsSaying_30 : decode cX4_tellsSaying 30 = .ok (.iconst 5, 1) := by decide +kernel
theorem dX4_tellsSaying_31 : decode cX4_tellsSaying 31 = .ok (.invokevirtual 85, 3) := by decide +kernel
theorem dX4_tellsSaying_34 : decode cX4_tellsSaying 34 = .ok (.istore_n 3, 1) := by decide +kernel
theorem dX4_tellsSaying_35 : decode cX4_tellsSaying 35 = .ok (.iconst 0, 1) := by decide +kernel
theorem dX4_tellsSaying_36 : decode cX4_tellsSaying 36 = .ok (.istore 4, 2) := by decide +kernel
theorem dX4_tellsSaying_38 : decode cX4_tellsSaying 38 = .ok (.aload_n 0, 1) := by decide +kernel
theorem dX4_tellsSaying_39 : decode cX4_tellsSaying 39 = .ok (.ldc 89, 2) := by decide +kernel
theorem dX4_tellsSaying_41 : decode cX4_tellsSaying 41 = .ok (.invokevirtual 50, 3) := by decide +kernel
theorem dX4_tellsSaying_44 : decode cX4_tellsSaying 44 = .ok (.ifCond .eq 10, 3) := by decide +kernel
theorem dX4_tellsSaying_47 : decode cX4_tellsSaying 47 = .ok (.iconst 1, 1) := by decide +kernel
theorem dX4_tellsSaying_48 : decode cX4_tellsSaying 48 = .ok (.istore 4, 2) := by decide +kernel
theorem dX4_tellsSaying_50 : decode cX4_tellsSaying 50 = .ok (.aload_n 0, 1) := by decide +kernel
theorem dX4_tellsSaying_51 : decode cX4_tellsSaying 51 = .ok (.invokevirtual 34, 3) := by decide +kernel
theorem dX4_tellsSaying_54 : decode cX4_tellsSaying 54 = .ok (.aload_n 1, 1) := by decide +kernel
theorem dX4_tellsSaying_55 : decode cX4_tellsSaying 55 = .ok (.iload_n 2, 1) := by decide +kernel
theorem dX4_tellsSaying_56 : decode cX4_tellsSaying 56 = .ok (.iload_n 3, 1) := by decide +kernel
theorem dX4_tellsSaying_57 : decode cX4_tellsSaying 57 = .ok (.iload 4, 2) := by decide +kernel
theorem dX4_tellsSaying_59 : decode cX4_tellsSaying 59 = .ok (.invokevirtual 91, 3) := by decide +kernel
theorem dX4_tellsSaying_62 : decode cX4_tellsSaying 62 = .ok (.pop, 1) := by decide +kernel
theorem dX4_tellsSaying_63 : decode cX4_tellsSaying 63 = .ok (.return_, 1) := by decide +kernel
theorem dX4_tellsHearer_0 : decode cX4_tellsHearer 0 = .ok (.aload_n 1, 1) := by decide +kernel
theorem dX4_tellsHearer_1 : decode cX4_tellsHearer 1 = .ok (.getfield 95, 3) := by decide +kernel
theorem dX4_tellsHearer_4 : decode cX4_tellsHearer 4 = .ok (.bipush 8, 2) := by decide +kernel
theorem dX4_tellsHearer_6 : decode cX4_tellsHearer 6 = .ok (.if_icmp .lt 8, 3) := by decide +kernel
theorem dX4_tellsHearer_9 : decode cX4_tellsHearer 9 = .ok (.aload_n 0, 1) := by decide +kernel
theorem dX4_tellsHearer_10 : decode cX4_tellsHearer 10 = .ok (.invokevirtual 74, 3) := by decide +kernel
theorem dX4_tellsHearer_13 : decode cX4_tellsHearer 13 = .ok (.return_, 1) := by decide +kernel
theorem dX4_tellsHearer_14 : decode cX4_tellsHearer 14 = .ok (.aload_n 0, 1) := by decide +kernel
theorem dX4_tellsHearer_15 : decode cX4_tellsHearer 15 = .ok (.invokevirtual 34, 3) := by decide +kernel
theorem dX4_tellsHearer_18 : decode cX4_tellsHearer 18 = .ok (.aload_n 0, 1) := by decide +kernel
theorem dX4_tellsHearer_19 : decode cX4_tellsHearer 19 = .ok (.ldc 98, 2) := by decide +kernel
theorem dX4_tellsHearer_21 : decode cX4_tellsHearer 21 = .ok (.bipush 99, 2) := by decide +kernel
theorem dX4_tellsHearer_23 : decode cX4_tellsHearer 23 = .ok (.iconst 3, 1) := by decide +kernel
theorem dX4_tellsHearer_24 : decode cX4_tellsHearer 24 = .ok (.invokevirtual 85, 3) := by decide +kernel
theorem dX4_tellsHearer_27 : decode cX4_tellsHearer 27 = .ok (.istore_n 3, 1) := by decide +kernel
theorem dX4_tellsHearer_28 : decode cX4_tellsHearer 28 = .ok (.aload_n 0, 1) := by decide +kernel
theorem dX4_tellsHearer_29 : decode cX4_tellsHearer 29 = .ok (.ldc 100, 2) := by decide +kernel
theorem dX4_tellsHearer_31 : decode cX4_tellsHearer 31 = .ok (.sipush 255, 3) := by decide +kernel
theorem dX4_tellsHearer_34 : decode cX4_tellsHearer 34 = .ok (.sipush 255, 3) := by decide +kernel
theorem dX4_tellsHearer_37 : decode cX4_tellsHearer 37 = .ok (.invokevirtual 85, 3) := by decide +kernel
theorem dX4_tellsHearer_40 : decode cX4_tellsHearer 40 = .ok (.istore 4, 2) := by decide +kernel
theorem dX4_tellsHearer_42 : decode cX4_tellsHearer 42 = .ok (.aload_n 1, 1) := by decide +kernel
theorem dX4_tellsHearer_43 : decode cX4_tellsHearer 43 = .ok (.iload_n 2, 1) := by decide +kernel
theorem dX4_tellsHearer_44 : decode cX4_tellsHearer 44 = .ok (.iload_n 3, 1) := by decide +kernel
theorem dX4_tellsHearer_45 : decode cX4_tellsHearer 45 = .ok (.iload 4, 2) := by decide +kernel
theorem dX4_tellsHearer_47 : decode cX4_tellsHearer 47 = .ok (.invokevirtual 102, 3) := by decide +kernel
theorem dX4_tellsHearer_50 : decode cX4_tellsHearer 50 = .ok (.pop, 1) := by decide +kernel
theorem dX4_tellsHearer_51 : decode cX4_tellsHearer 51 = .ok (.return_, 1) := by decide +kernel
theorem dX4_numberAfter_0 : decode cX4_numberAfter 0 = .ok (.aload_n 0, 1) := by decide +kernel
theorem dX4_numberAfter_1 : decode cX4_numberAfter 1 = .ok (.aload_n 1, 1) := by decide +kernel
theorem dX4_numberAfter_2 : decode cX4_numberAfter 2 = .ok (.invokevirtual 50, 3) := by decide +kernel
theorem dX4_numberAfter_5 : decode cX4_numberAfter 5 = .ok (.ifCond .ne 5, 3) := by decide +kernel
theorem dX4_numberAfter_8 : decode cX4_numberAfter 8 = .ok (.iload_n 3, 1) := by decide +kernel
theorem dX4_numberAfter_9 : decode cX4_numberAfter 9 = .ok (.ireturn, 1) := by decide +kernel
theorem dX4_numberAfter_10 : decode cX4_numberAfter 10 = .ok (.aload_n 0, 1) := by decide +kernel
theorem dX4_numberAfter_11 : decode cX4_numberAfter 11 = .ok (.invokevirtual 34, 3) := by decide +kernel
theorem dX4_numberAfter_14 : decode cX4_numberAfter 14 = .ok (.aload_n 0, 1) := by decide +kernel
theorem dX4_numberAfter_15 : decode cX4_numberAfter 15 = .ok (.iload_n 2, 1) := by decide +kernel
theorem dX4_numberAfter_16 : decode cX4_numberAfter 16 = .ok (.invokevirtual 70, 3) := by decide +kernel
theorem dX4_numberAfter_19 : decode cX4_numberAfter 19 = .ok (.ireturn, 1) := by decide +kernel
theorem dX4_number_0 : decode cX4_number 0 = .ok (.aload_n 0, 1) := by decide +kernel
theorem dX4_number_1 : decode cX4_number 1 = .ok (.getfield 25, 3) := by decide +kernel
theorem dX4_number_4 : decode cX4_number 4 = .ok (.iconst 2, 1) := by decide +kernel
theorem dX4_number_5 : decode cX4_number 5 = .ok (.if_icmp .ne 11, 3) := by decide +kernel
theorem dX4_number_8 : decode cX4_number 8 = .ok (.aload_n 0, 1) := by decide +kernel
theorem dX4_number_9 : decode cX4_number 9 = .ok (.getfield 28, 3) := by decide +kernel
theorem dX4_number_12 : decode cX4_number 12 = .ok (.iload_n 1, 1) := by decide +kernel
theorem dX4_number_13 : decode cX4_number 13 = .ok (.if_icmp .le 9, 3) := by decide +kernel
theorem dX4_number_16 : decode cX4_number 16 = .ok (.aload_n 0, 1) := by decide +kernel
theorem dX4_number_17 : decode cX4_number 17 = .ok (.invokevirtual 74, 3) := by decide +kernel
theorem dX4_number_20 : decode cX4_number 20 = .ok (.iconst 0, 1) := by decide +kernel
theorem dX4_number_21 : decode cX4_number 21 = .ok (.ireturn, 1) := by decide +kernel
theorem dX4_number_22 : decode cX4_number 22 = .ok (.aload_n 0, 1) := by decide +kernel
theorem dX4_number_23 : decode cX4_number 23 = .ok (.getfield 28, 3) := by decide +kernel
theorem dX4_number_26 : decode cX4_number 26 = .ok (.istore_n 2, 1) := by decide +kernel
theorem dX4_number_27 : decode cX4_number 27 = .ok (.aload_n 0, 1) := by decide +kernel
theorem dX4_number_28 : decode cX4_number 28 = .ok (.invokevirtual 34, 3) := by decide +kernel
theorem dX4_number_31 : decode cX4_number 31 = .ok (.iload_n 2, 1) := by decide +kernel
theorem dX4_number_32 : decode cX4_number 32 = .ok (.ireturn, 1) := by decide +kernel
theorem dX4_stops_0 : decode cX4_stops 0 = .ok (.aload_n 0, 1) := by decide +kernel
theorem dX4_stops_1 : decode cX4_stops 1 = .ok (.getfield 25, 3) := by decide +kernel
theorem dX4_stops_4 : decode cX4_stops 4 = .ok (.iconst 3, 1) := by decide +kernel
theorem dX4_stops_5 : decode cX4_stops 5 = .ok (.if_icmp .ne 10, 3) := by decide +kernel
theorem dX4_stops_8 : decode cX4_stops 8 = .ok (.aload_n 0, 1) := by decide +kernel
theorem dX4_stops_9 : decode cX4_stops 9 = .ok (.invokevirtual 34, 3) := by decide +kernel
theorem dX4_stops_12 : decode cX4_stops 12 = .ok (.goto 7, 3) := by decide +kernel
theorem dX4_stops_15 : decode cX4_stops 15 = .ok (.aload_n 0, 1) := by decide +kernel
theorem dX4_stops_16 : decode cX4_stops 16 = .ok (.invokevirtual 74, 3) := by decide +kernel
theorem dX4_stops_19 : decode cX4_stops 19 = .ok (.return_, 1) := by decide +kernel
theorem dX4_fails_0 : decode cX4_fails 0 = .ok (.aload_n 0, 1) := by decide +kernel
theorem dX4_fails_1 : decode cX4_fails 1 = .ok (.getfield 31, 3) := by decide +kernel
theorem dX4_fails_4 : decode cX4_fails 4 = .ok (.ifCond .ge 11, 3) := by decide +kernel
theorem dX4_fails_7 : decode cX4_fails 7 = .ok (.aload_n 0, 1) := by decide +kernel
theorem dX4_fails_8 : decode cX4_fails 8 = .ok (.aload_n 0, 1) := by decide +kernel
theorem dX4_fails_9 : decode cX4_fails 9 = .ok (.getfield 19, 3) := by decide +kernel
theorem dX4_fails_12 : decode cX4_fails 12 = .ok (.putfield 31, 3) := by decide +kernel
theorem dX4_fails_15 : decode cX4_fails 15 = .ok (.return_, 1) := by decide +kernel
theorem dX4_goesOn_0 : decode cX4_goesOn 0 = .ok (.aload_n 0, 1) := by decide +kernel
theorem dX4_goesOn_1 : decode cX4_goesOn 1 = .ok (.aload_n 0, 1) := by decide +kernel
theorem dX4_goesOn_2 : decode cX4_goesOn 2 = .ok (.getfield 22, 3) := by decide +kernel
theorem dX4_goesOn_5 : decode cX4_goesOn 5 = .ok (.putfield 19, 3) := by decide +kernel
theorem dX4_goesOn_8 : decode cX4_goesOn 8 = .ok (.aload_n 0, 1) := by decide +kernel
theorem dX4_goesOn_9 : decode cX4_goesOn 9 = .ok (.getfield 19, 3) := by decide +kernel
theorem dX4_goesOn_12 : decode cX4_goesOn 12 = .ok (.aload_n 0, 1) := by decide +kernel
theorem dX4_goesOn_13 : decode cX4_goesOn 13 = .ok (.getfield 15, 3) := by decide +kernel
theorem dX4_goesOn_16 : decode cX4_goesOn 16 = .ok (.if_icmp .ge 30, 3) := by decide +kernel
theorem dX4_goesOn_19 : decode cX4_goesOn 19 = .ok (.aload_n 0, 1) := by decide +kernel
theorem dX4_goesOn_20 : decode cX4_goesOn 20 = .ok (.getfield 9, 3) := by decide +kernel
theorem dX4_goesOn_23 : decode cX4_goesOn 23 = .ok (.aload_n 0, 1) := by decide +kernel
theorem dX4_goesOn_24 : decode cX4_goesOn 24 = .ok (.getfield 19, 3) := by decide +kernel
theorem dX4_goesOn_27 : decode cX4_goesOn 27 = .ok (.baload, 1) := by decide +kernel
theorem dX4_goesOn_28 : decode cX4_goesOn 28 = .ok (.bipush 32, 2) := by decide +kernel
theorem dX4_goesOn_30 : decode cX4_goesOn 30 = .ok (.if_icmp .ne 16, 3) := by decide +kernel
theorem dX4_goesOn_33 : decode cX4_goesOn 33 = .ok (.aload_n 0, 1) := by decide +kernel
theorem dX4_goesOn_34 : decode cX4_goesOn 34 = .ok (.dup, 1) := by decide +kernel
theorem dX4_goesOn_35 : decode cX4_goesOn 35 = .ok (.getfield 19, 3) := by decide +kernel
theorem dX4_goesOn_38 : decode cX4_goesOn 38 = .ok (.iconst 1, 1) := by decide +kernel
theorem dX4_goesOn_39 : decode cX4_goesOn 39 = .ok (.iadd, 1) := by decide +kernel
theorem dX4_goesOn_40 : decode cX4_goesOn 40 = .ok (.putfield 19, 3) := by decide +kernel
theorem dX4_goesOn_43 : decode cX4_goesOn 43 = .ok (.goto (-35), 3) := by decide +kernel
theorem dX4_goesOn_46 : decode cX4_goesOn 46 = .ok (.aload_n 0, 1) := by decide +kernel
theorem dX4_goesOn_47 : decode cX4_goesOn 47 = .ok (.aload_n 0, 1) := by decide +kernel
theorem dX4_goesOn_48 : decode cX4_goesOn 48 = .ok (.getfield 19, 3) := by decide +kernel
theorem dX4_goesOn_51 : decode cX4_goesOn 51 = .ok (.putfield 22, 3) := by decide +kernel
theorem dX4_goesOn_54 : decode cX4_goesOn 54 = .ok (.aload_n 0, 1) := by decide +kernel
theorem dX4_goesOn_55 : decode cX4_goesOn 55 = .ok (.getfield 19, 3) := by decide +kernel
theorem dX4_goesOn_58 : decode cX4_goesOn 58 = .ok (.aload_n 0, 1) := by decide +kernel
theorem dX4_goesOn_59 : decode cX4_goesOn 59 = .ok (.getfield 15, 3) := by decide +kernel
theorem dX4_goesOn_62 : decode cX4_goesOn 62 = .ok (.if_icmp .lt 11, 3) := by decide +kernel
theorem dX4_goesOn_65 : decode cX4_goesOn 65 = .ok (.aload_n 0, 1) := by decide +kernel
theorem dX4_goesOn_66 : decode cX4_goesOn 66 = .ok (.iconst 0, 1) := by decide +kernel
theorem dX4_goesOn_67 : decode cX4_goesOn 67 = .ok (.putfield 25, 3) := by decide +kernel
theorem dX4_goesOn_70 : decode cX4_goesOn 70 = .ok (.goto 202, 3) := by decide +kernel
theorem dX4_goesOn_73 : decode cX4_goesOn 73 = .ok (.aload_n 0, 1) := by decide +kernel
theorem dX4_goesOn_74 : decode cX4_goesOn 74 = .ok (.getfield 9, 3) := by decide +kernel
theorem dX4_goesOn_77 : decode cX4_goesOn 77 = .ok (.aload_n 0, 1) := by decide +kernel
theorem dX4_goesOn_78 : decode cX4_goesOn 78 = .ok (.getfield 19, 3) := by decide +kernel
theorem dX4_goesOn_81 : decode cX4_goesOn 81 = .ok (.baload, 1) := by decide +kernel
theorem dX4_goesOn_82 : decode cX4_goesOn 82 = .ok (.invokestatic 105, 3) := by decide +kernel
theorem dX4_goesOn_85 : decode cX4_goesOn 85 = .ok (.ifCond .eq 47, 3) := by decide +kernel
theorem dX4_goesOn_88 : decode cX4_goesOn 88 = .ok (.aload_n 0, 1) := by decide +kernel
theorem dX4_goesOn_89 : decode cX4_goesOn 89 = .ok (.iconst 1, 1) := by decide +kernel
theorem dX4_goesOn_90 : decode cX4_goesOn 90 = .ok (.putfield 25, 3) := by decide +kernel
theorem dX4_goesOn_93 : decode cX4_goesOn 93 = .ok (.aload_n 0, 1) := by decide +kernel
theorem dX4_goesOn_94 : decode cX4_goesOn 94 = .ok (.getfield 22, 3) := by decide +kernel
theorem dX4_goesOn_97 : decode cX4_goesOn 97 = .ok (.aload_n 0, 1) := by decide +kernel
theorem dX4_goesOn_98 : decode cX4_goesOn 98 = .ok (.getfield 15, 3) := by decide +kernel
theorem dX4_goesOn_101 : decode cX4_goesOn 101 = .ok (.if_icmp .ge 171, 3) := by decide +kernel
theorem dX4_goesOn_104 : decode cX4_goesOn 104 = .ok (.aload_n 0, 1) := by decide +kernel
theorem dX4_goesOn_105 : decode cX4_goesOn 105 = .ok (.getfield 9, 3) := by decide +kernel
theorem dX4_goesOn_108 : decode cX4_goesOn 108 = .ok (.aload_n 0, 1) := by decide +kernel
theorem dX4_goesOn_109 : decode cX4_goesOn 109 = .ok (.getfield 22, 3) := by decide +kernel
theorem dX4_goesOn_112 : decode cX4_goesOn 112 = .ok (.baload, 1) := by decide +kernel
theorem dX4_goesOn_113 : decode cX4_goesOn 113 = .ok (.invokestatic 105, 3) := by decide +kernel
theorem dX4_goesOn_116 : decode cX4_goesOn 116 = .ok (.ifCond .eq 156, 3) := by decide +kernel
theorem dX4_goesOn_119 : decode cX4_goesOn 119 = .ok (.aload_n 0, 1) := by decide +kernel
theorem dX4_goesOn_120 : decode cX4_goesOn 120 = .ok (.dup, 1) := by decide +kernel
theorem dX4_goesOn_121 : decode cX4_goesOn 121 = .ok (.getfield 22, 3) := by decide +kernel
theorem dX4_goesOn_124 : decode cX4_goesOn 124 = .ok (.iconst 1, 1) := by decide +kernel
theorem dX4_goesOn_125 : decode cX4_goesOn 125 = .ok (.iadd, 1) := by decide +kernel
theorem dX4_goesOn_126 : decode cX4_goesOn 126 = .ok (.putfield 22, 3) := by decide +kernel
theorem dX4_goesOn_129 : decode cX4_goesOn 129 = .ok (.goto (-36), 3) := by decide +kernel
theorem dX4_goesOn_132 : decode cX4_goesOn 132 = .ok (.aload_n 0, 1) := by decide +kernel
theorem dX4_goesOn_133 : decode cX4_goesOn 133 = .ok (.getfield 9, 3) := by decide +kernel
theorem dX4_goesOn_136 : decode cX4_goesOn 136 = .ok (.aload_n 0, 1) := by decide +kernel
theorem dX4_goesOn_137 : decode cX4_goesOn 137 = .ok (.getfield 19, 3) := by decide +kernel
theorem dX4_goesOn_140 : decode cX4_goesOn 140 = .ok (.baload, 1) := by decide +kernel
theorem dX4_goesOn_141 : decode cX4_goesOn 141 = .ok (.invokestatic 109, 3) := by decide +kernel
theorem dX4_goesOn_144 : decode cX4_goesOn 144 = .ok (.ifCond .eq 95, 3) := by decide +kernel
theorem dX4_goesOn_147 : decode cX4_goesOn 147 = .ok (.aload_n 0, 1) := by decide +kernel
theorem dX4_goesOn_148 : decode cX4_goesOn 148 = .ok (.iconst 2, 1) := by decide +kernel
theorem dX4_goesOn_149 : decode cX4_goesOn 149 = .ok (.putfield 25, 3) := by decide +kernel
theorem dX4_goesOn_152 : decode cX4_goesOn 152 = .ok (.aload_n 0, 1) := by decide +kernel
theorem dX4_goesOn_153 : decode cX4_goesOn 153 = .ok (.iconst 0, 1) := by decide +kernel
theorem dX4_goesOn_154 : decode cX4_goesOn 154 = .ok (.putfield 28, 3) := by decide +kernel
theorem dX4_goesOn_157 : decode cX4_goesOn 157 = .ok (.aload_n 0, 1) := by decide +kernel
theorem dX4_goesOn_158 : decode cX4_goesOn 158 = .ok (.getfield 22, 3) := by decide +kernel
theorem dX4_goesOn_161 : decode cX4_goesOn 161 = .ok (.aload_n 0, 1) := by decide +kernel
theorem dX4_goesOn_162 : decode cX4_goesOn 162 = .ok (.getfield 15, 3) := by decide +kernel
theorem dX4_goesOn_165 : decode cX4_goesOn 165 = .ok (.if_icmp .ge 107, 3) := by decide +kernel
theorem dX4_goesOn_168 : decode cX4_goesOn 168 = .ok (.aload_n 0, 1) := by decide +kernel
theorem dX4_goesOn_169 : decode cX4_goesOn 169 = .ok (.getfield 9, 3) := by decide +kernel
theorem dX4_goesOn_172 : decode cX4_goesOn 172 = .ok (.aload_n 0, 1) := by decide +kernel
theorem dX4_goesOn_173 : decode cX4_goesOn 173 = .ok (.getfield 22, 3) := by decide +kernel
theorem dX4_goesOn_176 : decode cX4_goesOn 176 = .ok (.baload, 1) := by decide +kernel
theorem dX4_goesOn_177 : decode cX4_goesOn 177 = .ok (.invokestatic 109, 3) := by decide +kernel
theorem dX4_goesOn_180 : decode cX4_goesOn 180 = .ok (.ifCond .eq 92, 3) := by decide +kernel
theorem dX4_goesOn_183 : decode cX4_goesOn 183 = .ok (.aload_n 0, 1) := by decide +kernel
theorem dX4_goesOn_184 : decode cX4_goesOn 184 = .ok (.aload_n 0, 1) := by decide +kernel
theorem dX4_goesOn_185 : decode cX4_goesOn 185 = .ok (.getfield 22, 3) := by decide +kernel
theorem dX4_goesOn_188 : decode cX4_goesOn 188 = .ok (.aload_n 0, 1) := by decide +kernel
theorem dX4_goesOn_189 : decode cX4_goesOn 189 = .ok (.getfield 19, 3) := by decide +kernel
theorem dX4_goesOn_192 : decode cX4_goesOn 192 = .ok (.isub, 1) := by decide +kernel
theorem dX4_goesOn_193 : decode cX4_goesOn 193 = .ok (.iconst 3, 1) := by decide +kernel
theorem dX4_goesOn_194 : decode cX4_goesOn 194 = .ok (.if_icmp .ge 26, 3) := by decide +kernel
theorem dX4_goesOn_197 : decode cX4_goesOn 197 = .ok (.aload_n 0, 1) := by decide +kernel
theorem dX4_goesOn_198 : decode cX4_goesOn 198 = .ok (.getfield 28, 3) := by decide +kernel
theorem dX4_goesOn_201 : decode cX4_goesOn 201 = .ok (.bipush 10, 2) := by decide +kernel
theorem dX4_goesOn_203 : decode cX4_goesOn 203 = .ok (.imul, 1) := by decide +kernel
theorem dX4_goesOn_204 : decode cX4_goesOn 204 = .ok (.aload_n 0, 1) := by decide +kernel
theorem dX4_goesOn_205 : decode cX4_goesOn 205 = .ok (.getfield 9, 3) := by decide +kernel
theorem dX4_goesOn_208 : decode cX4_goesOn 208 = .ok (.aload_n 0, 1) := by decide +kernel
theorem dX4_goesOn_209 : decode cX4_goesOn 209 = .ok (.getfield 22, 3) := by decide +kernel
theorem dX4_goesOn_212 : decode cX4_goesOn 212 = .ok (.baload, 1) := by decide +kernel
theorem dX4_goesOn_213 : decode cX4_goesOn 213 = .ok (.iadd, 1) := by decide +kernel
theorem dX4_goesOn_214 : decode cX4_goesOn 214 = .ok (.bipush 48, 2) := by decide +kernel
theorem dX4_goesOn_216 : decode cX4_goesOn 216 = .ok (.isub, 1) := by decide +kernel
theorem dX4_goesOn_217 : decode cX4_goesOn 217 = .ok (.goto 6, 3) := by decide +kernel
theorem dX4_goesOn_220 : decode cX4_goesOn 220 = .ok (.sipush 1000, 3) := by decide +kernel
theorem dX4_goesOn_223 : decode cX4_goesOn 223 = .ok (.putfield 28, 3) := by decide +kernel
theorem dX4_goesOn_226 : decode cX4_goesOn 226 = .ok (.aload_n 0, 1) := by decide +kernel
theorem dX4_goesOn_227 : decode cX4_goesOn 227 = .ok (.dup, 1) := by decide +kernel
theorem dX4_goesOn_228 : decode cX4_goesOn 228 = .ok (.getfield 22, 3) := by decide +kernel
theorem dX4_goesOn_231 : decode cX4_goesOn 231 = .ok (.iconst 1, 1) := by decide +kernel
theorem dX4_goesOn_232 : decode cX4_goesOn 232 = .ok (.iadd, 1) := by decide +kernel
theorem dX4_goesOn_233 : decode cX4_goesOn 233 = .ok (.putfield 22, 3) := by decide +kernel
theorem dX4_goesOn_236 : decode cX4_goesOn 236 = .ok (.goto (-79), 3) := by decide +kernel
theorem dX4_goesOn_239 : decode cX4_goesOn 239 = .ok (.aload_n 0, 1) := by decide +kernel
theorem dX4_goesOn_240 : decode cX4_goesOn 240 = .ok (.aload_n 0, 1) := by decide +kernel
theorem dX4_goesOn_241 : decode cX4_goesOn 241 = .ok (.getfield 9, 3) := by decide +kernel
theorem dX4_goesOn_244 : decode cX4_goesOn 244 = .ok (.aload_n 0, 1) := by decide +kernel
theorem dX4_goesOn_245 : decode cX4_goesOn 245 = .ok (.getfield 19, 3) := by decide +kernel
theorem dX4_goesOn_248 : decode cX4_goesOn 248 = .ok (.baload, 1) := by decide +kernel
theorem dX4_goesOn_249 : decode cX4_goesOn 249 = .ok (.bipush 59, 2) := by decide +kernel
theorem dX4_goesOn_251 : decode cX4_goesOn 251 = .ok (.if_icmp .ne 7, 3) := by decide +kernel
theorem dX4_goesOn_254 : decode cX4_goesOn 254 = .ok (.iconst 3, 1) := by decide +kernel
theorem dX4_goesOn_255 : decode cX4_goesOn 255 = .ok (.goto 4, 3) := by decide +kernel
theorem dX4_goesOn_258 : decode cX4_goesOn 258 = .ok (.iconst 4, 1) := by decide +kernel
theorem dX4_goesOn_259 : decode cX4_goesOn 259 = .ok (.putfield 25, 3) := by decide +kernel
theorem dX4_goesOn_262 : decode cX4_goesOn 262 = .ok (.aload_n 0, 1) := by decide +kernel
theorem dX4_goesOn_263 : decode cX4_goesOn 263 = .ok (.aload_n 0, 1) := by decide +kernel
theorem dX4_goesOn_264 : decode cX4_goesOn 264 = .ok (.getfield 19, 3) := by decide +kernel
theorem dX4_goesOn_267 : decode cX4_goesOn 267 = .ok (.iconst 1, 1) := by decide +kernel
theorem dX4_goesOn_268 : decode cX4_goesOn 268 = .ok (.iadd, 1) := by decide +kernel
theorem dX4_goesOn_269 : decode cX4_goesOn 269 = .ok (.putfield 22, 3) := by decide +kernel
theorem dX4_goesOn_272 : decode cX4_goesOn 272 = .ok (.return_, 1) := by decide +kernel
theorem dX4_isLetter_0 : decode cX4_isLetter 0 = .ok (.iload_n 0, 1) := by decide +kernel
theorem dX4_isLetter_1 : decode cX4_isLetter 1 = .ok (.bipush 97, 2) := by decide +kernel
theorem dX4_isLetter_3 : decode cX4_isLetter 3 = .ok (.if_icmp .lt 13, 3) := by decide +kernel
theorem dX4_isLetter_6 : decode cX4_isLetter 6 = .ok (.iload_n 0, 1) := by decide +kernel
theorem dX4_isLetter_7 : decode cX4_isLetter 7 = .ok (.bipush 122, 2) := by decide +kernel
theorem dX4_isLetter_9 : decode cX4_isLetter 9 = .ok (.if_icmp .gt 7, 3) := by decide +kernel
theorem dX4_isLetter_12 : decode cX4_isLetter 12 = .ok (.iconst 1, 1) := by decide +kernel
theorem dX4_isLetter_13 : decode cX4_isLetter 13 = .ok (.goto 4, 3) := by decide +kernel
theorem dX4_isLetter_16 : decode cX4_isLetter 16 = .ok (.iconst 0, 1) := by decide +kernel
theorem dX4_isLetter_17 : decode cX4_isLetter 17 = .ok (.ireturn, 1) := by decide +kernel
theorem dX4_isDigit_0 : decode cX4_isDigit 0 = .ok (.iload_n 0, 1) := by decide +kernel
theorem dX4_isDigit_1 : decode cX4_isDigit 1 = .ok (.bipush 48, 2) := by decide +kernel
theorem dX4_isDigit_3 : decode cX4_isDigit 3 = .ok (.if_icmp .lt 13, 3) := by decide +kernel
theorem dX4_isDigit_6 : decode cX4_isDigit 6 = .ok (.iload_n 0, 1) := by decide +kernel
theorem dX4_isDigit_7 : decode cX4_isDigit 7 = .ok (.bipush 57, 2) := by decide +kernel
theorem dX4_isDigit_9 : decode cX4_isDigit 9 = .ok (.if_icmp .gt 7, 3) := by decide +kernel
theorem dX4_isDigit_12 : decode cX4_isDigit 12 = .ok (.iconst 1, 1) := by decide +kernel
theorem dX4_isDigit_13 : decode cX4_isDigit 13 = .ok (.goto 4, 3) := by decide +kernel
theorem dX4_isDigit_16 : decode cX4_isDigit 16 = .ok (.iconst 0, 1) := by decide +kernel
theorem dX4_isDigit_17 : decode cX4_isDigit 17 = .ok (.ireturn, 1) := by decide +kernel
theorem dX4_isName_0 : decode cX4_isName 0 = .ok (.aload_n 0, 1) := by decide +kernel
theorem dX4_isName_1 : decode cX4_isName 1 = .ok (.getfield 25, 3) := by decide +kernel
theorem dX4_isName_4 : decode cX4_isName 4 = .ok (.iconst 1, 1) := by decide +kernel
theorem dX4_isName_5 : decode cX4_isName 5 = .ok (.if_icmp .ne 19, 3) := by decide +kernel
theorem dX4_isName_8 : decode cX4_isName 8 = .ok (.aload_n 0, 1) := by decide +kernel
theorem dX4_isName_9 : decode cX4_isName 9 = .ok (.getfield 22, 3) := by decide +kernel
theorem dX4_isName_12 : decode cX4_isName 12 = .ok (.aload_n 0, 1) := by decide +kernel
theorem dX4_isName_13 : decode cX4_isName 13 = .ok (.getfield 19, 3) := by decide +kernel
theorem dX4_isName_16 : decode cX4_isName 16 = .ok (.isub, 1) := by decide +kernel
theorem dX4_isName_17 : decode cX4_isName 17 = .ok (.aload_n 1, 1) := by decide +kernel
theorem dX4_isName_18 : decode cX4_isName 18 = .ok (.invokevirtual 112, 3) := by decide +kernel
theorem dX4_isName_21 : decode cX4_isName 21 = .ok (.if_icmp .eq 5, 3) := by decide +kernel
theorem dX4_isName_24 : decode cX4_isName 24 = .ok (.iconst 0, 1) := by decide +kernel
theorem dX4_isName_25 : decode cX4_isName 25 = .ok (.ireturn, 1) := by decide +kernel
theorem dX4_isName_26 : decode cX4_isName 26 = .ok (.iconst 0, 1) := by decide +kernel
theorem dX4_isName_27 : decode cX4_isName 27 = .ok (.istore_n 2, 1) := by decide +kernel
theorem dX4_isName_28 : decode cX4_isName 28 = .ok (.iload_n 2, 1) := by decide +kernel
theorem dX4_isName_29 : decode cX4_isName 29 = .ok (.aload_n 1, 1) := by decide +kernel
theorem dX4_isName_30 : decode cX4_isName 30 = .ok (.invokevirtual 112, 3) := by decide +kernel
theorem dX4_isName_33 : decode cX4_isName 33 = .ok (.if_icmp .ge 30, 3) := by decide +kernel
theorem dX4_isName_36 : decode cX4_isName 36 = .ok (.aload_n 0, 1) := by decide +kernel
theorem dX4_isName_37 : decode cX4_isName 37 = .ok (.getfield 9, 3) := by decide +kernel
theorem dX4_isName_40 : decode cX4_isName 40 = .ok (.aload_n 0, 1) := by decide +kernel
theorem dX4_isName_41 : decode cX4_isName 41 = .ok (.getfield 19, 3) := by decide +kernel
theorem dX4_isName_44 : decode cX4_isName 44 = .ok (.iload_n 2, 1) := by decide +kernel
theorem dX4_isName_45 : decode cX4_isName 45 = .ok (.iadd, 1) := by decide +kernel
theorem dX4_isName_46 : decode cX4_isName 46 = .ok (.baload, 1) := by decide +kernel
theorem dX4_isName_47 : decode cX4_isName 47 = .ok (.aload_n 1, 1) := by decide +kernel
theorem dX4_isName_48 : decode cX4_isName 48 = .ok (.iload_n 2, 1) := by decide +kernel
theorem dX4_isName_49 : decode cX4_isName 49 = .ok (.invokevirtual 116, 3) := by decide +kernel
theorem dX4_isName_52 : decode cX4_isName 52 = .ok (.if_icmp .eq 5, 3) := by decide +kernel
theorem dX4_isName_55 : decode cX4_isName 55 = .ok (.iconst 0, 1) := by decide +kernel
theorem dX4_isName_56 : decode cX4_isName 56 = .ok (.ireturn, 1) := by decide +kernel
theorem dX4_isName_57 : decode cX4_isName 57 = .ok (.iinc 2 1, 3) := by decide +kernel
theorem dX4_isName_60 : decode cX4_isName 60 = .ok (.goto (-32), 3) := by decide +kernel
theorem dX4_isName_63 : decode cX4_isName 63 = .ok (.iconst 1, 1) := by decide +kernel
theorem dX4_isName_64 : decode cX4_isName 64 = .ok (.ireturn, 1) := by decide +kernel
theorem dX4_kindNamed_0 : decode cX4_kindNamed 0 = .ok (.aload_n 0, 1) := by decide +kernel
theorem dX4_kindNamed_1 : decode cX4_kindNamed 1 = .ok (.ldc 120, 2) := by decide +kernel
theorem dX4_kindNamed_3 : decode cX4_kindNamed 3 = .ok (.invokevirtual 50, 3) := by decide +kernel
theorem dX4_kindNamed_6 : decode cX4_kindNamed 6 = .ok (.ifCond .eq 5, 3) := by decide +kernel
theorem dX4_kindNamed_9 : decode cX4_kindNamed 9 = .ok (.iconst 0, 1) := by decide +kernel
theorem dX4_kindNamed_10 : decode cX4_kindNamed 10 = .ok (.ireturn, 1) := by decide +kernel
theorem dX4_kindNamed_11 : decode cX4_kindNamed 11 = .ok (.aload_n 0, 1) := by decide +kernel
theorem dX4_kindNamed_12 : decode cX4_kindNamed 12 = .ok (.ldc 122, 2) := by decide +kernel
theorem dX4_kindNamed_14 : decode cX4_kindNamed 14 = .ok (.invokevirtual 50, 3) := by decide +kernel
theorem dX4_kindNamed_17 : decode cX4_kindNamed 17 = .ok (.ifCond .eq 5, 3) := by decide +kernel
theorem dX4_kindNamed_20 : decode cX4_kindNamed 20 = .ok (.iconst 1, 1) := by decide +kernel
theorem dX4_kindNamed_21 : decode cX4_kindNamed 21 = .ok (.ireturn, 1) := by decide +kernel
theorem dX4_kindNamed_22 : decode cX4_kindNamed 22 = .ok (.aload_n 0, 1) := by decide +kernel
theorem dX4_kindNamed_23 : decode cX4_kindNamed 23 = .ok (.ldc 124, 2) := by decide +kernel
theorem dX4_kindNamed_25 : decode cX4_kindNamed 25 = .ok (.invokevirtual 50, 3) := by decide +kernel
theorem dX4_kindNamed_28 : decode cX4_kindNamed 28 = .ok (.ifCond .eq 5, 3) := by decide +kernel
theorem dX4_kindNamed_31 : decode cX4_kindNamed 31 = .ok (.iconst 2, 1) := by decide +kernel
theorem dX4_kindNamed_32 : decode cX4_kindNamed 32 = .ok (.ireturn, 1) := by decide +kernel
theorem dX4_kindNamed_33 : decode cX4_kindNamed 33 = .ok (.aload_n 0, 1) := by decide +kernel
theorem dX4_kindNamed_34 : decode cX4_kindNamed 34 = .ok (.ldc 126, 2) := by decide +kernel
theorem dX4_kindNamed_36 : decode cX4_kindNamed 36 = .ok (.invokevirtual 50, 3) := by decide +kernel
theorem dX4_kindNamed_39 : decode cX4_kindNamed 39 = .ok (.ifCond .eq 5, 3) := by decide +kernel
theorem dX4_kindNamed_42 : decode cX4_kindNamed 42 = .ok (.iconst 3, 1) := by decide +kernel
theorem dX4_kindNamed_43 : decode cX4_kindNamed 43 = .ok (.ireturn, 1) := by decide +kernel
theorem dX4_kindNamed_44 : decode cX4_kindNamed 44 = .ok (.aload_n 0, 1) := by decide +kernel
theorem dX4_kindNamed_45 : decode cX4_kindNamed 45 = .ok (.ldc 128, 2) := by decide +kernel
theorem dX4_kindNamed_47 : decode cX4_kindNamed 47 = .ok (.invokevirtual 50, 3) := by decide +kernel
theorem dX4_kindNamed_50 : decode cX4_kindNamed 50 = .ok (.ifCond .eq 5, 3) := by decide +kernel
theorem dX4_kindNamed_53 : decode cX4_kindNamed 53 = .ok (.iconst 4, 1) := by decide +kernel
theorem dX4_kindNamed_54 : decode cX4_kindNamed 54 = .ok (.ireturn, 1) := by decide +kernel
theorem dX4_kindNamed_55 : decode cX4_kindNamed 55 = .ok (.aload_n 0, 1) := by decide +kernel
theorem dX4_kindNamed_56 : decode cX4_kindNamed 56 = .ok (.ldc 130, 2) := by decide +kernel
theorem dX4_kindNamed_58 : decode cX4_kindNamed 58 = .ok (.invokevirtual 50, 3) := by decide +kernel
theorem dX4_kindNamed_61 : decode cX4_kindNamed 61 = .ok (.ifCond .eq 7, 3) := by decide +kernel
theorem dX4_kindNamed_64 : decode cX4_kindNamed 64 = .ok (.iconst 5, 1) := by decide +kernel
theorem dX4_kindNamed_65 : decode cX4_kindNamed 65 = .ok (.goto 5, 3) := by decide +kernel
theorem dX4_kindNamed_68 : decode cX4_kindNamed 68 = .ok (.bipush (-3), 2) := by decide +kernel
theorem dX4_kindNamed_70 : decode cX4_kindNamed 70 = .ok (.ireturn, 1) := by decide +kernel
theorem dX4_lawNamed_0 : decode cX4_lawNamed 0 = .ok (.aload_n 0, 1) := by decide +kernel
theorem dX4_lawNamed_1 : decode cX4_lawNamed 1 = .ok (.ldc 132, 2) := by decide +kernel
theorem dX4_lawNamed_3 : decode cX4_lawNamed 3 = .ok (.invokevirtual 50, 3) := by decide +kernel
theorem dX4_lawNamed_6 : decode cX4_lawNamed 6 = .ok (.ifCond .eq 5, 3) := by decide +kernel
theorem dX4_lawNamed_9 : decode cX4_lawNamed 9 = .ok (.iconst 0, 1) := by decide +kernel
theorem dX4_lawNamed_10 : decode cX4_lawNamed 10 = .ok (.ireturn, 1) := by decide +kernel
theorem dX4_lawNamed_11 : decode cX4_lawNamed 11 = .ok (.aload_n 0, 1) := by decide +kernel
theorem dX4_lawNamed_12 : decode cX4_lawNamed 12 = .ok (.ldc 134, 2) := by decide +kernel
theorem dX4_lawNamed_14 : decode cX4_lawNamed 14 = .ok (.invokevirtual 50, 3) := by decide +kernel
theorem dX4_lawNamed_17 : decode cX4_lawNamed 17 = .ok (.ifCond .eq 5, 3) := by decide +kernel
theorem dX4_lawNamed_20 : decode cX4_lawNamed 20 = .ok (.iconst 1, 1) := by decide +kernel
theorem dX4_lawNamed_21 : decode cX4_lawNamed 21 = .ok (.ireturn, 1) := by decide +kernel
theorem dX4_lawNamed_22 : decode cX4_lawNamed 22 = .ok (.aload_n 0, 1) := by decide +kernel
theorem dX4_lawNamed_23 : decode cX4_lawNamed 23 = .ok (.ldc 136, 2) := by decide +kernel
theorem dX4_lawNamed_25 : decode cX4_lawNamed 25 = .ok (.invokevirtual 50, 3) := by decide +kernel
theorem dX4_lawNamed_28 : decode cX4_lawNamed 28 = .ok (.ifCond .eq 5, 3) := by decide +kernel
theorem dX4_lawNamed_31 : decode cX4_lawNamed 31 = .ok (.iconst 2, 1) := by decide +kernel
theorem dX4_lawNamed_32 : decode cX4_lawNamed 32 = .ok (.ireturn, 1) := by decide +kernel
theorem dX4_lawNamed_33 : decode cX4_lawNamed 33 = .ok (.aload_n 0, 1) := by decide +kernel
theorem dX4_lawNamed_34 : decode cX4_lawNamed 34 = .ok (.ldc 138, 2) := by decide +kernel
theorem dX4_lawNamed_36 : decode cX4_lawNamed 36 = .ok (.invokevirtual 50, 3) := by decide +kernel
theorem dX4_lawNamed_39 : decode cX4_lawNamed 39 = .ok (.ifCond .eq 7, 3) := by decide +kernel
theorem dX4_lawNamed_42 : decode cX4_lawNamed 42 = .ok (.iconst 3, 1) := by decide +kernel
theorem dX4_lawNamed_43 : decode cX4_lawNamed 43 = .ok (.goto 5, 3) := by decide +kernel
theorem dX4_lawNamed_46 : decode cX4_lawNamed 46 = .ok (.bipush (-3), 2) := by decide +kernel
theorem dX4_lawNamed_48 : decode cX4_lawNamed 48 = .ok (.ireturn, 1) := by decide +kernel
theorem dX5_init_0 : decode cX5_init 0 = .ok (.aload_n 0, 1) := by decide +kernel
theorem dX5_init_1 : decode cX5_init 1 = .ok (.invokespecial 1, 3) := by decide +kernel
theorem dX5_init_4 : decode cX5_init 4 = .ok (.aload_n 0, 1) := by decide +kernel
theorem dX5_init_5 : decode cX5_init 5 = .ok (.new 7, 3) := by decide +kernel
theorem dX5_init_8 : decode cX5_init 8 = .ok (.dup, 1) := by decide +kernel
theorem dX5_init_9 : decode cX5_init 9 = .ok (.invokespecial 9, 3) := by decide +kernel
theorem dX5_init_12 : decode cX5_init 12 = .ok (.putfield 10, 3) := by decide +kernel
theorem dX5_init_15 : decode cX5_init 15 = .ok (.aload_n 0, 1) := by decide +kernel
theorem dX5_init_16 : decode cX5_init 16 = .ok (.new 7, 3) := by decide +kernel
theorem dX5_init_19 : decode cX5_init 19 = .ok (.dup, 1) := by decide +kernel
theorem dX5_init_20 : decode cX5_init 20 = .ok (.invokespecial 9, 3) := by decide +kernel
theorem dX5_init_23 : decode cX5_init 23 = .ok (.putfield 16, 3) := by decide +kernel
theorem dX5_init_26 : decode cX5_init 26 = .ok (.aload_n 0, 1) := by decide +kernel
theorem dX5_init_27 : decode cX5_init 27 = .ok (.new 7, 3) := by decide +kernel
theorem dX5_init_30 : decode cX5_init 30 = .ok (.dup, 1) := by decide +kernel
theorem dX5_init_31 : decode cX5_init 31 = .ok (.invokespecial 9, 3) := by decide +kernel
theorem dX5_init_34 : decode cX5_init 34 = .ok (.putfield 19, 3) := by decide +kernel
theorem dX5_init_37 : decode cX5_init 37 = .ok (.aload_n 0, 1) := by decide +kernel
theorem dX5_init_38 : decode cX5_init 38 = .ok (.new 7, 3) := by decide +kernel
theorem dX5_init_41 : decode cX5_init 41 = .ok (.dup, 1) := by decide +kernel
theorem dX5_init_42 : decode cX5_init 42 = .ok (.invokespecial 9, 3) := by decide +kernel
theorem dX5_init_45 : decode cX5_init 45 = .ok (.putfield 22, 3) := by decide +kernel
theorem dX5_init_48 : decode cX5_init 48 = .ok (.aload_n 0, 1) := by decide +kernel
theorem dX5_init_49 : decode cX5_init 49 = .ok (.iconst 0, 1) := by decide +kernel
theorem dX5_init_50 : decode cX5_init 50 = .ok (.putfield 25, 3) := by decide +kernel
theorem dX5_init_53 : decode cX5_init 53 = .ok (.aload_n 0, 1) := by decide +kernel
theorem dX5_init_54 : decode cX5_init 54 = .ok (.new 29, 3) := by decide +kernel
theorem dX5_init_57 : decode cX5_init 57 = .ok (.dup, 1) := by decide +kernel
theorem dX5_init_58 : decode cX5_init 58 = .ok (.invokespecial 31, 3) := by decide +kernel
theorem dX5_init_61 : decode cX5_init 61 = .ok (.putfield 32, 3) := by decide +kernel
theorem dX5_init_64 : decode cX5_init 64 = .ok (.aload_n 0, 1) := by decide +kernel
theorem dX5_init_65 : decode cX5_init 65 = .ok (.bipush 30, 2) := by decide +kernel
theorem dX5_init_67 : decode cX5_init 67 = .ok (.newarray .int, 2) := by decide +kernel
theorem dX5_init_69 : decode cX5_init 69 = .ok (.putfield 36, 3) := by decide +kernel
theorem dX5_init_72 : decode cX5_init 72 = .ok (.aload_n 0, 1) := by decide +kernel
theorem dX5_init_73 : decode cX5_init 73 = .ok (.iconst 0, 1) := by decide +kernel
theorem dX5_init_74 : decode cX5_init 74 = .ok (.putfield 40, 3) := by decide +kernel
theorem dX5_init_77 : decode cX5_init 77 = .ok (.aload_n 0, 1) := by decide +kernel
theorem dX5_init_78 : decode cX5_init 78 = .ok (.iconst 4, 1) := by decide +kernel
theorem dX5_init_79 : decode cX5_init 79 = .ok (.anewarray 44, 3) := by decide +kernel
theorem dX5_init_82 : decode cX5_init 82 = .ok (.dup, 1) := by decide +kernel
theorem dX5_init_83 : decode cX5_init 83 = .ok (.iconst 0, 1) := by decide +kernel
theorem dX5_init_84 : decode cX5_init 84 = .ok (.new 44, 3) := by decide +kernel
theorem dX5_init_87 : decode cX5_init 87 = .ok (.dup, 1) := by decide +kernel
theorem dX5_init_88 : decode cX5_init 88 = .ok (.invokespecial 46, 3) := by decide +kernel
theorem dX5_init_91 : decode cX5_init 91 = .ok (.aastore, 1) := by decide +kernel
theorem dX5_init_92 : decode cX5_init 92 = .ok (.dup, 1) := by decide +kernel
theorem dX5_init_93 : decode cX5_init 93 = .ok (.iconst 1, 1) := by decide +kernel
theorem dX5_init_94 : decode cX5_init 94 = .ok (.new 44, 3) := by decide +kernel
theorem dX5_init_97 : decode cX5_init 97 = .ok (.dup, 1) := by decide +kernel
theorem dX5_init_98 : decode cX5_init 98 = .ok (.invokespecial 46, 3) := by decide +kernel
theorem dX5_init_101 : decode cX5_init 101 = .ok (.aastore, 1) := by decide +kernel
theorem dX5_init_102 : decode cX5_init 102 = .ok (.dup, 1) := by decide +kernel
theorem dX5_init_103 : decode cX5_init 103 = .ok (.iconst 2, 1) := by decide +kernel
theorem dX5_init_104 : decode cX5_init 104 = .ok (.new 44, 3) := by decide +kernel
theorem dX5_init_107 : decode cX5_init 107 = .ok (.dup, 1) := by decide +kernel
theorem dX5_init_108 : decode cX5_init 108 = .ok (.invokespecial 46, 3) := by decide +kernel
theorem dX5_init_111 : decode cX5_init 111 = .ok (.aastore, 1) := by decide +kernel
theorem dX5_init_112 : decode cX5_init 112 = .ok (.dup, 1) := by decide +kernel
theorem dX5_init_113 : decode cX5_init 113 = .ok (.iconst 3, 1) := by decide +kernel
theorem dX5_init_114 : decode cX5_init 114 = .ok (.new 44, 3) := by decide +kernel
theorem dX5_init_117 : decode cX5_init 117 = .ok (.dup, 1) := by decide +kernel
theorem dX5_init_118 : decode cX5_init 118 = .ok (.invokespecial 46, 3) := by decide +kernel
theorem dX5_init_121 : decode cX5_init 121 = .ok (.aastore, 1) := by decide +kernel
theorem dX5_init_122 : decode cX5_init 122 = .ok (.putfield 47, 3) := by decide +kernel
theorem dX5_init_125 : decode cX5_init 125 = .ok (.aload_n 0, 1) := by decide +kernel
theorem dX5_init_126 : decode cX5_init 126 = .ok (.iconst 4, 1) := by decide +kernel
theorem dX5_init_127 : decode cX5_init 127 = .ok (.anewarray 51, 3) := by decide +kernel
theorem dX5_init_130 : decode cX5_init 130 = .ok (.dup, 1) := by decide +kernel
theorem dX5_init_131 : decode cX5_init 131 = .ok (.iconst 0, 1) := by decide +kernel
theorem dX5_init_132 : decode cX5_init 132 = .ok (.new 51, 3) := by decide +kernel
theorem dX5_init_135 : decode cX5_init 135 = .ok (.dup, 1) := by decide +kernel
theorem dX5_init_136 : decode cX5_init 136 = .ok (.invokespecial 53, 3) := by decide +kernel
theorem dX5_init_139 : decode cX5_init 139 = .ok (.aastore, 1) := by decide +kernel
theorem dX5_init_140 : decode cX5_init 140 = .ok (.dup, 1) := by decide +kernel
theorem dX5_init_141 : decode cX5_init 141 = .ok (.iconst 1, 1) := by decide +kernel
theorem dX5_init_142 : decode cX5_init 142 = .ok (.new 51, 3) := by decide +kernel
theorem dX5_init_145 : decode cX5_init 145 = .ok (.dup, 1) := by decide +kernel
theorem dX5_init_146 : decode cX5_init 146 = .ok (.invokespecial 53, 3) := by decide +kernel
theorem dX5_init_149 : decode cX5_init 149 = .ok (.aastore, 1) := by decide +kernel
theorem dX5_init_150 : decode cX5_init 150 = .ok (.dup, 1) := by decide +kernel
theorem dX5_init_151 : decode cX5_init 151 = .ok (.iconst 2, 1) := by decide +kernel
theorem dX5_init_152 : decode cX5_init 152 = .ok (.new 51, 3) := by decide +kernel
theorem dX5_init_155 : decode cX5_init 155 = .ok (.dup, 1) := by decide +kernel
theorem dX5_init_156 : decode cX5_init 156 = .ok (.invokespecial 53, 3) := by decide +kernel
theorem dX5_init_159 : decode cX5_init 159 = .ok (.aastore, 1) := by decide +kernel
theorem dX5_init_160 : decode cX5_init 160 = .ok (.dup, 1) := by decide +kernel
theorem dX5_init_161 : decode cX5_init 161 = .ok (.iconst 3, 1) := by decide +kernel
theorem dX5_init_162 : decode cX5_init 162 = .ok (.new 51, 3) := by decide +kernel
theorem dX5_init_165 : decode cX5_init 165 = .ok (.dup, 1) := by decide +kernel
theorem dX5_init_166 : decode cX5_init 166 = .ok (.invokespecial 53, 3) := by decide +kernel
theorem dX5_init_169 : decode cX5_init 169 = .ok (.aastore, 1) := by decide +kernel
theorem dX5_init_170 : decode cX5_init 170 = .ok (.putfield 54, 3) := by decide +kernel
theorem dX5_init_173 : decode cX5_init 173 = .ok (.aload_n 0, 1) := by decide +kernel
theorem dX5_init_174 : decode cX5_init 174 = .ok (.new 58, 3) := by decide +kernel
theorem dX5_init_177 : decode cX5_init 177 = .ok (.dup, 1) := by decide +kernel
theorem dX5_init_178 : decode cX5_init 178 = .ok (.invokespecial 60, 3) := by decide +kernel
theorem dX5_init_181 : decode cX5_init 181 = .ok (.putfield 61, 3) := by decide +kernel
theorem dX5_init_184 : decode cX5_init 184 = .ok (.return_, 1) := by decide +kernel
theorem dX5_feed_0 : decode cX5_feed 0 = .ok (.iload_n 3, 1) := by decide +kernel
theorem dX5_feed_1 : decode cX5_feed 1 = .ok (.iconst 1, 1) := by decide +kernel
theorem dX5_feed_2 : decode cX5_feed 2 = .ok (.bipush 8, 2) := by decide +kernel
theorem dX5_feed_4 : decode cX5_feed 4 = .ok (.invokestatic 65, 3) := by decide +kernel
theorem dX5_feed_7 : decode cX5_feed 7 = .ok (.ifCond .ne 5, 3) := by decide +kernel
theorem dX5_feed_10 : decode cX5_feed 10 = .ok (.iconst (-1), 1) := by decide +kernel
theorem dX5_feed_11 : decode cX5_feed 11 = .ok (.ireturn, 1) := by decide +kernel
theorem dX5_feed_12 : decode cX5_feed 12 = .ok (.aload_n 0, 1) := by decide +kernel
theorem dX5_feed_13 : decode cX5_feed 13 = .ok (.getfield 32, 3) := by decide +kernel
theorem dX5_feed_16 : decode cX5_feed 16 = .ok (.lload_n 1, 1) := by decide +kernel
theorem dX5_feed_17 : decode cX5_feed 17 = .ok (.iload_n 3, 1) := by decide +kernel
theorem dX5_feed_18 : decode cX5_feed 18 = .ok (.invokevirtual 69, 3) := by decide +kernel
theorem dX5_feed_21 : decode cX5_feed 21 = .ok (.ifCond .eq 13, 3) := by decide +kernel
theorem dX5_feed_24 : decode cX5_feed 24 = .ok (.aload_n 0, 1) := by decide +kernel
theorem dX5_feed_25 : decode cX5_feed 25 = .ok (.getfield 32, 3) := by decide +kernel
theorem dX5_feed_28 : decode cX5_feed 28 = .ok (.getfield 73, 3) := by decide +kernel
theorem dX5_feed_31 : decode cX5_feed 31 = .ok (.goto 5, 3) := by decide +kernel
theorem dX5_feed_34 : decode cX5_feed 34 = .ok (.bipush (-2), 2) := by decide +kernel
theorem dX5_feed_36 : decode cX5_feed 36 = .ok (.ireturn, 1) := by decide +kernel
theorem dX5_court_0 : decode cX5_court 0 = .ok (.aload_n 0, 1) := by decide +kernel
theorem dX5_court_1 : decode cX5_court 1 = .ok (.getfield 22, 3) := by decide +kernel
theorem dX5_court_4 : decode cX5_court 4 = .ok (.invokevirtual 76, 3) := by decide +kernel
theorem dX5_court_7 : decode cX5_court 7 = .ok (.aload_n 0, 1) := by decide +kernel
theorem dX5_court_8 : decode cX5_court 8 = .ok (.getfield 32, 3) := by decide +kernel
theorem dX5_court_11 : decode cX5_court 11 = .ok (.aload_n 0, 1) := by decide +kernel
theorem dX5_court_12 : decode cX5_court 12 = .ok (.getfield 22, 3) := by decide +kernel
theorem dX5_court_15 : decode cX5_court 15 = .ok (.invokevirtual 79, 3) := by decide +kernel
theorem dX5_court_18 : decode cX5_court 18 = .ok (.istore_n 1, 1) := by decide +kernel
theorem dX5_court_19 : decode cX5_court 19 = .ok (.aload_n 0, 1) := by decide +kernel
theorem dX5_court_20 : decode cX5_court 20 = .ok (.getfield 32, 3) := by decide +kernel
theorem dX5_court_23 : decode cX5_court 23 = .ok (.iconst 0, 1) := by decide +kernel
theorem dX5_court_24 : decode cX5_court 24 = .ok (.putfield 73, 3) := by decide +kernel
theorem dX5_court_27 : decode cX5_court 27 = .ok (.iload_n 1, 1) := by decide +kernel
theorem dX5_court_28 : decode cX5_court 28 = .ok (.ifCond .lt 8, 3) := by decide +kernel
theorem dX5_court_31 : decode cX5_court 31 = .ok (.bipush (-100), 2) := by decide +kernel
theorem dX5_court_33 : decode cX5_court 33 = .ok (.iload_n 1, 1) := by decide +kernel
theorem dX5_court_34 : decode cX5_court 34 = .ok (.isub, 1) := by decide +kernel
theorem dX5_court_35 : decode cX5_court 35 = .ok (.ireturn, 1) := by decide +kernel
theorem dX5_court_36 : decode cX5_court 36 = .ok (.aload_n 0, 1) := by decide +kernel
theorem dX5_court_37 : decode cX5_court 37 = .ok (.getfield 22, 3) := by decide +kernel
theorem dX5_court_40 : decode cX5_court 40 = .ok (.aload_n 0, 1) := by decide +kernel
theorem dX5_court_41 : decode cX5_court 41 = .ok (.getfield 10, 3) := by decide +kernel
theorem dX5_court_44 : decode cX5_court 44 = .ok (.getfield 83, 3) := by decide +kernel
theorem dX5_court_47 : decode cX5_court 47 = .ok (.putfield 83, 3) := by decide +kernel
theorem dX5_court_50 : decode cX5_court 50 = .ok (.aload_n 0, 1) := by decide +kernel
theorem dX5_court_51 : decode cX5_court 51 = .ok (.getfield 10, 3) := by decide +kernel
theorem dX5_court_54 : decode cX5_court 54 = .ok (.aload_n 0, 1) := by decide +kernel
theorem dX5_court_55 : decode cX5_court 55 = .ok (.getfield 22, 3) := by decide +kernel
theorem dX5_court_58 : decode cX5_court 58 = .ok (.invokevirtual 86, 3) := by decide +kernel
theorem dX5_court_61 : decode cX5_court 61 = .ok (.aload_n 0, 1) := by decide +kernel
theorem dX5_court_62 : decode cX5_court 62 = .ok (.iconst 0, 1) := by decide +kernel
theorem dX5_court_63 : decode cX5_court 63 = .ok (.putfield 40, 3) := by decide +kernel
theorem dX5_court_66 : decode cX5_court 66 = .ok (.aload_n 0, 1) := by decide +kernel
theorem dX5_court_67 : decode cX5_court 67 = .ok (.getfield 10, 3) := by decide +kernel
theorem dX5_court_70 : decode cX5_court 70 = .ok (.getfield 90, 3) := by decide +kernel
theorem dX5_court_73 : decode cX5_court 73 = .ok (.ireturn, 1) := by decide +kernel
theorem dX5_set_0 : decode cX5_set 0 = .ok (.iload_n 1, 1) := by decide +kernel
theorem dX5_set_1 : decode cX5_set 1 = .ok (.invokestatic 93, 3) := by decide +kernel
theorem dX5_set_4 : decode cX5_set 4 = .ok (.ifCond .eq 16, 3) := by decide +kernel
theorem dX5_set_7 : decode cX5_set 7 = .ok (.iload_n 2, 1) := by decide +kernel
theorem dX5_set_8 : decode cX5_set 8 = .ok (.iconst 0, 1) := by decide +kernel
theorem dX5_set_9 : decode cX5_set 9 = .ok (.getstatic 97, 3) := by decide +kernel
theorem dX5_set_12 : decode cX5_set 12 = .ok (.iload_n 1, 1) := by decide +kernel
theorem dX5_set_13 : decode cX5_set 13 = .ok (.iaload, 1) := by decide +kernel
theorem dX5_set_14 : decode cX5_set 14 = .ok (.invokestatic 65, 3) := by decide +kernel
theorem dX5_set_17 : decode cX5_set 17 = .ok (.ifCond .ne 5, 3) := by decide +kernel
theorem dX5_set_20 : decode cX5_set 20 = .ok (.iconst (-1), 1) := by decide +kernel
theorem dX5_set_21 : decode cX5_set 21 = .ok (.ireturn, 1) := by decide +kernel
theorem dX5_set_22 : decode cX5_set 22 = .ok (.aload_n 0, 1) := by decide +kernel
theorem dX5_set_23 : decode cX5_set 23 = .ok (.getfield 10, 3) := by decide +kernel
theorem dX5_set_26 : decode cX5_set 26 = .ok (.getfield 100, 3) := by decide +kernel
theorem dX5_set_29 : decode cX5_set 29 = .ok (.iload_n 1, 1) := by decide +kernel
theorem dX5_set_30 : decode cX5_set 30 = .ok (.iaload, 1) := by decide +kernel
theorem dX5_set_31 : decode cX5_set 31 = .ok (.istore_n 3, 1) := by decide +kernel
theorem dX5_set_32 : decode cX5_set 32 = .ok (.aload_n 0, 1) := by decide +kernel
theorem dX5_set_33 : decode cX5_set 33 = .ok (.getfield 10, 3) := by decide +kernel
theorem dX5_set_36 : decode cX5_set 36 = .ok (.getfield 100, 3) := by decide +kernel
theorem dX5_set_39 : decode cX5_set 39 = .ok (.iload_n 1, 1) := by decide +kernel
theorem dX5_set_40 : decode cX5_set 40 = .ok (.iload_n 2, 1) := by decide +kernel
theorem dX5_set_41 : decode cX5_set 41 = .ok (.iastore, 1) := by decide +kernel
theorem dX5_set_42 : decode cX5_set 42 = .ok (.iload_n 3, 1) := by decide +kernel
theorem dX5_set_43 : decode cX5_set 43 = .ok (.ireturn, 1) := by decide +kernel
theorem dX5_lawOf_0 : decode cX5_lawOf 0 = .ok (.iload_n 1, 1) := by decide +kernel
theorem dX5_lawOf_1 : decode cX5_lawOf 1 = .ok (.invokestatic 93, 3) := by decide +kernel
theorem dX5_lawOf_4 : decode cX5_lawOf 4 = .ok (.ifCond .eq 15, 3) := by decide +kernel
theorem dX5_lawOf_7 : decode cX5_lawOf 7 = .ok (.aload_n 0, 1) := by decide +kernel
theorem dX5_lawOf_8 : decode cX5_lawOf 8 = .ok (.getfield 10, 3) := by decide +kernel
theorem dX5_lawOf_11 : decode cX5_lawOf 11 = .ok (.getfield 100, 3) := by decide +kernel
theorem dX5_lawOf_14 : decode cX5_lawOf 14 = .ok (.iload_n 1, 1) := by decide +kernel
theorem dX5_lawOf_15 : decode cX5_lawOf 15 = .ok (.iaload, 1) := by decide +kernel
theorem dX5_lawOf_16 : decode cX5_lawOf 16 = .ok (.goto 4, 3) := by decide +kernel
theorem dX5_lawOf_19 : decode cX5_lawOf 19 = .ok (.iconst (-1), 1) := by decide +kernel
theorem dX5_lawOf_20 : decode cX5_lawOf 20 = .ok (.ireturn, 1) := by decide +kernel
theorem dX5_saying_0 : decode cX5_saying 0 = .ok (.iload_n 1, 1) := by decide +kernel
theorem dX5_saying_1 : decode cX5_saying 1 = .ok (.iconst 0, 1) := by decide +kernel
theorem dX5_saying_2 : decode cX5_saying 2 = .ok (.bipush 7, 2) := by decide +kernel
theorem dX5_saying_4 : decode cX5_saying 4 = .ok (.invokestatic 65, 3) := by decide +kernel
theorem dX5_saying_7 : decode cX5_saying 7 = .ok (.ifCond .eq 22, 3) := by decide +kernel
theorem dX5_saying_10 : decode cX5_saying 10 = .ok (.iload_n 2, 1) := by decide +kernel
theorem dX5_saying_11 : decode cX5_saying 11 = .ok (.iconst 0, 1) := by decide +kernel
theorem dX5_saying_12 : decode cX5_saying 12 = .ok (.bipush 9, 2) := by decide +kernel
theorem dX5_saying_14 : decode cX5_saying 14 = .ok (.invokestatic 65, 3) := by decide +kernel
theorem dX5_saying_17 : decode cX5_saying 17 = .ok (.ifCond .eq 12, 3) := by decide +kernel
theorem dX5_saying_20 : decode cX5_saying 20 = .ok (.iload_n 3, 1) := by decide +kernel
theorem dX5_saying_21 : decode cX5_saying 21 = .ok (.iconst 0, 1) := by decide +kernel
theorem dX5_saying_22 : decode cX5_saying 22 = .ok (.iconst 1, 1) := by decide +kernel
theorem dX5_saying_23 : decode cX5_saying 23 = .ok (.invokestatic 65, 3) := by decide +kernel
theorem dX5_saying_26 : decode cX5_saying 26 = .ok (.ifCond .ne 5, 3) := by decide +kernel
theorem dX5_saying_29 : decode cX5_saying 29 = .ok (.iconst (-1), 1) := by decide +kernel
theorem dX5_saying_30 : decode cX5_saying 30 = .ok (.ireturn, 1) := by decide +kernel
theorem dX5_saying_31 : decode cX5_saying 31 = .ok (.aload_n 0, 1) := by decide +kernel
theorem dX5_saying_32 : decode cX5_saying 32 = .ok (.getfield 10, 3) := by decide +kernel
theorem dX5_saying_35 : decode cX5_saying 35 = .ok (.getfield 103, 3) := by decide +kernel
theorem dX5_saying_38 : decode cX5_saying 38 = .ok (.bipush 12, 2) := by decide +kernel
theorem dX5_saying_40 : decode cX5_saying 40 = .ok (.if_icmp .lt 6, 3) := by decide +kernel
theorem dX5_saying_43 : decode cX5_saying 43 = .ok (.bipush (-2), 2) := by decide +kernel
theorem dX5_saying_45 : decode cX5_saying 45 = .ok (.ireturn, 1) := by decide +kernel
theorem dX5_saying_46 : decode cX5_saying 46 = .ok (.aload_n 0, 1) := by decide +kernel
theorem dX5_saying_47 : decode cX5_saying 47 = .ok (.getfield 10, 3) := by decide +kernel
theorem dX5_saying_50 : decode cX5_saying 50 = .ok (.iload_n 1, 1) := by decide +kernel
theorem dX5_saying_51 : decode cX5_saying 51 = .ok (.iload_n 2, 1) := by decide +kernel
theorem dX5_saying_52 : decode cX5_saying 52 = .ok (.iload_n 3, 1) := by decide +kernel
theorem dX5_saying_53 : decode cX5_saying 53 = .ok (.invokevirtual 106, 3) := by decide +kernel
theorem dX5_saying_56 : decode cX5_saying 56 = .ok (.pop, 1) := by decide +kernel
theorem dX5_saying_57 : decode cX5_saying 57 = .ok (.aload_n 0, 1) := by decide +kernel
theorem dX5_saying_58 : decode cX5_saying 58 = .ok (.getfield 10, 3) := by decide +kernel
theorem dX5_saying_61 : decode cX5_saying 61 = .ok (.getfield 103, 3) := by decide +kernel
theorem dX5_saying_64 : decode cX5_saying 64 = .ok (.iconst 1, 1) := by decide +kernel
theorem dX5_saying_65 : decode cX5_saying 65 = .ok (.isub, 1) := by decide +kernel
theorem dX5_saying_66 : decode cX5_saying 66 = .ok (.ireturn, 1) := by decide +kernel
theorem dX5_sayingOf_0 : decode cX5_sayingOf 0 = .ok (.aload_n 0, 1) := by decide +kernel
theorem dX5_sayingOf_1 : decode cX5_sayingOf 1 = .ok (.iload_n 1, 1) := by decide +kernel
theorem dX5_sayingOf_2 : decode cX5_sayingOf 2 = .ok (.invokevirtual 109, 3) := by decide +kernel
theorem dX5_sayingOf_5 : decode cX5_sayingOf 5 = .ok (.ifCond .ne 5, 3) := by decide +kernel
theorem dX5_sayingOf_8 : decode cX5_sayingOf 8 = .ok (.iconst (-1), 1) := by decide +kernel
theorem dX5_sayingOf_9 : decode cX5_sayingOf 9 = .ok (.ireturn, 1) := by decide +kernel
theorem dX5_sayingOf_10 : decode cX5_sayingOf 10 = .ok (.iload_n 2, 1) := by decide +kernel
theorem dX5_sayingOf_11 : decode cX5_sayingOf 11 = .ok (.tableswitch 68 0 3 #[29, 39, 49, 59], 29) := by decide +kernel
theorem dX5_sayingOf_40 : decode cX5_sayingOf 40 = .ok (.aload_n 0, 1) := by decide +kernel
theorem dX5_sayingOf_41 : decode cX5_sayingOf 41 = .ok (.getfield 10, 3) := by decide +kernel
theorem dX5_sayingOf_44 : decode cX5_sayingOf 44 = .ok (.getfield 112, 3) := by decide +kernel
theorem dX5_sayingOf_47 : decode cX5_sayingOf 47 = .ok (.iload_n 1, 1) := by decide +kernel
theorem dX5_sayingOf_48 : decode cX5_sayingOf 48 = .ok (.iaload, 1) := by decide +kernel
theorem dX5_sayingOf_49 : decode cX5_sayingOf 49 = .ok (.ireturn, 1) := by decide +kernel
theorem dX5_sayingOf_50 : decode cX5_sayingOf 50 = .ok (.aload_n 0, 1) := by decide +kernel
theorem dX5_sayingOf_51 : decode cX5_sayingOf 51 = .ok (.getfield 10, 3) := by decide +kernel
theorem dX5_sayingOf_54 : decode cX5_sayingOf 54 = .ok (.getfield 115, 3) := by decide +kernel
theorem dX5_sayingOf_57 : decode cX5_sayingOf 57 = .ok (.iload_n 1, 1) := by decide +kernel
theorem dX5_sayingOf_58 : decode cX5_sayingOf 58 = .ok (.iaload, 1) := by decide +kernel
theorem dX5_sayingOf_59 : decode cX5_sayingOf 59 = .ok (.ireturn, 1) := by decide +kernel
theorem dX5_sayingOf_60 : decode cX5_sayingOf 60 = .ok (.aload_n 0, 1) := by decide +kernel
theorem dX5_sayingOf_61 : decode cX5_sayingOf 61 = .ok (.getfield 10, 3) := by decide +kernel
theorem dX5_sayingOf_64 : decode cX5_sayingOf 64 = .ok (.getfield 118, 3) := by decide +kernel
theorem dX5_sayingOf_67 : decode cX5_sayingOf 67 = .ok (.iload_n 1, 1) := by decide +kernel
theorem dX5_sayingOf_68 : decode cX5_sayingOf 68 = .ok (.iaload, 1) := by decide +kernel
theorem dX5_sayingOf_69 : decode cX5_sayingOf 69 = .ok (.ireturn, 1) := by decide +kernel
theorem dX5_sayingOf_70 : decode cX5_sayingOf 70 = .ok (.aload_n 0, 1) := by decide +kernel
theorem dX5_sayingOf_71 : decode cX5_sayingOf 71 = .ok (.getfield 10, 3) := by decide +kernel
theorem dX5_sayingOf_74 : decode cX5_sayingOf 74 = .ok (.iload_n 1, 1) := by decide +kernel
theorem dX5_sayingOf_75 : decode cX5_sayingOf 75 = .ok (.invokevirtual 121, 3) := by decide +kernel
theorem dX5_sayingOf_78 : decode cX5_sayingOf 78 = .ok (.ireturn, 1) := by decide +kernel
theorem dX5_sayingOf_79 : decode cX5_sayingOf 79 = .ok (.iconst (-1), 1) := by decide +kernel
theorem dX5_sayingOf_80 : decode cX5_sayingOf 80 = .ok (.ireturn, 1) := by decide +kernel
theorem dX5_alter_0 : decode cX5_alter 0 = .ok (.aload_n 0, 1) := by decide +kernel
theorem dX5_alter_1 : decode cX5_alter 1 = .ok (.iload_n 1, 1) := by decide +kernel
theorem dX5_alter_2 : decode cX5_alter 2 = .ok (.invokevirtual 109, 3) := by decide +kernel
theorem dX5_alter_5 : decode cX5_alter 5 = .ok (.ifCond .ne 5, 3) := by decide +kernel
theorem dX5_alter_8 : decode cX5_alter 8 = .ok (.iconst (-1), 1) := by decide +kernel
theorem dX5_alter_9 : decode cX5_alter 9 = .ok (.ireturn, 1) := by decide +kernel
theorem dX5_alter_10 : decode cX5_alter 10 = .ok (.iload_n 2, 1) := by decide +kernel
theorem dX5_alter_11 : decode cX5_alter 11 = .ok (.tableswitch 69 0 2 #[25, 40, 55], 25) := by decide +kernel
theorem dX5_alter_36 : decode cX5_alter 36 = .ok (.aload_n 0, 1) := by decide +kernel
theorem dX5_alter_37 : decode cX5_alter 37 = .ok (.getfield 10, 3) := by decide +kernel
theorem dX5_alter_40 : decode cX5_alter 40 = .ok (.getfield 112, 3) := by decide +kernel
theorem dX5_alter_43 : decode cX5_alter 43 = .ok (.iload_n 1, 1) := by decide +kernel
theorem dX5_alter_44 : decode cX5_alter 44 = .ok (.iload_n 3, 1) := by decide +kernel
theorem dX5_alter_45 : decode cX5_alter 45 = .ok (.bipush 7, 2) := by decide +kernel
theorem dX5_alter_47 : decode cX5_alter 47 = .ok (.invokestatic 125, 3) := by decide +kernel
theorem dX5_alter_50 : decode cX5_alter 50 = .ok (.ireturn, 1) := by decide +kernel
theorem dX5_alter_51 : decode cX5_alter 51 = .ok (.aload_n 0, 1) := by decide +kernel
theorem dX5_alter_52 : decode cX5_alter 52 = .ok (.getfield 10, 3) := by decide +kernel
theorem dX5_alter_55 : decode cX5_alter 55 = .ok (.getfield 115, 3) := by decide +kernel
theorem dX5_alter_58 : decode cX5_alter 58 = .ok (.iload_n 1, 1) := by decide +kernel
theorem dX5_alter_59 : decode cX5_alter 59 = .ok (.iload_n 3, 1) := by decide +kernel
theorem dX5_alter_60 : decode cX5_alter 60 = .ok (.bipush 9, 2) := by decide +kernel
theorem dX5_alter_62 : decode cX5_alter 62 = .ok (.invokestatic 125, 3) := by decide +kernel
theorem dX5_alter_65 : decode cX5_alter 65 = .ok (.ireturn, 1) := by decide +kernel
theorem dX5_alter_66 : decode cX5_alter 66 = .ok (.aload_n 0, 1) := by decide +kernel
theorem dX5_alter_67 : decode cX5_alter 67 = .ok (.getfield 10, 3) := by decide +kernel
theorem dX5_alter_70 : decode cX5_alter 70 = .ok (.getfield 118, 3) := by decide +kernel
theorem dX5_alter_73 : decode cX5_alter 73 = .ok (.iload_n 1, 1) := by decide +kernel
theorem dX5_alter_74 : decode cX5_alter 74 = .ok (.iload_n 3, 1) := by decide +kernel
theorem dX5_alter_75 : decode cX5_alter 75 = .ok (.iconst 1, 1) := by decide +kernel
theorem dX5_alter_76 : decode cX5_alter 76 = .ok (.invokestatic 125, 3) := by decide +kernel
theorem dX5_alter_79 : decode cX5_alter 79 = .ok (.ireturn, 1) := by decide +kernel
theorem dX5_alter_80 : decode cX5_alter 80 = .ok (.iconst (-1), 1) := by decide +kernel
theorem dX5_alter_81 : decode cX5_alter 81 = .ok (.ireturn, 1) := by decide +kernel
theorem dX5_hearer_0 : decode cX5_hearer 0 = .ok (.iload_n 1, 1) := by decide +kernel
theorem dX5_hearer_1 : decode cX5_hearer 1 = .ok (.invokestatic 129, 3) := by decide +kernel
theorem dX5_hearer_4 : decode cX5_hearer 4 = .ok (.ifCond .eq 24, 3) := by decide +kernel
theorem dX5_hearer_7 : decode cX5_hearer 7 = .ok (.iload_n 2, 1) := by decide +kernel
theorem dX5_hearer_8 : decode cX5_hearer 8 = .ok (.iconst 0, 1) := by decide +kernel
theorem dX5_hearer_9 : decode cX5_hearer 9 = .ok (.bipush 99, 2) := by decide +kernel
theorem dX5_hearer_11 : decode cX5_hearer 11 = .ok (.invokestatic 65, 3) := by decide +kernel
theorem dX5_hearer_14 : decode cX5_hearer 14 = .ok (.ifCond .eq 14, 3) := by decide +kernel
theorem dX5_hearer_17 : decode cX5_hearer 17 = .ok (.iload_n 3, 1) := by decide +kernel
theorem dX5_hearer_18 : decode cX5_hearer 18 = .ok (.iconst 0, 1) := by decide +kernel
theorem dX5_hearer_19 : decode cX5_hearer 19 = .ok (.sipush 255, 3) := by decide +kernel
theorem dX5_hearer_22 : decode cX5_hearer 22 = .ok (.invokestatic 65, 3) := by decide +kernel
theorem dX5_hearer_25 : decode cX5_hearer 25 = .ok (.ifCond .ne 5, 3) := by decide +kernel
theorem dX5_hearer_28 : decode cX5_hearer 28 = .ok (.iconst (-1), 1) := by decide +kernel
theorem dX5_hearer_29 : decode cX5_hearer 29 = .ok (.ireturn, 1) := by decide +kernel
theorem dX5_hearer_30 : decode cX5_hearer 30 = .ok (.aload_n 0, 1) := by decide +kernel
theorem dX5_hearer_31 : decode cX5_hearer 31 = .ok (.getfield 10, 3) := by decide +kernel
theorem dX5_hearer_34 : decode cX5_hearer 34 = .ok (.getfield 90, 3) := by decide +kernel
theorem dX5_hearer_37 : decode cX5_hearer 37 = .ok (.bipush 8, 2) := by decide +kernel
theorem dX5_hearer_39 : decode cX5_hearer 39 = .ok (.if_icmp .lt 6, 3) := by decide +kernel
theorem dX5_hearer_42 : decode cX5_hearer 42 = .ok (.bipush (-2), 2) := by decide +kernel
theorem dX5_hearer_44 : decode cX5_hearer 44 = .ok (.ireturn, 1) := by decide +kernel
theorem dX5_hearer_45 : decode cX5_hearer 45 = .ok (.aload_n 0, 1) := by decide +kernel
theorem dX5_hearer_46 : decode cX5_hearer 46 = .ok (.getfield 10, 3) := by decide +kernel
theorem dX5_hearer_49 : decode cX5_hearer 49 = .ok (.iload_n 1, 1) := by decide +kernel
theorem dX5_hearer_50 : decode cX5_hearer 50 = .ok (.iload_n 2, 1) := by decide +kernel
theorem dX5_hearer_51 : decode cX5_hearer 51 = .ok (.iload_n 3, 1) := by decide +kernel
theorem dX5_hearer_52 : decode cX5_hearer 52 = .ok (.invokevirtual 132, 3) := by decide +kernel
theorem dX5_hearer_55 : decode cX5_hearer 55 = .ok (.pop, 1) := by decide +kernel
theorem dX5_hearer_56 : decode cX5_hearer 56 = .ok (.aload_n 0, 1) := by decide +kernel
theorem dX5_hearer_57 : decode cX5_hearer 57 = .ok (.getfield 10, 3) := by decide +kernel
theorem dX5_hearer_60 : decode cX5_hearer 60 = .ok (.getfield 90, 3) := by decide +kernel
theorem dX5_hearer_63 : decode cX5_hearer 63 = .ok (.iconst 1, 1) := by decide +kernel
theorem dX5_hearer_64 : decode cX5_hearer 64 = .ok (.isub, 1) := by decide +kernel
theorem dX5_hearer_65 : decode cX5_hearer 65 = .ok (.ireturn, 1) := by decide +kernel
theorem dX5_of_0 : decode cX5_of 0 = .ok (.aload_n 0, 1) := by decide +kernel
theorem dX5_of_1 : decode cX5_of 1 = .ok (.iload_n 1, 1) := by decide +kernel
theorem dX5_of_2 : decode cX5_of 2 = .ok (.invokevirtual 135, 3) := by decide +kernel
theorem dX5_of_5 : decode cX5_of 5 = .ok (.ifCond .ne 5, 3) := by decide +kernel
theorem dX5_of_8 : decode cX5_of 8 = .ok (.iconst (-1), 1) := by decide +kernel
theorem dX5_of_9 : decode cX5_of 9 = .ok (.ireturn, 1) := by decide +kernel
theorem dX5_of_10 : decode cX5_of 10 = .ok (.iload_n 2, 1) := by decide +kernel
theorem dX5_of_11 : decode cX5_of 11 = .ok (.tableswitch 69 0 3 #[29, 39, 49, 59], 29) := by decide +kernel
theorem dX5_of_40 : decode cX5_of 40 = .ok (.aload_n 0, 1) := by decide +kernel
theorem dX5_of_41 : decode cX5_of 41 = .ok (.getfield 10, 3) := by decide +kernel
theorem dX5_of_44 : decode cX5_of 44 = .ok (.getfield 138, 3) := by decide +kernel
theorem dX5_of_47 : decode cX5_of 47 = .ok (.iload_n 1, 1) := by decide +kernel
theorem dX5_of_48 : decode cX5_of 48 = .ok (.iaload, 1) := by decide +kernel
theorem dX5_of_49 : decode cX5_of 49 = .ok (.ireturn, 1) := by decide +kernel
theorem dX5_of_50 : decode cX5_of 50 = .ok (.aload_n 0, 1) := by decide +kernel
theorem dX5_of_51 : decode cX5_of 51 = .ok (.getfield 10, 3) := by decide +kernel
theorem dX5_of_54 : decode cX5_of 54 = .ok (.getfield 141, 3) := by decide +kernel
theorem dX5_of_57 : decode cX5_of 57 = .ok (.iload_n 1, 1) := by decide +kernel
theorem dX5_of_58 : decode cX5_of 58 = .ok (.iaload, 1) := by decide +kernel
theorem dX5_of_59 : decode cX5_of 59 = .ok (.ireturn, 1) := by decide +kernel
theorem dX5_of_60 : decode cX5_of 60 = .ok (.aload_n 0, 1) := by decide +kernel
theorem dX5_of_61 : decode cX5_of 61 = .ok (.getfield 10, 3) := by decide +kernel
theorem dX5_of_64 : decode cX5_of 64 = .ok (.getfield 144, 3) := by decide +kernel
theorem dX5_of_67 : decode cX5_of 67 = .ok (.iload_n 1, 1) := by decide +kernel
theorem dX5_of_68 : decode cX5_of 68 = .ok (.iaload, 1) := by decide +kernel
theorem dX5_of_69 : decode cX5_of 69 = .ok (.ireturn, 1) := by decide +kernel
theorem dX5_of_70 : decode cX5_of 70 = .ok (.aload_n 0, 1) := by decide +kernel
theorem dX5_of_71 : decode cX5_of 71 = .ok (.getfield 10, 3) := by decide +kernel
theorem dX5_of_74 : decode cX5_of 74 = .ok (.getfield 147, 3) := by decide +kernel
theorem dX5_of_77 : decode cX5_of 77 = .ok (.iload_n 1, 1) := by decide +kernel
theorem dX5_of_78 : decode cX5_of 78 = .ok (.iaload, 1) := by decide +kernel
theorem dX5_of_79 : decode cX5_of 79 = .ok (.ireturn, 1) := by decide +kernel
theorem dX5_of_80 : decode cX5_of 80 = .ok (.iconst (-1), 1) := by decide +kernel
theorem dX5_of_81 : decode cX5_of 81 = .ok (.ireturn, 1) := by decide +kernel
theorem dX5_does_0 : decode cX5_does 0 = .ok (.aload_n 0, 1) := by decide +kernel
theorem dX5_does_1 : decode cX5_does 1 = .ok (.iload_n 1, 1) := by decide +kernel
theorem dX5_does_2 : decode cX5_does 2 = .ok (.invokevirtual 135, 3) := by decide +kernel
theorem dX5_does_5 : decode cX5_does 5 = .ok (.ifCond .ne 5, 3) := by decide +kernel
theorem dX5_does_8 : decode cX5_does 8 = .ok (.iconst (-1), 1) := by decide +kernel
theorem dX5_does_9 : decode cX5_does 9 = .ok (.ireturn, 1) := by decide +kernel
theorem dX5_does_10 : decode cX5_does 10 = .ok (.iload_n 2, 1) := by decide +kernel
theorem dX5_does_11 : decode cX5_does 11 = .ok (.tableswitch 85 0 2 #[25, 59, 72], 25) := by decide +kernel
theorem dX5_does_36 : decode cX5_does 36 = .ok (.sipush 1000, 3) := by decide +kernel
theorem dX5_does_39 : decode cX5_does 39 = .ok (.aload_n 0, 1) := by decide +kernel
theorem dX5_does_40 : decode cX5_does 40 = .ok (.getfield 10, 3) := by decide +kernel
theorem dX5_does_43 : decode cX5_does 43 = .ok (.invokevirtual 150, 3) := by decide +kernel
theorem dX5_does_46 : decode cX5_does 46 = .ok (.ifCond .le 21, 3) := by decide +kernel
theorem dX5_does_49 : decode cX5_does 49 = .ok (.aload_n 0, 1) := by decide +kernel
theorem dX5_does_50 : decode cX5_does 50 = .ok (.getfield 10, 3) := by decide +kernel
theorem dX5_does_53 : decode cX5_does 53 = .ok (.iload_n 1, 1) := by decide +kernel
theorem dX5_does_54 : decode cX5_does 54 = .ok (.aload_n 0, 1) := by decide +kernel
theorem dX5_does_55 : decode cX5_does 55 = .ok (.getfield 10, 3) := by decide +kernel
theorem dX5_does_58 : decode cX5_does 58 = .ok (.getfield 154, 3) := by decide +kernel
theorem dX5_does_61 : decode cX5_does 61 = .ok (.invokevirtual 157, 3) := by decide +kernel
theorem dX5_does_64 : decode cX5_does 64 = .ok (.goto 4, 3) := by decide +kernel
theorem dX5_does_67 : decode cX5_does 67 = .ok (.iconst 0, 1) := by decide +kernel
theorem dX5_does_68 : decode cX5_does 68 = .ok (.iadd, 1) := by decide +kernel
theorem dX5_does_69 : decode cX5_does 69 = .ok (.ireturn, 1) := by decide +kernel
theorem dX5_does_70 : decode cX5_does 70 = .ok (.sipush 1000, 3) := by decide +kernel
theorem dX5_does_73 : decode cX5_does 73 = .ok (.aload_n 0, 1) := by decide +kernel
theorem dX5_does_74 : decode cX5_does 74 = .ok (.getfield 10, 3) := by decide +kernel
theorem dX5_does_77 : decode cX5_does 77 = .ok (.iload_n 1, 1) := by decide +kernel
theorem dX5_does_78 : decode cX5_does 78 = .ok (.invokevirtual 161, 3) := by decide +kernel
theorem dX5_does_81 : decode cX5_does 81 = .ok (.iadd, 1) := by decide +kernel
theorem dX5_does_82 : decode cX5_does 82 = .ok (.ireturn, 1) := by decide +kernel
theorem dX5_does_83 : decode cX5_does 83 = .ok (.sipush 1000, 3) := by decide +kernel
theorem dX5_does_86 : decode cX5_does 86 = .ok (.aload_n 0, 1) := by decide +kernel
theorem dX5_does_87 : decode cX5_does 87 = .ok (.getfield 10, 3) := by decide +kernel
theorem dX5_does_90 : decode cX5_does 90 = .ok (.iload_n 1, 1) := by decide +kernel
theorem dX5_does_91 : decode cX5_does 91 = .ok (.invokevirtual 164, 3) := by decide +kernel
theorem dX5_does_94 : decode cX5_does 94 = .ok (.iadd, 1) := by decide +kernel
theorem dX5_does_95 : decode cX5_does 95 = .ok (.ireturn, 1) := by decide +kernel
theorem dX5_does_96 : decode cX5_does 96 = .ok (.iconst (-1), 1) := by decide +kernel
theorem dX5_does_97 : decode cX5_does 97 = .ok (.ireturn, 1) := by decide +kernel
theorem dX5_mind_0 : decode cX5_mind 0 = .ok (.aload_n 0, 1) := by decide +kernel
theorem dX5_mind_1 : decode cX5_mind 1 = .ok (.iload_n 1, 1) := by decide +kernel
theorem dX5_mind_2 : decode cX5_mind 2 = .ok (.invokevirtual 135, 3) := by decide +kernel
theorem dX5_mind_5 : decode cX5_mind 5 = .ok (.ifCond .eq 21, 3) := by decide +kernel
theorem dX5_mind_8 : decode cX5_mind 8 = .ok (.iload_n 2, 1) := by decide +kernel
theorem dX5_mind_9 : decode cX5_mind 9 = .ok (.invokestatic 129, 3) := by decide +kernel
theorem dX5_mind_12 : decode cX5_mind 12 = .ok (.ifCond .eq 14, 3) := by decide +kernel
theorem dX5_mind_15 : decode cX5_mind 15 = .ok (.iload_n 3, 1) := by decide +kernel
theorem dX5_mind_16 : decode cX5_mind 16 = .ok (.iconst 0, 1) := by decide +kernel
theorem dX5_mind_17 : decode cX5_mind 17 = .ok (.sipush 255, 3) := by decide +kernel
theorem dX5_mind_20 : decode cX5_mind 20 = .ok (.invokestatic 65, 3) := by decide +kernel
theorem dX5_mind_23 : decode cX5_mind 23 = .ok (.ifCond .ne 5, 3) := by decide +kernel
theorem dX5_mind_26 : decode cX5_mind 26 = .ok (.iconst (-1), 1) := by decide +kernel
theorem dX5_mind_27 : decode cX5_mind 27 = .ok (.ireturn, 1) := by decide +kernel
theorem dX5_mind_28 : decode cX5_mind 28 = .ok (.aload_n 0, 1) := by decide +kernel
theorem dX5_mind_29 : decode cX5_mind 29 = .ok (.getfield 10, 3) := by decide +kernel
theorem dX5_mind_32 : decode cX5_mind 32 = .ok (.getfield 138, 3) := by decide +kernel
theorem dX5_mind_35 : decode cX5_mind 35 = .ok (.iload_n 1, 1) := by decide +kernel
theorem dX5_mind_36 : decode cX5_mind 36 = .ok (.iaload, 1) := by decide +kernel
theorem dX5_mind_37 : decode cX5_mind 37 = .ok (.istore 4, 2) := by decide +kernel
theorem dX5_mind_39 : decode cX5_mind 39 = .ok (.aload_n 0, 1) := by decide +kernel
theorem dX5_mind_40 : decode cX5_mind 40 = .ok (.getfield 10, 3) := by decide +kernel
theorem dX5_mind_43 : decode cX5_mind 43 = .ok (.getfield 138, 3) := by decide +kernel
theorem dX5_mind_46 : decode cX5_mind 46 = .ok (.iload_n 1, 1) := by decide +kernel
theorem dX5_mind_47 : decode cX5_mind 47 = .ok (.iload_n 2, 1) := by decide +kernel
theorem dX5_mind_48 : decode cX5_mind 48 = .ok (.iastore, 1) := by decide +kernel
theorem dX5_mind_49 : decode cX5_mind 49 = .ok (.aload_n 0, 1) := by decide +kernel
theorem dX5_mind_50 : decode cX5_mind 50 = .ok (.getfield 10, 3) := by decide +kernel
theorem dX5_mind_53 : decode cX5_mind 53 = .ok (.getfield 144, 3) := by decide +kernel
theorem dX5_mind_56 : decode cX5_mind 56 = .ok (.iload_n 1, 1) := by decide +kernel
theorem dX5_mind_57 : decode cX5_mind 57 = .ok (.iload_n 3, 1) := by decide +kernel
theorem dX5_mind_58 : decode cX5_mind 58 = .ok (.iastore, 1) := by decide +kernel
theorem dX5_mind_59 : decode cX5_mind 59 = .ok (.iload 4, 2) := by decide +kernel
theorem dX5_mind_61 : decode cX5_mind 61 = .ok (.ireturn, 1) := by decide +kernel
theorem dX5_tender_0 : decode cX5_tender 0 = .ok (.aload_n 0, 1) := by decide +kernel
theorem dX5_tender_1 : decode cX5_tender 1 = .ok (.iload_n 1, 1) := by decide +kernel
theorem dX5_tender_2 : decode cX5_tender 2 = .ok (.invokevirtual 135, 3) := by decide +kernel
theorem dX5_tender_5 : decode cX5_tender 5 = .ok (.ifCond .eq 20, 3) := by decide +kernel
theorem dX5_tender_8 : decode cX5_tender 8 = .ok (.aload_n 0, 1) := by decide +kernel
theorem dX5_tender_9 : decode cX5_tender 9 = .ok (.getfield 10, 3) := by decide +kernel
theorem dX5_tender_12 : decode cX5_tender 12 = .ok (.getfield 141, 3) := by decide +kernel
theorem dX5_tender_15 : decode cX5_tender 15 = .ok (.iload_n 1, 1) := by decide +kernel
theorem dX5_tender_16 : decode cX5_tender 16 = .ok (.iload_n 2, 1) := by decide +kernel
theorem dX5_tender_17 : decode cX5_tender 17 = .ok (.bipush 99, 2) := by decide +kernel
theorem dX5_tender_19 : decode cX5_tender 19 = .ok (.invokestatic 125, 3) := by decide +kernel
theorem dX5_tender_22 : decode cX5_tender 22 = .ok (.goto 4, 3) := by decide +kernel
theorem dX5_tender_25 : decode cX5_tender 25 = .ok (.iconst (-1), 1) := by decide +kernel
theorem dX5_tender_26 : decode cX5_tender 26 = .ok (.ireturn, 1) := by decide +kernel
theorem dX5_say_0 : decode cX5_say 0 = .ok (.iload_n 1, 1) := by decide +kernel
theorem dX5_say_1 : decode cX5_say 1 = .ok (.iconst 1, 1) := by decide +kernel
theorem dX5_say_2 : decode cX5_say 2 = .ok (.bipush 60, 2) := by decide +kernel
theorem dX5_say_4 : decode cX5_say 4 = .ok (.invokestatic 65, 3) := by decide +kernel
theorem dX5_say_7 : decode cX5_say 7 = .ok (.ifCond .eq 17, 3) := by decide +kernel
theorem dX5_say_10 : decode cX5_say 10 = .ok (.aload_n 0, 1) := by decide +kernel
theorem dX5_say_11 : decode cX5_say 11 = .ok (.getfield 10, 3) := by decide +kernel
theorem dX5_say_14 : decode cX5_say 14 = .ok (.iload_n 1, 1) := by decide +kernel
theorem dX5_say_15 : decode cX5_say 15 = .ok (.sipush 255, 3) := by decide +kernel
theorem dX5_say_18 : decode cX5_say 18 = .ok (.invokevirtual 167, 3) := by decide +kernel
theorem dX5_say_21 : decode cX5_say 21 = .ok (.goto 4, 3) := by decide +kernel
theorem dX5_say_24 : decode cX5_say 24 = .ok (.iconst (-1), 1) := by decide +kernel
theorem dX5_say_25 : decode cX5_say 25 = .ok (.ireturn, 1) := by decide +kernel
theorem dX5_anew_0 : decode cX5_anew 0 = .ok (.aload_n 0, 1) := by decide +kernel
theorem dX5_anew_1 : decode cX5_anew 1 = .ok (.getfield 10, 3) := by decide +kernel
theorem dX5_anew_4 : decode cX5_anew 4 = .ok (.getfield 154, 3) := by decide +kernel
theorem dX5_anew_7 : decode cX5_anew 7 = .ok (.istore_n 1, 1) := by decide +kernel
theorem dX5_anew_8 : decode cX5_anew 8 = .ok (.aload_n 0, 1) := by decide +kernel
theorem dX5_anew_9 : decode cX5_anew 9 = .ok (.getfield 10, 3) := by decide +kernel
theorem dX5_anew_12 : decode cX5_anew 12 = .ok (.iconst 0, 1) := by decide +kernel
theorem dX5_anew_13 : decode cX5_anew 13 = .ok (.putfield 154, 3) := by decide +kernel
theorem dX5_anew_16 : decode cX5_anew 16 = .ok (.iconst 0, 1) := by decide +kernel
theorem dX5_anew_17 : decode cX5_anew 17 = .ok (.istore_n 2, 1) := by decide +kernel
theorem dX5_anew_18 : decode cX5_anew 18 = .ok (.iload_n 2, 1) := by decide +kernel
theorem dX5_anew_19 : decode cX5_anew 19 = .ok (.aload_n 0, 1) := by decide +kernel
theorem dX5_anew_20 : decode cX5_anew 20 = .ok (.getfield 10, 3) := by decide +kernel
theorem dX5_anew_23 : decode cX5_anew 23 = .ok (.getfield 90, 3) := by decide +kernel
theorem dX5_anew_26 : decode cX5_anew 26 = .ok (.if_icmp .ge 19, 3) := by decide +kernel
theorem dX5_anew_29 : decode cX5_anew 29 = .ok (.aload_n 0, 1) := by decide +kernel
theorem dX5_anew_30 : decode cX5_anew 30 = .ok (.getfield 10, 3) := by decide +kernel
theorem dX5_anew_33 : decode cX5_anew 33 = .ok (.getfield 147, 3) := by decide +kernel
theorem dX5_anew_36 : decode cX5_anew 36 = .ok (.iload_n 2, 1) := by decide +kernel
theorem dX5_anew_37 : decode cX5_anew 37 = .ok (.iconst 0, 1) := by decide +kernel
theorem dX5_anew_38 : decode cX5_anew 38 = .ok (.iastore, 1) := by decide +kernel
theorem dX5_anew_39 : decode cX5_anew 39 = .ok (.iinc 2 1, 3) := by decide +kernel
theorem dX5_anew_42 : decode cX5_anew 42 = .ok (.goto (-24), 3) := by decide +kernel
theorem dX5_anew_45 : decode cX5_anew 45 = .ok (.iload_n 1, 1) := by decide +kernel
theorem dX5_anew_46 : decode cX5_anew 46 = .ok (.ireturn, 1) := by decide +kernel
theorem dX5_seed_0 : decode cX5_seed 0 = .ok (.aload_n 0, 1) := by decide +kernel
theorem dX5_seed_1 : decode cX5_seed 1 = .ok (.getfield 10, 3) := by decide +kernel
theorem dX5_seed_4 : decode cX5_seed 4 = .ok (.getfield 83, 3) := by decide +kernel
theorem dX5_seed_7 : decode cX5_seed 7 = .ok (.istore_n 2, 1) := by decide +kernel
theorem dX5_seed_8 : decode cX5_seed 8 = .ok (.aload_n 0, 1) := by decide +kernel
theorem dX5_seed_9 : decode cX5_seed 9 = .ok (.getfield 10, 3) := by decide +kernel
theorem dX5_seed_12 : decode cX5_seed 12 = .ok (.iload_n 1, 1) := by decide +kernel
theorem dX5_seed_13 : decode cX5_seed 13 = .ok (.putfield 83, 3) := by decide +kernel
theorem dX5_seed_16 : decode cX5_seed 16 = .ok (.iload_n 2, 1) := by decide +kernel
theorem dX5_seed_17 : decode cX5_seed 17 = .ok (.ireturn, 1) := by decide +kernel
theorem dX5_draught_0 : decode cX5_draught 0 = .ok (.aload_n 0, 1) := by decide +kernel
theorem dX5_draught_1 : decode cX5_draught 1 = .ok (.getfield 10, 3) := by decide +kernel
theorem dX5_draught_4 : decode cX5_draught 4 = .ok (.invokevirtual 150, 3) := by decide +kernel
theorem dX5_draught_7 : decode cX5_draught 7 = .ok (.ifCond .ne 6, 3) := by decide +kernel
theorem dX5_draught_10 : decode cX5_draught 10 = .ok (.bipush (-3), 2) := by decide +kernel
theorem dX5_draught_12 : decode cX5_draught 12 = .ok (.ireturn, 1) := by decide +kernel
theorem dX5_draught_13 : decode cX5_draught 13 = .ok (.aload_n 0, 1) := by decide +kernel
theorem dX5_draught_14 : decode cX5_draught 14 = .ok (.getfield 10, 3) := by decide +kernel
theorem dX5_draught_17 : decode cX5_draught 17 = .ok (.sipush 255, 3) := by decide +kernel
theorem dX5_draught_20 : decode cX5_draught 20 = .ok (.invokevirtual 170, 3) := by decide +kernel
theorem dX5_draught_23 : decode cX5_draught 23 = .ok (.aload_n 0, 1) := by decide +kernel
theorem dX5_draught_24 : decode cX5_draught 24 = .ok (.getfield 10, 3) := by decide +kernel
theorem dX5_draught_27 : decode cX5_draught 27 = .ok (.invokevirtual 173, 3) := by decide +kernel
theorem dX5_draught_30 : decode cX5_draught 30 = .ok (.ior, 1) := by decide +kernel
theorem dX5_draught_31 : decode cX5_draught 31 = .ok (.istore_n 1, 1) := by decide +kernel
theorem dX5_draught_32 : decode cX5_draught 32 = .ok (.aload_n 0, 1) := by decide +kernel
theorem dX5_draught_33 : decode cX5_draught 33 = .ok (.getfield 10, 3) := by decide +kernel
theorem dX5_draught_36 : decode cX5_draught 36 = .ok (.iload_n 1, 1) := by decide +kernel
theorem dX5_draught_37 : decode cX5_draught 37 = .ok (.invokevirtual 176, 3) := by decide +kernel
theorem dX5_draught_40 : decode cX5_draught 40 = .ok (.iload_n 1, 1) := by decide +kernel
theorem dX5_draught_41 : decode cX5_draught 41 = .ok (.ireturn, 1) := by decide +kernel
theorem dX5_chills_0 : decode cX5_chills 0 = .ok (.iload_n 1, 1) := by decide +kernel
theorem dX5_chills_1 : decode cX5_chills 1 = .ok (.iconst 1, 1) := by decide +kernel
theorem dX5_chills_2 : decode cX5_chills 2 = .ok (.bipush 30, 2) := by decide +kernel
theorem dX5_chills_4 : decode cX5_chills 4 = .ok (.invokestatic 65, 3) := by decide +kernel
theorem dX5_chills_7 : decode cX5_chills 7 = .ok (.ifCond .ne 5, 3) := by decide +kernel
theorem dX5_chills_10 : decode cX5_chills 10 = .ok (.iconst (-1), 1) := by decide +kernel
theorem dX5_chills_11 : decode cX5_chills 11 = .ok (.ireturn, 1) := by decide +kernel
theorem dX5_chills_12 : decode cX5_chills 12 = .ok (.aload_n 0, 1) := by decide +kernel
theorem dX5_chills_13 : decode cX5_chills 13 = .ok (.getfield 10, 3) := by decide +kernel
theorem dX5_chills_16 : decode cX5_chills 16 = .ok (.invokevirtual 150, 3) := by decide +kernel
theorem dX5_chills_19 : decode cX5_chills 19 = .ok (.ifCond .ne 5, 3) := by decide +kernel
theorem dX5_chills_22 : decode cX5_chills 22 = .ok (.iconst 0, 1) := by decide +kernel
theorem dX5_chills_23 : decode cX5_chills 23 = .ok (.ireturn, 1) := by decide +kernel
theorem dX5_chills_24 : decode cX5_chills 24 = .ok (.aload_n 0, 1) := by decide +kernel
theorem dX5_chills_25 : decode cX5_chills 25 = .ok (.invokevirtual 180, 3) := by decide +kernel
theorem dX5_chills_28 : decode cX5_chills 28 = .ok (.astore_n 2, 1) := by decide +kernel
theorem dX5_chills_29 : decode cX5_chills 29 = .ok (.aload_n 2, 1) := by decide +kernel
theorem dX5_chills_30 : decode cX5_chills 30 = .ok (.sipush 255, 3) := by decide +kernel
theorem dX5_chills_33 : decode cX5_chills 33 = .ok (.invokevirtual 170, 3) := by decide +kernel
theorem dX5_chills_36 : decode cX5_chills 36 = .ok (.istore_n 3, 1) := by decide +kernel
theorem dX5_chills_37 : decode cX5_chills 37 = .ok (.iconst 0, 1) := by decide +kernel
theorem dX5_chills_38 : decode cX5_chills 38 = .ok (.istore 4, 2) := by decide +kernel
theorem dX5_chills_40 : decode cX5_chills 40 = .ok (.iconst 0, 1) := by decide +kernel
theorem dX5_chills_41 : decode cX5_chills 41 = .ok (.istore 5, 2) := by decide +kernel
theorem dX5_chills_43 : decode cX5_chills 43 = .ok (.iload 5, 2) := by decide +kernel
theorem dX5_chills_45 : decode cX5_chills 45 = .ok (.iload_n 1, 1) := by decide +kernel
theorem dX5_chills_46 : decode cX5_chills 46 = .ok (.if_icmp .ge 22, 3) := by decide +kernel
theorem dX5_chills_49 : decode cX5_chills 49 = .ok (.iload_n 3, 1) := by decide +kernel
theorem dX5_chills_50 : decode cX5_chills 50 = .ok (.aload_n 2, 1) := by decide +kernel
theorem dX5_chills_51 : decode cX5_chills 51 = .ok (.invokevirtual 173, 3) := by decide +kernel
theorem dX5_chills_54 : decode cX5_chills 54 = .ok (.ior, 1) := by decide +kernel
theorem dX5_chills_55 : decode cX5_chills 55 = .ok (.iload_n 3, 1) := by decide +kernel
theorem dX5_chills_56 : decode cX5_chills 56 = .ok (.if_icmp .eq 6, 3) := by decide +kernel
theorem dX5_chills_59 : decode cX5_chills 59 = .ok (.iinc 4 1, 3) := by decide +kernel
theorem dX5_chills_62 : decode cX5_chills 62 = .ok (.iinc 5 1, 3) := by decide +kernel
theorem dX5_chills_65 : decode cX5_chills 65 = .ok (.goto (-22), 3) := by decide +kernel
theorem dX5_chills_68 : decode cX5_chills 68 = .ok (.iload 4, 2) := by decide +kernel
theorem dX5_chills_70 : decode cX5_chills 70 = .ok (.ireturn, 1) := by decide +kernel
theorem dX5_state_0 : decode cX5_state 0 = .ok (.iload_n 1, 1) := by decide +kernel
theorem dX5_state_1 : decode cX5_state 1 = .ok (.tableswitch 84 0 5 #[39, 47, 55, 63, 71, 79], 39) := by decide +kernel
theorem dX5_state_40 : decode cX5_state 40 = .ok (.aload_n 0, 1) := by decide +kernel
theorem dX5_state_41 : decode cX5_state 41 = .ok (.getfield 10, 3) := by decide +kernel
theorem dX5_state_44 : decode cX5_state 44 = .ok (.getfield 154, 3) := by decide +kernel
theorem dX5_state_47 : decode cX5_state 47 = .ok (.ireturn, 1) := by decide +kernel
theorem dX5_state_48 : decode cX5_state 48 = .ok (.aload_n 0, 1) := by decide +kernel
theorem dX5_state_49 : decode cX5_state 49 = .ok (.getfield 10, 3) := by decide +kernel
theorem dX5_state_52 : decode cX5_state 52 = .ok (.getfield 103, 3) := by decide +kernel
theorem dX5_state_55 : decode cX5_state 55 = .ok (.ireturn, 1) := by decide +kernel
theorem dX5_state_56 : decode cX5_state 56 = .ok (.aload_n 0, 1) := by decide +kernel
theorem dX5_state_57 : decode cX5_state 57 = .ok (.getfield 10, 3) := by decide +kernel
theorem dX5_state_60 : decode cX5_state 60 = .ok (.invokevirtual 184, 3) := by decide +kernel
theorem dX5_state_63 : decode cX5_state 63 = .ok (.ireturn, 1) := by decide +kernel
theorem dX5_state_64 : decode cX5_state 64 = .ok (.aload_n 0, 1) := by decide +kernel
theorem dX5_state_65 : decode cX5_state 65 = .ok (.getfield 10, 3) := by decide +kernel
theorem dX5_state_68 : decode cX5_state 68 = .ok (.invokevirtual 187, 3) := by decide +kernel
theorem dX5_state_71 : decode cX5_state 71 = .ok (.ireturn, 1) := by decide +kernel
theorem dX5_state_72 : decode cX5_state 72 = .ok (.aload_n 0, 1) := by decide +kernel
theorem dX5_state_73 : decode cX5_state 73 = .ok (.getfield 10, 3) := by decide +kernel
theorem dX5_state_76 : decode cX5_state 76 = .ok (.invokevirtual 190, 3) := by decide +kernel
theorem dX5_state_79 : decode cX5_state 79 = .ok (.ireturn, 1) := by decide +kernel
theorem dX5_state_80 : decode cX5_state 80 = .ok (.aload_n 0, 1) := by decide +kernel
theorem dX5_state_81 : decode cX5_state 81 = .ok (.invokevirtual 193, 3) := by decide +kernel
theorem dX5_state_84 : decode cX5_state 84 = .ok (.ireturn, 1) := by decide +kernel
theorem dX5_state_85 : decode cX5_state 85 = .ok (.iconst (-1), 1) := by decide +kernel
theorem dX5_state_86 : decode cX5_state 86 = .ok (.ireturn, 1) := by decide +kernel
theorem dX5_arm_0 : decode cX5_arm 0 = .ok (.aload_n 0, 1) := by decide +kernel
theorem dX5_arm_1 : decode cX5_arm 1 = .ok (.iload_n 1, 1) := by decide +kernel
theorem dX5_arm_2 : decode cX5_arm 2 = .ok (.invokevirtual 135, 3) := by decide +kernel
theorem dX5_arm_5 : decode cX5_arm 5 = .ok (.ifCond .eq 13, 3) := by decide +kernel
theorem dX5_arm_8 : decode cX5_arm 8 = .ok (.iload_n 2, 1) := by decide +kernel
theorem dX5_arm_9 : decode cX5_arm 9 = .ok (.iconst 0, 1) := by decide +kernel
theorem dX5_arm_10 : decode cX5_arm 10 = .ok (.bipush 60, 2) := by decide +kernel
theorem dX5_arm_12 : decode cX5_arm 12 = .ok (.invokestatic 65, 3) := by decide +kernel
theorem dX5_arm_15 : decode cX5_arm 15 = .ok (.ifCond .ne 5, 3) := by decide +kernel
theorem dX5_arm_18 : decode cX5_arm 18 = .ok (.iconst (-1), 1) := by decide +kernel
theorem dX5_arm_19 : decode cX5_arm 19 = .ok (.ireturn, 1) := by decide +kernel
theorem dX5_arm_20 : decode cX5_arm 20 = .ok (.aload_n 0, 1) := by decide +kernel
theorem dX5_arm_21 : decode cX5_arm 21 = .ok (.invokevirtual 180, 3) := by decide +kernel
theorem dX5_arm_24 : decode cX5_arm 24 = .ok (.astore_n 3, 1) := by decide +kernel
theorem dX5_arm_25 : decode cX5_arm 25 = .ok (.aload_n 3, 1) := by decide +kernel
theorem dX5_arm_26 : decode cX5_arm 26 = .ok (.iload_n 2, 1) := by decide +kernel
theorem dX5_arm_27 : decode cX5_arm 27 = .ok (.iload_n 1, 1) := by decide +kernel
theorem dX5_arm_28 : decode cX5_arm 28 = .ok (.invokestatic 196, 3) := by decide +kernel
theorem dX5_arm_31 : decode cX5_arm 31 = .ok (.invokevirtual 167, 3) := by decide +kernel
theorem dX5_arm_34 : decode cX5_arm 34 = .ok (.pop, 1) := by decide +kernel
theorem dX5_arm_35 : decode cX5_arm 35 = .ok (.aload_n 3, 1) := by decide +kernel
theorem dX5_arm_36 : decode cX5_arm 36 = .ok (.getfield 147, 3) := by decide +kernel
theorem dX5_arm_39 : decode cX5_arm 39 = .ok (.iload_n 1, 1) := by decide +kernel
theorem dX5_arm_40 : decode cX5_arm 40 = .ok (.iaload, 1) := by decide +kernel
theorem dX5_arm_41 : decode cX5_arm 41 = .ok (.ireturn, 1) := by decide +kernel
theorem dX5_raised_0 : decode cX5_raised 0 = .ok (.aload_n 0, 1) := by decide +kernel
theorem dX5_raised_1 : decode cX5_raised 1 = .ok (.iload_n 1, 1) := by decide +kernel
theorem dX5_raised_2 : decode cX5_raised 2 = .ok (.invokevirtual 135, 3) := by decide +kernel
theorem dX5_raised_5 : decode cX5_raised 5 = .ok (.ifCond .ne 5, 3) := by decide +kernel
theorem dX5_raised_8 : decode cX5_raised 8 = .ok (.iconst (-1), 1) := by decide +kernel
theorem dX5_raised_9 : decode cX5_raised 9 = .ok (.ireturn, 1) := by decide +kernel
theorem dX5_raised_10 : decode cX5_raised 10 = .ok (.aload_n 0, 1) := by decide +kernel
theorem dX5_raised_11 : decode cX5_raised 11 = .ok (.invokevirtual 180, 3) := by decide +kernel
theorem dX5_raised_14 : decode cX5_raised 14 = .ok (.astore_n 2, 1) := by decide +kernel
theorem dX5_raised_15 : decode cX5_raised 15 = .ok (.iconst 0, 1) := by decide +kernel
theorem dX5_raised_16 : decode cX5_raised 16 = .ok (.istore_n 3, 1) := by decide +kernel
theorem dX5_raised_17 : decode cX5_raised 17 = .ok (.iload_n 3, 1) := by decide +kernel
theorem dX5_raised_18 : decode cX5_raised 18 = .ok (.bipush 12, 2) := by decide +kernel
theorem dX5_raised_20 : decode cX5_raised 20 = .ok (.if_icmp .gt 30, 3) := by decide +kernel
theorem dX5_raised_23 : decode cX5_raised 23 = .ok (.aload_n 2, 1) := by decide +kernel
theorem dX5_raised_24 : decode cX5_raised 24 = .ok (.getfield 147, 3) := by decide +kernel
theorem dX5_raised_27 : decode cX5_raised 27 = .ok (.iload_n 1, 1) := by decide +kernel
theorem dX5_raised_28 : decode cX5_raised 28 = .ok (.iaload, 1) := by decide +kernel
theorem dX5_raised_29 : decode cX5_raised 29 = .ok (.ifCond .eq 5, 3) := by decide +kernel
theorem dX5_raised_32 : decode cX5_raised 32 = .ok (.iload_n 3, 1) := by decide +kernel
theorem dX5_raised_33 : decode cX5_raised 33 = .ok (.ireturn, 1) := by decide +kernel
theorem dX5_raised_34 : decode cX5_raised 34 = .ok (.aload_n 2, 1) := by decide +kernel
theorem dX5_raised_35 : decode cX5_raised 35 = .ok (.iconst 1, 1) := by decide +kernel
theorem dX5_raised_36 : decode cX5_raised 36 = .ok (.iload_n 1, 1) := by decide +kernel
theorem dX5_raised_37 : decode cX5_raised 37 = .ok (.invokestatic 196, 3) := by decide +kernel
theorem dX5_raised_40 : decode cX5_raised 40 = .ok (.invokevirtual 167, 3) := by decide +kernel
theorem dX5_raised_43 : decode cX5_raised 43 = .ok (.pop, 1) := by decide +kernel
theorem dX5_raised_44 : decode cX5_raised 44 = .ok (.iinc 3 1, 3) := by decide +kernel
theorem dX5_raised_47 : decode cX5_raised 47 = .ok (.goto (-30), 3) := by decide +kernel
theorem dX5_raised_50 : decode cX5_raised 50 = .ok (.bipush (-3), 2) := by decide +kernel
theorem dX5_raised_52 : decode cX5_raised 52 = .ok (.ireturn, 1) := by decide +kernel
theorem dX5_right_0 : decode cX5_right 0 = .ok (.aload_n 0, 1) := by decide +kernel
theorem dX5_right_1 : decode cX5_right 1 = .ok (.iload_n 1, 1) := by decide +kernel
theorem dX5_right_2 : decode cX5_right 2 = .ok (.invokevirtual 135, 3) := by decide +kernel
theorem dX5_right_5 : decode cX5_right 5 = .ok (.ifCond .eq 14, 3) := by decide +kernel
theorem dX5_right_8 : decode cX5_right 8 = .ok (.aload_n 0, 1) := by decide +kernel
theorem dX5_right_9 : decode cX5_right 9 = .ok (.invokevirtual 180, 3) := by decide +kernel
theorem dX5_right_12 : decode cX5_right 12 = .ok (.iload_n 1, 1) := by decide +kernel
theorem dX5_right_13 : decode cX5_right 13 = .ok (.invokestatic 199, 3) := by decide +kernel
theorem dX5_right_16 : decode cX5_right 16 = .ok (.goto 4, 3) := by decide +kernel
theorem dX5_right_19 : decode cX5_right 19 = .ok (.iconst (-1), 1) := by decide +kernel
theorem dX5_right_20 : decode cX5_right 20 = .ok (.ireturn, 1) := by decide +kernel
theorem dX5_topicFor_0 : decode cX5_topicFor 0 = .ok (.aload_n 0, 1) := by decide +kernel
theorem dX5_topicFor_1 : decode cX5_topicFor 1 = .ok (.iload_n 1, 1) := by decide +kernel
theorem dX5_topicFor_2 : decode cX5_topicFor 2 = .ok (.invokevirtual 109, 3) := by decide +kernel
theorem dX5_topicFor_5 : decode cX5_topicFor 5 = .ok (.ifCond .ne 5, 3) := by decide +kernel
theorem dX5_topicFor_8 : decode cX5_topicFor 8 = .ok (.iconst (-1), 1) := by decide +kernel
theorem dX5_topicFor_9 : decode cX5_topicFor 9 = .ok (.ireturn, 1) := by decide +kernel
theorem dX5_topicFor_10 : decode cX5_topicFor 10 = .ok (.iload_n 1, 1) := by decide +kernel
theorem dX5_topicFor_11 : decode cX5_topicFor 11 = .ok (.aload_n 0, 1) := by decide +kernel
theorem dX5_topicFor_12 : decode cX5_topicFor 12 = .ok (.getfield 10, 3) := by decide +kernel
theorem dX5_topicFor_15 : decode cX5_topicFor 15 = .ok (.getfield 154, 3) := by decide +kernel
theorem dX5_topicFor_18 : decode cX5_topicFor 18 = .ok (.if_icmp .ge 6, 3) := by decide +kernel
theorem dX5_topicFor_21 : decode cX5_topicFor 21 = .ok (.bipush (-3), 2) := by decide +kernel
theorem dX5_topicFor_23 : decode cX5_topicFor 23 = .ok (.ireturn, 1) := by decide +kernel
theorem dX5_topicFor_24 : decode cX5_topicFor 24 = .ok (.iconst 0, 1) := by decide +kernel
theorem dX5_topicFor_25 : decode cX5_topicFor 25 = .ok (.istore_n 2, 1) := by decide +kernel
theorem dX5_topicFor_26 : decode cX5_topicFor 26 = .ok (.iconst (-1), 1) := by decide +kernel
theorem dX5_topicFor_27 : decode cX5_topicFor 27 = .ok (.istore_n 3, 1) := by decide +kernel
theorem dX5_topicFor_28 : decode cX5_topicFor 28 = .ok (.iconst 0, 1) := by decide +kernel
theorem dX5_topicFor_29 : decode cX5_topicFor 29 = .ok (.istore 4, 2) := by decide +kernel
theorem dX5_topicFor_31 : decode cX5_topicFor 31 = .ok (.iload 4, 2) := by decide +kernel
theorem dX5_topicFor_33 : decode cX5_topicFor 33 = .ok (.bipush 7, 2) := by decide +kernel
theorem dX5_topicFor_35 : decode cX5_topicFor 35 = .ok (.if_icmp .gt 58, 3) := by decide +kernel
theorem dX5_topicFor_38 : decode cX5_topicFor 38 = .ok (.aload_n 0, 1) := by decide +kernel
theorem dX5_topicFor_39 : decode cX5_topicFor 39 = .ok (.invokevirtual 180, 3) := by decide +kernel
theorem dX5_topicFor_42 : decode cX5_topicFor 42 = .ok (.astore 5, 2) := by decide +kernel
theorem dX5_topicFor_44 : decode cX5_topicFor 44 = .ok (.aload 5, 2) := by decide +kernel
theorem dX5_topicFor_46 : decode cX5_topicFor 46 = .ok (.getfield 112, 3) := by decide +kernel
theorem dX5_topicFor_49 : decode cX5_topicFor 49 = .ok (.iload_n 1, 1) := by decide +kernel
theorem dX5_topicFor_50 : decode cX5_topicFor 50 = .ok (.iload 4, 2) := by decide +kernel
theorem dX5_topicFor_52 : decode cX5_topicFor 52 = .ok (.iastore, 1) := by decide +kernel
theorem dX5_topicFor_53 : decode cX5_topicFor 53 = .ok (.aload 5, 2) := by decide +kernel
theorem dX5_topicFor_55 : decode cX5_topicFor 55 = .ok (.bipush 12, 2) := by decide +kernel
theorem dX5_topicFor_57 : decode cX5_topicFor 57 = .ok (.sipush 255, 3) := by decide +kernel
theorem dX5_topicFor_60 : decode cX5_topicFor 60 = .ok (.invokevirtual 167, 3) := by decide +kernel
theorem dX5_topicFor_63 : decode cX5_topicFor 63 = .ok (.pop, 1) := by decide +kernel
theorem dX5_topicFor_64 : decode cX5_topicFor 64 = .ok (.aload 5, 2) := by decide +kernel
theorem dX5_topicFor_66 : decode cX5_topicFor 66 = .ok (.iload_n 1, 1) := by decide +kernel
theorem dX5_topicFor_67 : decode cX5_topicFor 67 = .ok (.invokevirtual 121, 3) := by decide +kernel
theorem dX5_topicFor_70 : decode cX5_topicFor 70 = .ok (.invokestatic 203, 3) := by decide +kernel
theorem dX5_topicFor_73 : decode cX5_topicFor 73 = .ok (.istore 6, 2) := by decide +kernel
theorem dX5_topicFor_75 : decode cX5_topicFor 75 = .ok (.iload 6, 2) := by decide +kernel
theorem dX5_topicFor_77 : decode cX5_topicFor 77 = .ok (.iload_n 3, 1) := by decide +kernel
theorem dX5_topicFor_78 : decode cX5_topicFor 78 = .ok (.if_icmp .le 9, 3) := by decide +kernel
theorem dX5_topicFor_81 : decode cX5_topicFor 81 = .ok (.iload 6, 2) := by decide +kernel
theorem dX5_topicFor_83 : decode cX5_topicFor 83 = .ok (.istore_n 3, 1) := by decide +kernel
theorem dX5_topicFor_84 : decode cX5_topicFor 84 = .ok (.iload 4, 2) := by decide +kernel
theorem dX5_topicFor_86 : decode cX5_topicFor 86 = .ok (.istore_n 2, 1) := by decide +kernel
theorem dX5_topicFor_87 : decode cX5_topicFor 87 = .ok (.iinc 4 1, 3) := by decide +kernel
theorem dX5_topicFor_90 : decode cX5_topicFor 90 = .ok (.goto (-59), 3) := by decide +kernel
theorem dX5_topicFor_93 : decode cX5_topicFor 93 = .ok (.iload_n 2, 1) := by decide +kernel
theorem dX5_topicFor_94 : decode cX5_topicFor 94 = .ok (.ireturn, 1) := by decide +kernel
theorem dX5_heatFor_0 : decode cX5_heatFor 0 = .ok (.aload_n 0, 1) := by decide +kernel
theorem dX5_heatFor_1 : decode cX5_heatFor 1 = .ok (.iload_n 1, 1) := by decide +kernel
theorem dX5_heatFor_2 : decode cX5_heatFor 2 = .ok (.invokevirtual 109, 3) := by decide +kernel
theorem dX5_heatFor_5 : decode cX5_heatFor 5 = .ok (.ifCond .eq 11, 3) := by decide +kernel
theorem dX5_heatFor_8 : decode cX5_heatFor 8 = .ok (.aload_n 0, 1) := by decide +kernel
theorem dX5_heatFor_9 : decode cX5_heatFor 9 = .ok (.iload_n 2, 1) := by decide +kernel
theorem dX5_heatFor_10 : decode cX5_heatFor 10 = .ok (.invokevirtual 135, 3) := by decide +kernel
theorem dX5_heatFor_13 : decode cX5_heatFor 13 = .ok (.ifCond .ne 5, 3) := by decide +kernel
theorem dX5_heatFor_16 : decode cX5_heatFor 16 = .ok (.iconst (-1), 1) := by decide +kernel
theorem dX5_heatFor_17 : decode cX5_heatFor 17 = .ok (.ireturn, 1) := by decide +kernel
theorem dX5_heatFor_18 : decode cX5_heatFor 18 = .ok (.iload_n 1, 1) := by decide +kernel
theorem dX5_heatFor_19 : decode cX5_heatFor 19 = .ok (.aload_n 0, 1) := by decide +kernel
theorem dX5_heatFor_20 : decode cX5_heatFor 20 = .ok (.getfield 10, 3) := by decide +kernel
theorem dX5_heatFor_23 : decode cX5_heatFor 23 = .ok (.getfield 154, 3) := by decide +kernel
theorem dX5_heatFor_26 : decode cX5_heatFor 26 = .ok (.if_icmp .ge 6, 3) := by decide +kernel
theorem dX5_heatFor_29 : decode cX5_heatFor 29 = .ok (.bipush (-3), 2) := by decide +kernel
theorem dX5_heatFor_31 : decode cX5_heatFor 31 = .ok (.ireturn, 1) := by decide +kernel
theorem dX5_heatFor_32 : decode cX5_heatFor 32 = .ok (.iconst 0, 1) := by decide +kernel
theorem dX5_heatFor_33 : decode cX5_heatFor 33 = .ok (.istore_n 3, 1) := by decide +kernel
theorem dX5_heatFor_34 : decode cX5_heatFor 34 = .ok (.iload_n 3, 1) := by decide +kernel
theorem dX5_heatFor_35 : decode cX5_heatFor 35 = .ok (.bipush 9, 2) := by decide +kernel
theorem dX5_heatFor_37 : decode cX5_heatFor 37 = .ok (.if_icmp .gt 51, 3) := by decide +kernel
theorem dX5_heatFor_40 : decode cX5_heatFor 40 = .ok (.aload_n 0, 1) := by decide +kernel
theorem dX5_heatFor_41 : decode cX5_heatFor 41 = .ok (.invokevirtual 180, 3) := by decide +kernel
theorem dX5_heatFor_44 : decode cX5_heatFor 44 = .ok (.astore 4, 2) := by decide +kernel
theorem dX5_heatFor_46 : decode cX5_heatFor 46 = .ok (.aload 4, 2) := by decide +kernel
theorem dX5_heatFor_48 : decode cX5_heatFor 48 = .ok (.getfield 115, 3) := by decide +kernel
theorem dX5_heatFor_51 : decode cX5_heatFor 51 = .ok (.iload_n 1, 1) := by decide +kernel
theorem dX5_heatFor_52 : decode cX5_heatFor 52 = .ok (.iload_n 3, 1) := by decide +kernel
theorem dX5_heatFor_53 : decode cX5_heatFor 53 = .ok (.iastore, 1) := by decide +kernel
theorem dX5_heatFor_54 : decode cX5_heatFor 54 = .ok (.aload 4, 2) := by decide +kernel
theorem dX5_heatFor_56 : decode cX5_heatFor 56 = .ok (.bipush 12, 2) := by decide +kernel
theorem dX5_heatFor_58 : decode cX5_heatFor 58 = .ok (.iload_n 2, 1) := by decide +kernel
theorem dX5_heatFor_59 : decode cX5_heatFor 59 = .ok (.invokestatic 196, 3) := by decide +kernel
theorem dX5_heatFor_62 : decode cX5_heatFor 62 = .ok (.invokevirtual 167, 3) := by decide +kernel
theorem dX5_heatFor_65 : decode cX5_heatFor 65 = .ok (.pop, 1) := by decide +kernel
theorem dX5_heatFor_66 : decode cX5_heatFor 66 = .ok (.aload 4, 2) := by decide +kernel
theorem dX5_heatFor_68 : decode cX5_heatFor 68 = .ok (.getfield 147, 3) := by decide +kernel
theorem dX5_heatFor_71 : decode cX5_heatFor 71 = .ok (.iload_n 2, 1) := by decide +kernel
theorem dX5_heatFor_72 : decode cX5_heatFor 72 = .ok (.iaload, 1) := by decide +kernel
theorem dX5_heatFor_73 : decode cX5_heatFor 73 = .ok (.iload_n 1, 1) := by decide +kernel
theorem dX5_heatFor_74 : decode cX5_heatFor 74 = .ok (.invokestatic 208, 3) := by decide +kernel
theorem dX5_heatFor_77 : decode cX5_heatFor 77 = .ok (.ifCond .eq 5, 3) := by decide +kernel
theorem dX5_heatFor_80 : decode cX5_heatFor 80 = .ok (.iload_n 3, 1) := by decide +kernel
theorem dX5_heatFor_81 : decode cX5_heatFor 81 = .ok (.ireturn, 1) := by decide +kernel
theorem dX5_heatFor_82 : decode cX5_heatFor 82 = .ok (.iinc 3 1, 3) := by decide +kernel
theorem dX5_heatFor_85 : decode cX5_heatFor 85 = .ok (.goto (-51), 3) := by decide +kernel
theorem dX5_heatFor_88 : decode cX5_heatFor 88 = .ok (.bipush (-3), 2) := by decide +kernel
theorem dX5_heatFor_90 : decode cX5_heatFor 90 = .ok (.ireturn, 1) := by decide +kernel
theorem dX5_kindFor_0 : decode cX5_kindFor 0 = .ok (.aload_n 0, 1) := by decide +kernel
theorem dX5_kindFor_1 : decode cX5_kindFor 1 = .ok (.iload_n 1, 1) := by decide +kernel
theorem dX5_kindFor_2 : decode cX5_kindFor 2 = .ok (.invokevirtual 135, 3) := by decide +kernel
theorem dX5_kindFor_5 : decode cX5_kindFor 5 = .ok (.ifCond .ne 5, 3) := by decide +kernel
theorem dX5_kindFor_8 : decode cX5_kindFor 8 = .ok (.iconst (-1), 1) := by decide +kernel
theorem dX5_kindFor_9 : decode cX5_kindFor 9 = .ok (.ireturn, 1) := by decide +kernel
theorem dX5_kindFor_10 : decode cX5_kindFor 10 = .ok (.iconst 0, 1) := by decide +kernel
theorem dX5_kindFor_11 : decode cX5_kindFor 11 = .ok (.istore_n 2, 1) := by decide +kernel
theorem dX5_kindFor_12 : decode cX5_kindFor 12 = .ok (.iconst (-1), 1) := by decide +kernel
theorem dX5_kindFor_13 : decode cX5_kindFor 13 = .ok (.istore_n 3, 1) := by decide +kernel
theorem dX5_kindFor_14 : decode cX5_kindFor 14 = .ok (.iconst 0, 1) := by decide +kernel
theorem dX5_kindFor_15 : decode cX5_kindFor 15 = .ok (.istore 4, 2) := by decide +kernel
theorem dX5_kindFor_17 : decode cX5_kindFor 17 = .ok (.iload 4, 2) := by decide +kernel
theorem dX5_kindFor_19 : decode cX5_kindFor 19 = .ok (.iconst 5, 1) := by decide +kernel
theorem dX5_kindFor_20 : decode cX5_kindFor 20 = .ok (.if_icmp .gt 44, 3) := by decide +kernel
theorem dX5_kindFor_23 : decode cX5_kindFor 23 = .ok (.aload_n 0, 1) := by decide +kernel
theorem dX5_kindFor_24 : decode cX5_kindFor 24 = .ok (.invokevirtual 180, 3) := by decide +kernel
theorem dX5_kindFor_27 : decode cX5_kindFor 27 = .ok (.astore 5, 2) := by decide +kernel
theorem dX5_kindFor_29 : decode cX5_kindFor 29 = .ok (.aload 5, 2) := by decide +kernel
theorem dX5_kindFor_31 : decode cX5_kindFor 31 = .ok (.getfield 138, 3) := by decide +kernel
theorem dX5_kindFor_34 : decode cX5_kindFor 34 = .ok (.iload_n 1, 1) := by decide +kernel
theorem dX5_kindFor_35 : decode cX5_kindFor 35 = .ok (.iload 4, 2) := by decide +kernel
theorem dX5_kindFor_37 : decode cX5_kindFor 37 = .ok (.iastore, 1) := by decide +kernel
theorem dX5_kindFor_38 : decode cX5_kindFor 38 = .ok (.aload 5, 2) := by decide +kernel
theorem dX5_kindFor_40 : decode cX5_kindFor 40 = .ok (.iload_n 1, 1) := by decide +kernel
theorem dX5_kindFor_41 : decode cX5_kindFor 41 = .ok (.invokestatic 199, 3) := by decide +kernel
theorem dX5_kindFor_44 : decode cX5_kindFor 44 = .ok (.istore 6, 2) := by decide +kernel
theorem dX5_kindFor_46 : decode cX5_kindFor 46 = .ok (.iload 6, 2) := by decide +kernel
theorem dX5_kindFor_48 : decode cX5_kindFor 48 = .ok (.iload_n 3, 1) := by decide +kernel
theorem dX5_kindFor_49 : decode cX5_kindFor 49 = .ok (.if_icmp .le 9, 3) := by decide +kernel
theorem dX5_kindFor_52 : decode cX5_kindFor 52 = .ok (.iload 6, 2) := by decide +kernel
theorem dX5_kindFor_54 : decode cX5_kindFor 54 = .ok (.istore_n 3, 1) := by decide +kernel
theorem dX5_kindFor_55 : decode cX5_kindFor 55 = .ok (.iload 4, 2) := by decide +kernel
theorem dX5_kindFor_57 : decode cX5_kindFor 57 = .ok (.istore_n 2, 1) := by decide +kernel
theorem dX5_kindFor_58 : decode cX5_kindFor 58 = .ok (.iinc 4 1, 3) := by decide +kernel
theorem dX5_kindFor_61 : decode cX5_kindFor 61 = .ok (.goto (-44), 3) := by decide +kernel
theorem dX5_kindFor_64 : decode cX5_kindFor 64 = .ok (.iload_n 2, 1) := by decide +kernel
theorem dX5_kindFor_65 : decode cX5_kindFor 65 = .ok (.ireturn, 1) := by decide +kernel
theorem dX5_tenderFor_0 : decode cX5_tenderFor 0 = .ok (.aload_n 0, 1) := by decide +kernel
theorem dX5_tenderFor_1 : decode cX5_tenderFor 1 = .ok (.iload_n 1, 1) := by decide +kernel
theorem dX5_tenderFor_2 : decode cX5_tenderFor 2 = .ok (.invokevirtual 135, 3) := by decide +kernel
theorem dX5_tenderFor_5 : decode cX5_tenderFor 5 = .ok (.ifCond .ne 5, 3) := by decide +kernel
theorem dX5_tenderFor_8 : decode cX5_tenderFor 8 = .ok (.iconst (-1), 1) := by decide +kernel
theorem dX5_tenderFor_9 : decode cX5_tenderFor 9 = .ok (.ireturn, 1) := by decide +kernel
theorem dX5_tenderFor_10 : decode cX5_tenderFor 10 = .ok (.iconst 0, 1) := by decide +kernel
theorem dX5_tenderFor_11 : decode cX5_tenderFor 11 = .ok (.istore_n 2, 1) := by decide +kernel
theorem dX5_tenderFor_12 : decode cX5_tenderFor 12 = .ok (.iconst (-1), 1) := by decide +kernel
theorem dX5_tenderFor_13 : decode cX5_tenderFor 13 = .ok (.istore_n 3, 1) := by decide +kernel
theorem dX5_tenderFor_14 : decode cX5_tenderFor 14 = .ok (.iconst 0, 1) := by decide +kernel
theorem dX5_tenderFor_15 : decode cX5_tenderFor 15 = .ok (.istore 4, 2) := by decide +kernel
theorem dX5_tenderFor_17 : decode cX5_tenderFor 17 = .ok (.iload 4, 2) := by decide +kernel
theorem dX5_tenderFor_19 : decode cX5_tenderFor 19 = .ok (.bipush 99, 2) := by decide +kernel
theorem dX5_tenderFor_21 : decode cX5_tenderFor 21 = .ok (.if_icmp .gt 44, 3) := by decide +kernel
theorem dX5_tenderFor_24 : decode cX5_tenderFor 24 = .ok (.aload_n 0, 1) := by decide +kernel
theorem dX5_tenderFor_25 : decode cX5_tenderFor 25 = .ok (.invokevirtual 180, 3) := by decide +kernel
theorem dX5_tenderFor_28 : decode cX5_tenderFor 28 = .ok (.astore 5, 2) := by decide +kernel
theorem dX5_tenderFor_30 : decode cX5_tenderFor 30 = .ok (.aload 5, 2) := by decide +kernel
theorem dX5_tenderFor_32 : decode cX5_tenderFor 32 = .ok (.getfield 141, 3) := by decide +kernel
theorem dX5_tenderFor_35 : decode cX5_tenderFor 35 = .ok (.iload_n 1, 1) := by decide +kernel
theorem dX5_tenderFor_36 : decode cX5_tenderFor 36 = .ok (.iload 4, 2) := by decide +kernel
theorem dX5_tenderFor_38 : decode cX5_tenderFor 38 = .ok (.iastore, 1) := by decide +kernel
theorem dX5_tenderFor_39 : decode cX5_tenderFor 39 = .ok (.aload 5, 2) := by decide +kernel
theorem dX5_tenderFor_41 : decode cX5_tenderFor 41 = .ok (.iload_n 1, 1) := by decide +kernel
theorem dX5_tenderFor_42 : decode cX5_tenderFor 42 = .ok (.invokestatic 199, 3) := by decide +kernel
theorem dX5_tenderFor_45 : decode cX5_tenderFor 45 = .ok (.istore 6, 2) := by decide +kernel
theorem dX5_tenderFor_47 : decode cX5_tenderFor 47 = .ok (.iload 6, 2) := by decide +kernel
theorem dX5_tenderFor_49 : decode cX5_tenderFor 49 = .ok (.iload_n 3, 1) := by decide +kernel
theorem dX5_tenderFor_50 : decode cX5_tenderFor 50 = .ok (.if_icmp .le 9, 3) := by decide +kernel
theorem dX5_tenderFor_53 : decode cX5_tenderFor 53 = .ok (.iload 6, 2) := by decide +kernel
theorem dX5_tenderFor_55 : decode cX5_tenderFor 55 = .ok (.istore_n 3, 1) := by decide +kernel
theorem dX5_tenderFor_56 : decode cX5_tenderFor 56 = .ok (.iload 4, 2) := by decide +kernel
theorem dX5_tenderFor_58 : decode cX5_tenderFor 58 = .ok (.istore_n 2, 1) := by decide +kernel
theorem dX5_tenderFor_59 : decode cX5_tenderFor 59 = .ok (.iinc 4 1, 3) := by decide +kernel
theorem dX5_tenderFor_62 : decode cX5_tenderFor 62 = .ok (.goto (-45), 3) := by decide +kernel
theorem dX5_tenderFor_65 : decode cX5_tenderFor 65 = .ok (.iload_n 2, 1) := by decide +kernel
theorem dX5_tenderFor_66 : decode cX5_tenderFor 66 = .ok (.ireturn, 1) := by decide +kernel
theorem dX5_nextFor_0 : decode cX5_nextFor 0 = .ok (.aload_n 0, 1) := by decide +kernel
theorem dX5_nextFor_1 : decode cX5_nextFor 1 = .ok (.iload_n 1, 1) := by decide +kernel
theorem dX5_nextFor_2 : decode cX5_nextFor 2 = .ok (.invokevirtual 135, 3) := by decide +kernel
theorem dX5_nextFor_5 : decode cX5_nextFor 5 = .ok (.ifCond .ne 5, 3) := by decide +kernel
theorem dX5_nextFor_8 : decode cX5_nextFor 8 = .ok (.iconst (-1), 1) := by decide +kernel
theorem dX5_nextFor_9 : decode cX5_nextFor 9 = .ok (.ireturn, 1) := by decide +kernel
theorem dX5_nextFor_10 : decode cX5_nextFor 10 = .ok (.bipush (-3), 2) := by decide +kernel
theorem dX5_nextFor_12 : decode cX5_nextFor 12 = .ok (.istore_n 2, 1) := by decide +kernel
theorem dX5_nextFor_13 : decode cX5_nextFor 13 = .ok (.iconst (-1), 1) := by decide +kernel
theorem dX5_nextFor_14 : decode cX5_nextFor 14 = .ok (.istore_n 3, 1) := by decide +kernel
theorem dX5_nextFor_15 : decode cX5_nextFor 15 = .ok (.aload_n 0, 1) := by decide +kernel
theorem dX5_nextFor_16 : decode cX5_nextFor 16 = .ok (.getfield 10, 3) := by decide +kernel
theorem dX5_nextFor_19 : decode cX5_nextFor 19 = .ok (.getfield 154, 3) := by decide +kernel
theorem dX5_nextFor_22 : decode cX5_nextFor 22 = .ok (.istore 4, 2) := by decide +kernel
theorem dX5_nextFor_24 : decode cX5_nextFor 24 = .ok (.iload 4, 2) := by decide +kernel
theorem dX5_nextFor_26 : decode cX5_nextFor 26 = .ok (.aload_n 0, 1) := by decide +kernel
theorem dX5_nextFor_27 : decode cX5_nextFor 27 = .ok (.getfield 10, 3) := by decide +kernel
theorem dX5_nextFor_30 : decode cX5_nextFor 30 = .ok (.getfield 103, 3) := by decide +kernel
theorem dX5_nextFor_33 : decode cX5_nextFor 33 = .ok (.if_icmp .ge 49, 3) := by decide +kernel
theorem dX5_nextFor_36 : decode cX5_nextFor 36 = .ok (.aload_n 0, 1) := by decide +kernel
theorem dX5_nextFor_37 : decode cX5_nextFor 37 = .ok (.invokevirtual 180, 3) := by decide +kernel
theorem dX5_nextFor_40 : decode cX5_nextFor 40 = .ok (.astore 5, 2) := by decide +kernel
theorem dX5_nextFor_42 : decode cX5_nextFor 42 = .ok (.aload 5, 2) := by decide +kernel
theorem dX5_nextFor_44 : decode cX5_nextFor 44 = .ok (.aload_n 0, 1) := by decide +kernel
theorem dX5_nextFor_45 : decode cX5_nextFor 45 = .ok (.getfield 10, 3) := by decide +kernel
theorem dX5_nextFor_48 : decode cX5_nextFor 48 = .ok (.getfield 154, 3) := by decide +kernel
theorem dX5_nextFor_51 : decode cX5_nextFor 51 = .ok (.iload 4, 2) := by decide +kernel
theorem dX5_nextFor_53 : decode cX5_nextFor 53 = .ok (.invokevirtual 212, 3) := by decide +kernel
theorem dX5_nextFor_56 : decode cX5_nextFor 56 = .ok (.aload 5, 2) := by decide +kernel
theorem dX5_nextFor_58 : decode cX5_nextFor 58 = .ok (.iload_n 1, 1) := by decide +kernel
theorem dX5_nextFor_59 : decode cX5_nextFor 59 = .ok (.invokestatic 199, 3) := by decide +kernel
theorem dX5_nextFor_62 : decode cX5_nextFor 62 = .ok (.istore 6, 2) := by decide +kernel
theorem dX5_nextFor_64 : decode cX5_nextFor 64 = .ok (.iload 6, 2) := by decide +kernel
theorem dX5_nextFor_66 : decode cX5_nextFor 66 = .ok (.iload_n 3, 1) := by decide +kernel
theorem dX5_nextFor_67 : decode cX5_nextFor 67 = .ok (.if_icmp .le 9, 3) := by decide +kernel
theorem dX5_nextFor_70 : decode cX5_nextFor 70 = .ok (.iload 6, 2) := by decide +kernel
theorem dX5_nextFor_72 : decode cX5_nextFor 72 = .ok (.istore_n 3, 1) := by decide +kernel
theorem dX5_nextFor_73 : decode cX5_nextFor 73 = .ok (.iload 4, 2) := by decide +kernel
theorem dX5_nextFor_75 : decode cX5_nextFor 75 = .ok (.istore_n 2, 1) := by decide +kernel
theorem dX5_nextFor_76 : decode cX5_nextFor 76 = .ok (.iinc 4 1, 3) := by decide +kernel
theorem dX5_nextFor_79 : decode cX5_nextFor 79 = .ok (.goto (-55), 3) := by decide +kernel
theorem dX5_nextFor_82 : decode cX5_nextFor 82 = .ok (.iload_n 2, 1) := by decide +kernel
theorem dX5_nextFor_83 : decode cX5_nextFor 83 = .ok (.ireturn, 1) := by decide +kernel
theorem dX5_enough_0 : decode cX5_enough 0 = .ok (.aload_n 0, 1) := by decide +kernel
theorem dX5_enough_1 : decode cX5_enough 1 = .ok (.invokevirtual 180, 3) := by decide +kernel
theorem dX5_enough_4 : decode cX5_enough 4 = .ok (.astore_n 1, 1) := by decide +kernel
theorem dX5_enough_5 : decode cX5_enough 5 = .ok (.aload_n 1, 1) := by decide +kernel
theorem dX5_enough_6 : decode cX5_enough 6 = .ok (.bipush 12, 2) := by decide +kernel
theorem dX5_enough_8 : decode cX5_enough 8 = .ok (.sipush 255, 3) := by decide +kernel
theorem dX5_enough_11 : decode cX5_enough 11 = .ok (.invokevirtual 167, 3) := by decide +kernel
theorem dX5_enough_14 : decode cX5_enough 14 = .ok (.pop, 1) := by decide +kernel
theorem dX5_enough_15 : decode cX5_enough 15 = .ok (.aload_n 1, 1) := by decide +kernel
theorem dX5_enough_16 : decode cX5_enough 16 = .ok (.invokevirtual 184, 3) := by decide +kernel
theorem dX5_enough_19 : decode cX5_enough 19 = .ok (.istore_n 2, 1) := by decide +kernel
theorem dX5_enough_20 : decode cX5_enough 20 = .ok (.bipush (-3), 2) := by decide +kernel
theorem dX5_enough_22 : decode cX5_enough 22 = .ok (.istore_n 3, 1) := by decide +kernel
theorem dX5_enough_23 : decode cX5_enough 23 = .ok (.iconst 0, 1) := by decide +kernel
theorem dX5_enough_24 : decode cX5_enough 24 = .ok (.istore 4, 2) := by decide +kernel
theorem dX5_enough_26 : decode cX5_enough 26 = .ok (.iload 4, 2) := by decide +kernel
theorem dX5_enough_28 : decode cX5_enough 28 = .ok (.iconst 1, 1) := by decide +kernel
theorem dX5_enough_29 : decode cX5_enough 29 = .ok (.aload_n 1, 1) := by decide +kernel
theorem dX5_enough_30 : decode cX5_enough 30 = .ok (.getfield 90, 3) := by decide +kernel
theorem dX5_enough_33 : decode cX5_enough 33 = .ok (.ishl, 1) := by decide +kernel
theorem dX5_enough_34 : decode cX5_enough 34 = .ok (.if_icmp .ge 55, 3) := by decide +kernel
theorem dX5_enough_37 : decode cX5_enough 37 = .ok (.iload_n 2, 1) := by decide +kernel
theorem dX5_enough_38 : decode cX5_enough 38 = .ok (.aload_n 1, 1) := by decide +kernel
theorem dX5_enough_39 : decode cX5_enough 39 = .ok (.iload 4, 2) := by decide +kernel
theorem dX5_enough_41 : decode cX5_enough 41 = .ok (.invokevirtual 216, 3) := by decide +kernel
theorem dX5_enough_44 : decode cX5_enough 44 = .ok (.iconst (-1), 1) := by decide +kernel
theorem dX5_enough_45 : decode cX5_enough 45 = .ok (.ixor, 1) := by decide +kernel
theorem dX5_enough_46 : decode cX5_enough 46 = .ok (.iand, 1) := by decide +kernel
theorem dX5_enough_47 : decode cX5_enough 47 = .ok (.ifCond .ne 7, 3) := by decide +kernel
theorem dX5_enough_50 : decode cX5_enough 50 = .ok (.iconst 1, 1) := by decide +kernel
theorem dX5_enough_51 : decode cX5_enough 51 = .ok (.goto 4, 3) := by decide +kernel
theorem dX5_enough_54 : decode cX5_enough 54 = .ok (.iconst 0, 1) := by decide +kernel
theorem dX5_enough_55 : decode cX5_enough 55 = .ok (.istore 5, 2) := by decide +kernel
theorem dX5_enough_57 : decode cX5_enough 57 = .ok (.iload 5, 2) := by decide +kernel
theorem dX5_enough_59 : decode cX5_enough 59 = .ok (.ifCond .eq 24, 3) := by decide +kernel
theorem dX5_enough_62 : decode cX5_enough 62 = .ok (.iload_n 3, 1) := by decide +kernel
theorem dX5_enough_63 : decode cX5_enough 63 = .ok (.bipush (-3), 2) := by decide +kernel
theorem dX5_enough_65 : decode cX5_enough 65 = .ok (.if_icmp .eq 15, 3) := by decide +kernel
theorem dX5_enough_68 : decode cX5_enough 68 = .ok (.iload 4, 2) := by decide +kernel
theorem dX5_enough_70 : decode cX5_enough 70 = .ok (.invokestatic 203, 3) := by decide +kernel
theorem dX5_enough_73 : decode cX5_enough 73 = .ok (.iload_n 3, 1) := by decide +kernel
theorem dX5_enough_74 : decode cX5_enough 74 = .ok (.invokestatic 203, 3) := by decide +kernel
theorem dX5_enough_77 : decode cX5_enough 77 = .ok (.if_icmp .ge 6, 3) := by decide +kernel
theorem dX5_enough_80 : decode cX5_enough 80 = .ok (.iload 4, 2) := by decide +kernel
theorem dX5_enough_82 : decode cX5_enough 82 = .ok (.istore_n 3, 1) := by decide +kernel
theorem dX5_enough_83 : decode cX5_enough 83 = .ok (.iinc 4 1, 3) := by decide +kernel
theorem dX5_enough_86 : decode cX5_enough 86 = .ok (.goto (-60), 3) := by decide +kernel
theorem dX5_enough_89 : decode cX5_enough 89 = .ok (.iload_n 3, 1) := by decide +kernel
theorem dX5_enough_90 : decode cX5_enough 90 = .ok (.ireturn, 1) := by decide +kernel
theorem dX5_fits_0 : decode cX5_fits 0 = .ok (.iload_n 1, 1) := by decide +kernel
theorem dX5_fits_1 : decode cX5_fits 1 = .ok (.invokestatic 219, 3) := by decide +kernel
theorem dX5_fits_4 : decode cX5_fits 4 = .ok (.ifCond .eq 20, 3) := by decide +kernel
theorem dX5_fits_7 : decode cX5_fits 7 = .ok (.aload_n 0, 1) := by decide +kernel
theorem dX5_fits_8 : decode cX5_fits 8 = .ok (.iload_n 2, 1) := by decide +kernel
theorem dX5_fits_9 : decode cX5_fits 9 = .ok (.invokevirtual 135, 3) := by decide +kernel
theorem dX5_fits_12 : decode cX5_fits 12 = .ok (.ifCond .eq 12, 3) := by decide +kernel
theorem dX5_fits_15 : decode cX5_fits 15 = .ok (.iload_n 3, 1) := by decide +kernel
theorem dX5_fits_16 : decode cX5_fits 16 = .ok (.iconst 0, 1) := by decide +kernel
theorem dX5_fits_17 : decode cX5_fits 17 = .ok (.iconst 1, 1) := by decide +kernel
theorem dX5_fits_18 : decode cX5_fits 18 = .ok (.invokestatic 65, 3) := by decide +kernel
theorem dX5_fits_21 : decode cX5_fits 21 = .ok (.ifCond .ne 5, 3) := by decide +kernel
theorem dX5_fits_24 : decode cX5_fits 24 = .ok (.iconst (-1), 1) := by decide +kernel
theorem dX5_fits_25 : decode cX5_fits 25 = .ok (.ireturn, 1) := by decide +kernel
theorem dX5_fits_26 : decode cX5_fits 26 = .ok (.aload_n 0, 1) := by decide +kernel
theorem dX5_fits_27 : decode cX5_fits 27 = .ok (.getfield 47, 3) := by decide +kernel
theorem dX5_fits_30 : decode cX5_fits 30 = .ok (.iload_n 1, 1) := by decide +kernel
theorem dX5_fits_31 : decode cX5_fits 31 = .ok (.aaload, 1) := by decide +kernel
theorem dX5_fits_32 : decode cX5_fits 32 = .ok (.invokevirtual 222, 3) := by decide +kernel
theorem dX5_fits_35 : decode cX5_fits 35 = .ok (.ifCond .eq 6, 3) := by decide +kernel
theorem dX5_fits_38 : decode cX5_fits 38 = .ok (.bipush (-11), 2) := by decide +kernel
theorem dX5_fits_40 : decode cX5_fits 40 = .ok (.ireturn, 1) := by decide +kernel
theorem dX5_fits_41 : decode cX5_fits 41 = .ok (.iconst 0, 1) := by decide +kernel
theorem dX5_fits_42 : decode cX5_fits 42 = .ok (.istore 4, 2) := by decide +kernel
theorem dX5_fits_44 : decode cX5_fits 44 = .ok (.bipush (-3), 2) := by decide +kernel
theorem dX5_fits_46 : decode cX5_fits 46 = .ok (.istore 5, 2) := by decide +kernel
theorem dX5_fits_48 : decode cX5_fits 48 = .ok (.bipush 99, 2) := by decide +kernel
theorem dX5_fits_50 : decode cX5_fits 50 = .ok (.istore 6, 2) := by decide +kernel
theorem dX5_fits_52 : decode cX5_fits 52 = .ok (.iload 6, 2) := by decide +kernel
theorem dX5_fits_54 : decode cX5_fits 54 = .ok (.ifCond .lt 32, 3) := by decide +kernel
theorem dX5_fits_57 : decode cX5_fits 57 = .ok (.aload_n 0, 1) := by decide +kernel
theorem dX5_fits_58 : decode cX5_fits 58 = .ok (.aload_n 0, 1) := by decide +kernel
theorem dX5_fits_59 : decode cX5_fits 59 = .ok (.getfield 47, 3) := by decide +kernel
theorem dX5_fits_62 : decode cX5_fits 62 = .ok (.iload_n 1, 1) := by decide +kernel
theorem dX5_fits_63 : decode cX5_fits 63 = .ok (.aaload, 1) := by decide +kernel
theorem dX5_fits_64 : decode cX5_fits 64 = .ok (.iload_n 2, 1) := by decide +kernel
theorem dX5_fits_65 : decode cX5_fits 65 = .ok (.iload 6, 2) := by decide +kernel
theorem dX5_fits_67 : decode cX5_fits 67 = .ok (.invokevirtual 226, 3) := by decide +kernel
theorem dX5_fits_70 : decode cX5_fits 70 = .ok (.ifCond .eq 10, 3) := by decide +kernel
theorem dX5_fits_73 : decode cX5_fits 73 = .ok (.iinc 4 1, 3) := by decide +kernel
theorem dX5_fits_76 : decode cX5_fits 76 = .ok (.iload 6, 2) := by decide +kernel
theorem dX5_fits_78 : decode cX5_fits 78 = .ok (.istore 5, 2) := by decide +kernel
theorem dX5_fits_80 : decode cX5_fits 80 = .ok (.iinc 6 (-1), 3) := by decide +kernel
theorem dX5_fits_83 : decode cX5_fits 83 = .ok (.goto (-31), 3) := by decide +kernel
theorem dX5_fits_86 : decode cX5_fits 86 = .ok (.iload_n 3, 1) := by decide +kernel
theorem dX5_fits_87 : decode cX5_fits 87 = .ok (.ifCond .ne 8, 3) := by decide +kernel
theorem dX5_fits_90 : decode cX5_fits 90 = .ok (.iload 4, 2) := by decide +kernel
theorem dX5_fits_92 : decode cX5_fits 92 = .ok (.goto 5, 3) := by decide +kernel
theorem dX5_fits_95 : decode cX5_fits 95 = .ok (.iload 5, 2) := by decide +kernel
theorem dX5_fits_97 : decode cX5_fits 97 = .ok (.ireturn, 1) := by decide +kernel
theorem dX5_odds_0 : decode cX5_odds 0 = .ok (.iload_n 1, 1) := by decide +kernel
theorem dX5_odds_1 : decode cX5_odds 1 = .ok (.iconst 0, 1) := by decide +kernel
theorem dX5_odds_2 : decode cX5_odds 2 = .ok (.bipush 8, 2) := by decide +kernel
theorem dX5_odds_4 : decode cX5_odds 4 = .ok (.invokestatic 65, 3) := by decide +kernel
theorem dX5_odds_7 : decode cX5_odds 7 = .ok (.ifCond .eq 21, 3) := by decide +kernel
theorem dX5_odds_10 : decode cX5_odds 10 = .ok (.iload_n 2, 1) := by decide +kernel
theorem dX5_odds_11 : decode cX5_odds 11 = .ok (.iconst 0, 1) := by decide +kernel
theorem dX5_odds_12 : decode cX5_odds 12 = .ok (.iload_n 1, 1) := by decide +kernel
theorem dX5_odds_13 : decode cX5_odds 13 = .ok (.invokestatic 65, 3) := by decide +kernel
theorem dX5_odds_16 : decode cX5_odds 16 = .ok (.ifCond .eq 12, 3) := by decide +kernel
theorem dX5_odds_19 : decode cX5_odds 19 = .ok (.iload_n 3, 1) := by decide +kernel
theorem dX5_odds_20 : decode cX5_odds 20 = .ok (.iconst 0, 1) := by decide +kernel
theorem dX5_odds_21 : decode cX5_odds 21 = .ok (.iconst 1, 1) := by decide +kernel
theorem dX5_odds_22 : decode cX5_odds 22 = .ok (.invokestatic 65, 3) := by decide +kernel
theorem dX5_odds_25 : decode cX5_odds 25 = .ok (.ifCond .ne 7, 3) := by decide +kernel
theorem dX5_odds_28 : decode cX5_odds 28 = .ok (.ldc2_w 230, 3) := by decide +kernel
theorem dX5_odds_31 : decode cX5_odds 31 = .ok (.lreturn, 1) := by decide +kernel
theorem dX5_odds_32 : decode cX5_odds 32 = .ok (.aload_n 0, 1) := by decide +kernel
theorem dX5_odds_33 : decode cX5_odds 33 = .ok (.getfield 10, 3) := by decide +kernel
theorem dX5_odds_36 : decode cX5_odds 36 = .ok (.getfield 100, 3) := by decide +kernel
theorem dX5_odds_39 : decode cX5_odds 39 = .ok (.iconst 3, 1) := by decide +kernel
theorem dX5_odds_40 : decode cX5_odds 40 = .ok (.iaload, 1) := by decide +kernel
theorem dX5_odds_41 : decode cX5_odds 41 = .ok (.istore 4, 2) := by decide +kernel
theorem dX5_odds_43 : decode cX5_odds 43 = .ok (.iload_n 1, 1) := by decide +kernel
theorem dX5_odds_44 : decode cX5_odds 44 = .ok (.iload_n 2, 1) := by decide +kernel
theorem dX5_odds_45 : decode cX5_odds 45 = .ok (.invokestatic 232, 3) := by decide +kernel
theorem dX5_odds_48 : decode cX5_odds 48 = .ok (.iload 4, 2) := by decide +kernel
theorem dX5_odds_50 : decode cX5_odds 50 = .ok (.i2l, 1) := by decide +kernel
theorem dX5_odds_51 : decode cX5_odds 51 = .ok (.iload_n 2, 1) := by decide +kernel
theorem dX5_odds_52 : decode cX5_odds 52 = .ok (.invokestatic 236, 3) := by decide +kernel
theorem dX5_odds_55 : decode cX5_odds 55 = .ok (.lmul, 1) := by decide +kernel
theorem dX5_odds_56 : decode cX5_odds 56 = .ok (.bipush 100, 2) := by decide +kernel
theorem dX5_odds_58 : decode cX5_odds 58 = .ok (.iload 4, 2) := by decide +kernel
theorem dX5_odds_60 : decode cX5_odds 60 = .ok (.isub, 1) := by decide +kernel
theorem dX5_odds_61 : decode cX5_odds 61 = .ok (.i2l, 1) := by decide +kernel
theorem dX5_odds_62 : decode cX5_odds 62 = .ok (.iload_n 1, 1) := by decide +kernel
theorem dX5_odds_63 : decode cX5_odds 63 = .ok (.iload_n 2, 1) := by decide +kernel
theorem dX5_odds_64 : decode cX5_odds 64 = .ok (.isub, 1) := by decide +kernel
theorem dX5_odds_65 : decode cX5_odds 65 = .ok (.invokestatic 236, 3) := by decide +kernel
theorem dX5_odds_68 : decode cX5_odds 68 = .ok (.lmul, 1) := by decide +kernel
theorem dX5_odds_69 : decode cX5_odds 69 = .ok (.lstore 5, 2) := by decide +kernel
theorem dX5_odds_71 : decode cX5_odds 71 = .ok (.lload 5, 2) := by decide +kernel
theorem dX5_odds_73 : decode cX5_odds 73 = .ok (.ldc2_w 240, 3) := by decide +kernel
theorem dX5_odds_76 : decode cX5_odds 76 = .ok (.iload_n 1, 1) := by decide +kernel
theorem dX5_odds_77 : decode cX5_odds 77 = .ok (.invokestatic 236, 3) := by decide +kernel
theorem dX5_odds_80 : decode cX5_odds 80 = .ok (.iload_n 3, 1) := by decide +kernel
theorem dX5_odds_81 : decode cX5_odds 81 = .ok (.invokestatic 242, 3) := by decide +kernel
theorem dX5_odds_84 : decode cX5_odds 84 = .ok (.lreturn, 1) := by decide +kernel
theorem dX5_hope_0 : decode cX5_hope 0 = .ok (.iload_n 1, 1) := by decide +kernel
theorem dX5_hope_1 : decode cX5_hope 1 = .ok (.iconst 0, 1) := by decide +kernel
theorem dX5_hope_2 : decode cX5_hope 2 = .ok (.bipush 99, 2) := by decide +kernel
theorem dX5_hope_4 : decode cX5_hope 4 = .ok (.invokestatic 65, 3) := by decide +kernel
theorem dX5_hope_7 : decode cX5_hope 7 = .ok (.ifCond .eq 12, 3) := by decide +kernel
theorem dX5_hope_10 : decode cX5_hope 10 = .ok (.iload_n 2, 1) := by decide +kernel
theorem dX5_hope_11 : decode cX5_hope 11 = .ok (.iconst 0, 1) := by decide +kernel
theorem dX5_hope_12 : decode cX5_hope 12 = .ok (.iconst 1, 1) := by decide +kernel
theorem dX5_hope_13 : decode cX5_hope 13 = .ok (.invokestatic 65, 3) := by decide +kernel
theorem dX5_hope_16 : decode cX5_hope 16 = .ok (.ifCond .ne 7, 3) := by decide +kernel
theorem dX5_hope_19 : decode cX5_hope 19 = .ok (.ldc2_w 230, 3) := by decide +kernel
theorem dX5_hope_22 : decode cX5_hope 22 = .ok (.lreturn, 1) := by decide +kernel
theorem dX5_hope_23 : decode cX5_hope 23 = .ok (.iload_n 1, 1) := by decide +kernel
theorem dX5_hope_24 : decode cX5_hope 24 = .ok (.i2l, 1) := by decide +kernel
theorem dX5_hope_25 : decode cX5_hope 25 = .ok (.aload_n 0, 1) := by decide +kernel
theorem dX5_hope_26 : decode cX5_hope 26 = .ok (.getfield 10, 3) := by decide +kernel
theorem dX5_hope_29 : decode cX5_hope 29 = .ok (.getfield 100, 3) := by decide +kernel
theorem dX5_hope_32 : decode cX5_hope 32 = .ok (.iconst 3, 1) := by decide +kernel
theorem dX5_hope_33 : decode cX5_hope 33 = .ok (.iaload, 1) := by decide +kernel
theorem dX5_hope_34 : decode cX5_hope 34 = .ok (.i2l, 1) := by decide +kernel
theorem dX5_hope_35 : decode cX5_hope 35 = .ok (.lmul, 1) := by decide +kernel
theorem dX5_hope_36 : decode cX5_hope 36 = .ok (.ldc2_w 240, 3) := by decide +kernel
theorem dX5_hope_39 : decode cX5_hope 39 = .ok (.iload_n 2, 1) := by decide +kernel
theorem dX5_hope_40 : decode cX5_hope 40 = .ok (.invokestatic 242, 3) := by decide +kernel
theorem dX5_hope_43 : decode cX5_hope 43 = .ok (.lreturn, 1) := by decide +kernel
theorem dX5_prove_0 : decode cX5_prove 0 = .ok (.aload_n 0, 1) := by decide +kernel
theorem dX5_prove_1 : decode cX5_prove 1 = .ok (.iload_n 1, 1) := by decide +kernel
theorem dX5_prove_2 : decode cX5_prove 2 = .ok (.invokevirtual 135, 3) := by decide +kernel
theorem dX5_prove_5 : decode cX5_prove 5 = .ok (.ifCond .eq 13, 3) := by decide +kernel
theorem dX5_prove_8 : decode cX5_prove 8 = .ok (.iload_n 2, 1) := by decide +kernel
theorem dX5_prove_9 : decode cX5_prove 9 = .ok (.iconst 1, 1) := by decide +kernel
theorem dX5_prove_10 : decode cX5_prove 10 = .ok (.bipush 10, 2) := by decide +kernel
theorem dX5_prove_12 : decode cX5_prove 12 = .ok (.invokestatic 65, 3) := by decide +kernel
theorem dX5_prove_15 : decode cX5_prove 15 = .ok (.ifCond .ne 5, 3) := by decide +kernel
theorem dX5_prove_18 : decode cX5_prove 18 = .ok (.iconst (-1), 1) := by decide +kernel
theorem dX5_prove_19 : decode cX5_prove 19 = .ok (.ireturn, 1) := by decide +kernel
theorem dX5_prove_20 : decode cX5_prove 20 = .ok (.aload_n 0, 1) := by decide +kernel
theorem dX5_prove_21 : decode cX5_prove 21 = .ok (.invokevirtual 180, 3) := by decide +kernel
theorem dX5_prove_24 : decode cX5_prove 24 = .ok (.astore_n 3, 1) := by decide +kernel
theorem dX5_prove_25 : decode cX5_prove 25 = .ok (.aload_n 0, 1) := by decide +kernel
theorem dX5_prove_26 : decode cX5_prove 26 = .ok (.iload_n 2, 1) := by decide +kernel
theorem dX5_prove_27 : decode cX5_prove 27 = .ok (.aload_n 3, 1) := by decide +kernel
theorem dX5_prove_28 : decode cX5_prove 28 = .ok (.invokevirtual 150, 3) := by decide +kernel
theorem dX5_prove_31 : decode cX5_prove 31 = .ok (.invokestatic 246, 3) := by decide +kernel
theorem dX5_prove_34 : decode cX5_prove 34 = .ok (.putfield 40, 3) := by decide +kernel
theorem dX5_prove_37 : decode cX5_prove 37 = .ok (.iconst 0, 1) := by decide +kernel
theorem dX5_prove_38 : decode cX5_prove 38 = .ok (.istore 4, 2) := by decide +kernel
theorem dX5_prove_40 : decode cX5_prove 40 = .ok (.iload 4, 2) := by decide +kernel
theorem dX5_prove_42 : decode cX5_prove 42 = .ok (.aload_n 0, 1) := by decide +kernel
theorem dX5_prove_43 : decode cX5_prove 43 = .ok (.getfield 40, 3) := by decide +kernel
theorem dX5_prove_46 : decode cX5_prove 46 = .ok (.if_icmp .ge 63, 3) := by decide +kernel
theorem dX5_prove_49 : decode cX5_prove 49 = .ok (.aload_n 3, 1) := by decide +kernel
theorem dX5_prove_50 : decode cX5_prove 50 = .ok (.invokestatic 251, 3) := by decide +kernel
theorem dX5_prove_53 : decode cX5_prove 53 = .ok (.invokestatic 203, 3) := by decide +kernel
theorem dX5_prove_56 : decode cX5_prove 56 = .ok (.istore 5, 2) := by decide +kernel
theorem dX5_prove_58 : decode cX5_prove 58 = .ok (.aload_n 0, 1) := by decide +kernel
theorem dX5_prove_59 : decode cX5_prove 59 = .ok (.getfield 36, 3) := by decide +kernel
theorem dX5_prove_62 : decode cX5_prove 62 = .ok (.iload 4, 2) := by decide +kernel
theorem dX5_prove_64 : decode cX5_prove 64 = .ok (.iconst 3, 1) := by decide +kernel
theorem dX5_prove_65 : decode cX5_prove 65 = .ok (.imul, 1) := by decide +kernel
theorem dX5_prove_66 : decode cX5_prove 66 = .ok (.aload_n 3, 1) := by decide +kernel
theorem dX5_prove_67 : decode cX5_prove 67 = .ok (.getfield 147, 3) := by decide +kernel
theorem dX5_prove_70 : decode cX5_prove 70 = .ok (.iload_n 1, 1) := by decide +kernel
theorem dX5_prove_71 : decode cX5_prove 71 = .ok (.iaload, 1) := by decide +kernel
theorem dX5_prove_72 : decode cX5_prove 72 = .ok (.iastore, 1) := by decide +kernel
theorem dX5_prove_73 : decode cX5_prove 73 = .ok (.aload_n 0, 1) := by decide +kernel
theorem dX5_prove_74 : decode cX5_prove 74 = .ok (.getfield 36, 3) := by decide +kernel
theorem dX5_prove_77 : decode cX5_prove 77 = .ok (.iload 4, 2) := by decide +kernel
theorem dX5_prove_79 : decode cX5_prove 79 = .ok (.iconst 3, 1) := by decide +kernel
theorem dX5_prove_80 : decode cX5_prove 80 = .ok (.imul, 1) := by decide +kernel
theorem dX5_prove_81 : decode cX5_prove 81 = .ok (.iconst 1, 1) := by decide +kernel
theorem dX5_prove_82 : decode cX5_prove 82 = .ok (.iadd, 1) := by decide +kernel
theorem dX5_prove_83 : decode cX5_prove 83 = .ok (.aload_n 3, 1) := by decide +kernel
theorem dX5_prove_84 : decode cX5_prove 84 = .ok (.getfield 141, 3) := by decide +kernel
theorem dX5_prove_87 : decode cX5_prove 87 = .ok (.iload_n 1, 1) := by decide +kernel
theorem dX5_prove_88 : decode cX5_prove 88 = .ok (.iaload, 1) := by decide +kernel
theorem dX5_prove_89 : decode cX5_prove 89 = .ok (.iastore, 1) := by decide +kernel
theorem dX5_prove_90 : decode cX5_prove 90 = .ok (.aload_n 0, 1) := by decide +kernel
theorem dX5_prove_91 : decode cX5_prove 91 = .ok (.getfield 36, 3) := by decide +kernel
theorem dX5_prove_94 : decode cX5_prove 94 = .ok (.iload 4, 2) := by decide +kernel
theorem dX5_prove_96 : decode cX5_prove 96 = .ok (.iconst 3, 1) := by decide +kernel
theorem dX5_prove_97 : decode cX5_prove 97 = .ok (.imul, 1) := by decide +kernel
theorem dX5_prove_98 : decode cX5_prove 98 = .ok (.iconst 2, 1) := by decide +kernel
theorem dX5_prove_99 : decode cX5_prove 99 = .ok (.iadd, 1) := by decide +kernel
theorem dX5_prove_100 : decode cX5_prove 100 = .ok (.iload 5, 2) := by decide +kernel
theorem dX5_prove_102 : decode cX5_prove 102 = .ok (.iastore, 1) := by decide +kernel
theorem dX5_prove_103 : decode cX5_prove 103 = .ok (.iinc 4 1, 3) := by decide +kernel
theorem dX5_prove_106 : decode cX5_prove 106 = .ok (.goto (-66), 3) := by decide +kernel
theorem dX5_prove_109 : decode cX5_prove 109 = .ok (.aload_n 0, 1) := by decide +kernel
theorem dX5_prove_110 : decode cX5_prove 110 = .ok (.getfield 40, 3) := by decide +kernel
theorem dX5_prove_113 : decode cX5_prove 113 = .ok (.ireturn, 1) := by decide +kernel
theorem dX5_row_0 : decode cX5_row 0 = .ok (.aload_n 0, 1) := by decide +kernel
theorem dX5_row_1 : decode cX5_row 1 = .ok (.iload_n 1, 1) := by decide +kernel
theorem dX5_row_2 : decode cX5_row 2 = .ok (.iload_n 2, 1) := by decide +kernel
theorem dX5_row_3 : decode cX5_row 3 = .ok (.invokevirtual 254, 3) := by decide +kernel
theorem dX5_row_6 : decode cX5_row 6 = .ok (.ifCond .eq 16, 3) := by decide +kernel
theorem dX5_row_9 : decode cX5_row 9 = .ok (.aload_n 0, 1) := by decide +kernel
theorem dX5_row_10 : decode cX5_row 10 = .ok (.getfield 36, 3) := by decide +kernel
theorem dX5_row_13 : decode cX5_row 13 = .ok (.iload_n 1, 1) := by decide +kernel
theorem dX5_row_14 : decode cX5_row 14 = .ok (.iconst 3, 1) := by decide +kernel
theorem dX5_row_15 : decode cX5_row 15 = .ok (.imul, 1) := by decide +kernel
theorem dX5_row_16 : decode cX5_row 16 = .ok (.iload_n 2, 1) := by decide +kernel
theorem dX5_row_17 : decode cX5_row 17 = .ok (.iadd, 1) := by decide +kernel
theorem dX5_row_18 : decode cX5_row 18 = .ok (.iaload, 1) := by decide +kernel
theorem dX5_row_19 : decode cX5_row 19 = .ok (.goto 5, 3) := by decide +kernel
theorem dX5_row_22 : decode cX5_row 22 = .ok (.bipush (-9), 2) := by decide +kernel
theorem dX5_row_24 : decode cX5_row 24 = .ok (.ireturn, 1) := by decide +kernel
theorem dX5_alterRow_0 : decode cX5_alterRow 0 = .ok (.aload_n 0, 1) := by decide +kernel
theorem dX5_alterRow_1 : decode cX5_alterRow 1 = .ok (.iload_n 1, 1) := by decide +kernel
theorem dX5_alterRow_2 : decode cX5_alterRow 2 = .ok (.iload_n 2, 1) := by decide +kernel
theorem dX5_alterRow_3 : decode cX5_alterRow 3 = .ok (.invokevirtual 254, 3) := by decide +kernel
theorem dX5_alterRow_6 : decode cX5_alterRow 6 = .ok (.ifCond .ne 6, 3) := by decide +kernel
theorem dX5_alterRow_9 : decode cX5_alterRow 9 = .ok (.bipush (-9), 2) := by decide +kernel
theorem dX5_alterRow_11 : decode cX5_alterRow 11 = .ok (.ireturn, 1) := by decide +kernel
theorem dX5_alterRow_12 : decode cX5_alterRow 12 = .ok (.aload_n 0, 1) := by decide +kernel
theorem dX5_alterRow_13 : decode cX5_alterRow 13 = .ok (.getfield 36, 3) := by decide +kernel
theorem dX5_alterRow_16 : decode cX5_alterRow 16 = .ok (.iload_n 1, 1) := by decide +kernel
theorem dX5_alterRow_17 : decode cX5_alterRow 17 = .ok (.iconst 3, 1) := by decide +kernel
theorem dX5_alterRow_18 : decode cX5_alterRow 18 = .ok (.imul, 1) := by decide +kernel
theorem dX5_alterRow_19 : decode cX5_alterRow 19 = .ok (.iload_n 2, 1) := by decide +kernel
theorem dX5_alterRow_20 : decode cX5_alterRow 20 = .ok (.iadd, 1) := by decide +kernel
theorem dX5_alterRow_21 : decode cX5_alterRow 21 = .ok (.iaload, 1) := by decide +kernel
theorem dX5_alterRow_22 : decode cX5_alterRow 22 = .ok (.istore 4, 2) := by decide +kernel
theorem dX5_alterRow_24 : decode cX5_alterRow 24 = .ok (.aload_n 0, 1) := by decide +kernel
theorem dX5_alterRow_25 : decode cX5_alterRow 25 = .ok (.getfield 36, 3) := by decide +kernel
theorem dX5_alterRow_28 : decode cX5_alterRow 28 = .ok (.iload_n 1, 1) := by decide +kernel
theorem dX5_alterRow_29 : decode cX5_alterRow 29 = .ok (.iconst 3, 1) := by decide +kernel
theorem dX5_alterRow_30 : decode cX5_alterRow 30 = .ok (.imul, 1) := by decide +kernel
theorem dX5_alterRow_31 : decode cX5_alterRow 31 = .ok (.iload_n 2, 1) := by decide +kernel
theorem dX5_alterRow_32 : decode cX5_alterRow 32 = .ok (.iadd, 1) := by decide +kernel
theorem dX5_alterRow_33 : decode cX5_alterRow 33 = .ok (.iload_n 3, 1) := by decide +kernel
theorem dX5_alterRow_34 : decode cX5_alterRow 34 = .ok (.iastore, 1) := by decide +kernel
theorem dX5_alterRow_35 : decode cX5_alterRow 35 = .ok (.iload 4, 2) := by decide +kernel
theorem dX5_alterRow_37 : decode cX5_alterRow 37 = .ok (.ireturn, 1) := by decide +kernel
theorem dX5_judge_0 : decode cX5_judge 0 = .ok (.aload_n 0, 1) := by decide +kernel
theorem dX5_judge_1 : decode cX5_judge 1 = .ok (.iload_n 1, 1) := by decide +kernel
theorem dX5_judge_2 : decode cX5_judge 2 = .ok (.invokevirtual 135, 3) := by decide +kernel
theorem dX5_judge_5 : decode cX5_judge 5 = .ok (.ifCond .ne 5, 3) := by decide +kernel
theorem dX5_judge_8 : decode cX5_judge 8 = .ok (.iconst (-1), 1) := by decide +kernel
theorem dX5_judge_9 : decode cX5_judge 9 = .ok (.ireturn, 1) := by decide +kernel
theorem dX5_judge_10 : decode cX5_judge 10 = .ok (.aload_n 0, 1) := by decide +kernel
theorem dX5_judge_11 : decode cX5_judge 11 = .ok (.invokevirtual 180, 3) := by decide +kernel
theorem dX5_judge_14 : decode cX5_judge 14 = .ok (.astore_n 2, 1) := by decide +kernel
theorem dX5_judge_15 : decode cX5_judge 15 = .ok (.iconst 0, 1) := by decide +kernel
theorem dX5_judge_16 : decode cX5_judge 16 = .ok (.istore_n 3, 1) := by decide +kernel
theorem dX5_judge_17 : decode cX5_judge 17 = .ok (.iload_n 3, 1) := by decide +kernel
theorem dX5_judge_18 : decode cX5_judge 18 = .ok (.aload_n 0, 1) := by decide +kernel
theorem dX5_judge_19 : decode cX5_judge 19 = .ok (.getfield 40, 3) := by decide +kernel
theorem dX5_judge_22 : decode cX5_judge 22 = .ok (.if_icmp .ge 96, 3) := by decide +kernel
theorem dX5_judge_25 : decode cX5_judge 25 = .ok (.aload_n 2, 1) := by decide +kernel
theorem dX5_judge_26 : decode cX5_judge 26 = .ok (.invokevirtual 150, 3) := by decide +kernel
theorem dX5_judge_29 : decode cX5_judge 29 = .ok (.ifCond .ne 7, 3) := by decide +kernel
theorem dX5_judge_32 : decode cX5_judge 32 = .ok (.iload_n 3, 1) := by decide +kernel
theorem dX5_judge_33 : decode cX5_judge 33 = .ok (.iconst 1, 1) := by decide +kernel
theorem dX5_judge_34 : decode cX5_judge 34 = .ok (.iadd, 1) := by decide +kernel
theorem dX5_judge_35 : decode cX5_judge 35 = .ok (.ireturn, 1) := by decide +kernel
theorem dX5_judge_36 : decode cX5_judge 36 = .ok (.aload_n 2, 1) := by decide +kernel
theorem dX5_judge_37 : decode cX5_judge 37 = .ok (.invokestatic 251, 3) := by decide +kernel
theorem dX5_judge_40 : decode cX5_judge 40 = .ok (.invokestatic 203, 3) := by decide +kernel
theorem dX5_judge_43 : decode cX5_judge 43 = .ok (.istore 4, 2) := by decide +kernel
theorem dX5_judge_45 : decode cX5_judge 45 = .ok (.aload_n 0, 1) := by decide +kernel
theorem dX5_judge_46 : decode cX5_judge 46 = .ok (.getfield 36, 3) := by decide +kernel
theorem dX5_judge_49 : decode cX5_judge 49 = .ok (.iload_n 3, 1) := by decide +kernel
theorem dX5_judge_50 : decode cX5_judge 50 = .ok (.iconst 3, 1) := by decide +kernel
theorem dX5_judge_51 : decode cX5_judge 51 = .ok (.imul, 1) := by decide +kernel
theorem dX5_judge_52 : decode cX5_judge 52 = .ok (.iaload, 1) := by decide +kernel
theorem dX5_judge_53 : decode cX5_judge 53 = .ok (.aload_n 2, 1) := by decide +kernel
theorem dX5_judge_54 : decode cX5_judge 54 = .ok (.getfield 147, 3) := by decide +kernel
theorem dX5_judge_57 : decode cX5_judge 57 = .ok (.iload_n 1, 1) := by decide +kernel
theorem dX5_judge_58 : decode cX5_judge 58 = .ok (.iaload, 1) := by decide +kernel
theorem dX5_judge_59 : decode cX5_judge 59 = .ok (.if_icmp .ne 41, 3) := by decide +kernel
theorem dX5_judge_62 : decode cX5_judge 62 = .ok (.aload_n 0, 1) := by decide +kernel
theorem dX5_judge_63 : decode cX5_judge 63 = .ok (.getfield 36, 3) := by decide +kernel
theorem dX5_judge_66 : decode cX5_judge 66 = .ok (.iload_n 3, 1) := by decide +kernel
theorem dX5_judge_67 : decode cX5_judge 67 = .ok (.iconst 3, 1) := by decide +kernel
theorem dX5_judge_68 : decode cX5_judge 68 = .ok (.imul, 1) := by decide +kernel
theorem dX5_judge_69 : decode cX5_judge 69 = .ok (.iconst 1, 1) := by decide +kernel
theorem dX5_judge_70 : decode cX5_judge 70 = .ok (.iadd, 1) := by decide +kernel
theorem dX5_judge_71 : decode cX5_judge 71 = .ok (.iaload, 1) := by decide +kernel
theorem dX5_judge_72 : decode cX5_judge 72 = .ok (.aload_n 2, 1) := by decide +kernel
theorem dX5_judge_73 : decode cX5_judge 73 = .ok (.getfield 141, 3) := by decide +kernel
theorem dX5_judge_76 : decode cX5_judge 76 = .ok (.iload_n 1, 1) := by decide +kernel
theorem dX5_judge_77 : decode cX5_judge 77 = .ok (.iaload, 1) := by decide +kernel
theorem dX5_judge_78 : decode cX5_judge 78 = .ok (.if_icmp .ne 22, 3) := by decide +kernel
theorem dX5_judge_81 : decode cX5_judge 81 = .ok (.aload_n 0, 1) := by decide +kernel
theorem dX5_judge_82 : decode cX5_judge 82 = .ok (.getfield 36, 3) := by decide +kernel
theorem dX5_judge_85 : decode cX5_judge 85 = .ok (.iload_n 3, 1) := by decide +kernel
theorem dX5_judge_86 : decode cX5_judge 86 = .ok (.iconst 3, 1) := by decide +kernel
theorem dX5_judge_87 : decode cX5_judge 87 = .ok (.imul, 1) := by decide +kernel
theorem dX5_judge_88 : decode cX5_judge 88 = .ok (.iconst 2, 1) := by decide +kernel
theorem dX5_judge_89 : decode cX5_judge 89 = .ok (.iadd, 1) := by decide +kernel
theorem dX5_judge_90 : decode cX5_judge 90 = .ok (.iaload, 1) := by decide +kernel
theorem dX5_judge_91 : decode cX5_judge 91 = .ok (.iload 4, 2) := by decide +kernel
theorem dX5_judge_93 : decode cX5_judge 93 = .ok (.if_icmp .ne 7, 3) := by decide +kernel
theorem dX5_judge_96 : decode cX5_judge 96 = .ok (.iconst 1, 1) := by decide +kernel
theorem dX5_judge_97 : decode cX5_judge 97 = .ok (.goto 4, 3) := by decide +kernel
theorem dX5_judge_100 : decode cX5_judge 100 = .ok (.iconst 0, 1) := by decide +kernel
theorem dX5_judge_101 : decode cX5_judge 101 = .ok (.istore 5, 2) := by decide +kernel
theorem dX5_judge_103 : decode cX5_judge 103 = .ok (.iload 5, 2) := by decide +kernel
theorem dX5_judge_105 : decode cX5_judge 105 = .ok (.ifCond .ne 7, 3) := by decide +kernel
theorem dX5_judge_108 : decode cX5_judge 108 = .ok (.iload_n 3, 1) := by decide +kernel
theorem dX5_judge_109 : decode cX5_judge 109 = .ok (.iconst 1, 1) := by decide +kernel
theorem dX5_judge_110 : decode cX5_judge 110 = .ok (.iadd, 1) := by decide +kernel
theorem dX5_judge_111 : decode cX5_judge 111 = .ok (.ireturn, 1) := by decide +kernel
theorem dX5_judge_112 : decode cX5_judge 112 = .ok (.iinc 3 1, 3) := by decide +kernel
theorem dX5_judge_115 : decode cX5_judge 115 = .ok (.goto (-98), 3) := by decide +kernel
theorem dX5_judge_118 : decode cX5_judge 118 = .ok (.iconst 0, 1) := by decide +kernel
theorem dX5_judge_119 : decode cX5_judge 119 = .ok (.ireturn, 1) := by decide +kernel
theorem dX5_minds_0 : decode cX5_minds 0 = .ok (.iload_n 1, 1) := by decide +kernel
theorem dX5_minds_1 : decode cX5_minds 1 = .ok (.invokestatic 219, 3) := by decide +kernel
theorem dX5_minds_4 : decode cX5_minds 4 = .ok (.ifCond .eq 36, 3) := by decide +kernel
theorem dX5_minds_7 : decode cX5_minds 7 = .ok (.aload_n 0, 1) := by decide +kernel
theorem dX5_minds_8 : decode cX5_minds 8 = .ok (.iload_n 3, 1) := by decide +kernel
theorem dX5_minds_9 : decode cX5_minds 9 = .ok (.invokevirtual 135, 3) := by decide +kernel
theorem dX5_minds_12 : decode cX5_minds 12 = .ok (.ifCond .eq 28, 3) := by decide +kernel
theorem dX5_minds_15 : decode cX5_minds 15 = .ok (.iload 4, 2) := by decide +kernel
theorem dX5_minds_17 : decode cX5_minds 17 = .ok (.iconst 0, 1) := by decide +kernel
theorem dX5_minds_18 : decode cX5_minds 18 = .ok (.bipush 8, 2) := by decide +kernel
theorem dX5_minds_20 : decode cX5_minds 20 = .ok (.invokestatic 65, 3) := by decide +kernel
theorem dX5_minds_23 : decode cX5_minds 23 = .ok (.ifCond .eq 17, 3) := by decide +kernel
theorem dX5_minds_26 : decode cX5_minds 26 = .ok (.iload_n 3, 1) := by decide +kernel
theorem dX5_minds_27 : decode cX5_minds 27 = .ok (.iload 4, 2) := by decide +kernel
theorem dX5_minds_29 : decode cX5_minds 29 = .ok (.iadd, 1) := by decide +kernel
theorem dX5_minds_30 : decode cX5_minds 30 = .ok (.aload_n 0, 1) := by decide +kernel
theorem dX5_minds_31 : decode cX5_minds 31 = .ok (.getfield 10, 3) := by decide +kernel
theorem dX5_minds_34 : decode cX5_minds 34 = .ok (.getfield 90, 3) := by decide +kernel
theorem dX5_minds_37 : decode cX5_minds 37 = .ok (.if_icmp .le 5, 3) := by decide +kernel
theorem dX5_minds_40 : decode cX5_minds 40 = .ok (.iconst (-1), 1) := by decide +kernel
theorem dX5_minds_41 : decode cX5_minds 41 = .ok (.ireturn, 1) := by decide +kernel
theorem dX5_minds_42 : decode cX5_minds 42 = .ok (.aload_n 0, 1) := by decide +kernel
theorem dX5_minds_43 : decode cX5_minds 43 = .ok (.getfield 47, 3) := by decide +kernel
theorem dX5_minds_46 : decode cX5_minds 46 = .ok (.iload_n 1, 1) := by decide +kernel
theorem dX5_minds_47 : decode cX5_minds 47 = .ok (.aaload, 1) := by decide +kernel
theorem dX5_minds_48 : decode cX5_minds 48 = .ok (.astore 5, 2) := by decide +kernel
theorem dX5_minds_50 : decode cX5_minds 50 = .ok (.aload 5, 2) := by decide +kernel
theorem dX5_minds_52 : decode cX5_minds 52 = .ok (.invokevirtual 222, 3) := by decide +kernel
theorem dX5_minds_55 : decode cX5_minds 55 = .ok (.ifCond .eq 6, 3) := by decide +kernel
theorem dX5_minds_58 : decode cX5_minds 58 = .ok (.bipush (-11), 2) := by decide +kernel
theorem dX5_minds_60 : decode cX5_minds 60 = .ok (.ireturn, 1) := by decide +kernel
theorem dX5_minds_61 : decode cX5_minds 61 = .ok (.aload 5, 2) := by decide +kernel
theorem dX5_minds_63 : decode cX5_minds 63 = .ok (.getfield 257, 3) := by decide +kernel
theorem dX5_minds_66 : decode cX5_minds 66 = .ok (.ifCond .eq 6, 3) := by decide +kernel
theorem dX5_minds_69 : decode cX5_minds 69 = .ok (.bipush (-13), 2) := by decide +kernel
theorem dX5_minds_71 : decode cX5_minds 71 = .ok (.ireturn, 1) := by decide +kernel
theorem dX5_minds_72 : decode cX5_minds 72 = .ok (.iload_n 2, 1) := by decide +kernel
theorem dX5_minds_73 : decode cX5_minds 73 = .ok (.iconst 0, 1) := by decide +kernel
theorem dX5_minds_74 : decode cX5_minds 74 = .ok (.aload 5, 2) := by decide +kernel
theorem dX5_minds_76 : decode cX5_minds 76 = .ok (.getfield 260, 3) := by decide +kernel
theorem dX5_minds_79 : decode cX5_minds 79 = .ok (.invokestatic 65, 3) := by decide +kernel
theorem dX5_minds_82 : decode cX5_minds 82 = .ok (.ifCond .eq 15, 3) := by decide +kernel
theorem dX5_minds_85 : decode cX5_minds 85 = .ok (.iload_n 2, 1) := by decide +kernel
theorem dX5_minds_86 : decode cX5_minds 86 = .ok (.iload 4, 2) := by decide +kernel
theorem dX5_minds_88 : decode cX5_minds 88 = .ok (.iadd, 1) := by decide +kernel
theorem dX5_minds_89 : decode cX5_minds 89 = .ok (.aload 5, 2) := by decide +kernel
theorem dX5_minds_91 : decode cX5_minds 91 = .ok (.getfield 260, 3) := by decide +kernel
theorem dX5_minds_94 : decode cX5_minds 94 = .ok (.if_icmp .le 6, 3) := by decide +kernel
theorem dX5_minds_97 : decode cX5_minds 97 = .ok (.bipush (-12), 2) := by decide +kernel
theorem dX5_minds_99 : decode cX5_minds 99 = .ok (.ireturn, 1) := by decide +kernel
theorem dX5_minds_100 : decode cX5_minds 100 = .ok (.iconst 0, 1) := by decide +kernel
theorem dX5_minds_101 : decode cX5_minds 101 = .ok (.istore 6, 2) := by decide +kernel
theorem dX5_minds_103 : decode cX5_minds 103 = .ok (.iload 6, 2) := by decide +kernel
theorem dX5_minds_105 : decode cX5_minds 105 = .ok (.iload 4, 2) := by decide +kernel
theorem dX5_minds_107 : decode cX5_minds 107 = .ok (.if_icmp .ge 35, 3) := by decide +kernel
theorem dX5_minds_110 : decode cX5_minds 110 = .ok (.aload_n 0, 1) := by decide +kernel
theorem dX5_minds_111 : decode cX5_minds 111 = .ok (.getfield 10, 3) := by decide +kernel
theorem dX5_minds_114 : decode cX5_minds 114 = .ok (.getfield 141, 3) := by decide +kernel
theorem dX5_minds_117 : decode cX5_minds 117 = .ok (.iload_n 3, 1) := by decide +kernel
theorem dX5_minds_118 : decode cX5_minds 118 = .ok (.iload 6, 2) := by decide +kernel
theorem dX5_minds_120 : decode cX5_minds 120 = .ok (.iadd, 1) := by decide +kernel
theorem dX5_minds_121 : decode cX5_minds 121 = .ok (.aload 5, 2) := by decide +kernel
theorem dX5_minds_123 : decode cX5_minds 123 = .ok (.getfield 263, 3) := by decide +kernel
theorem dX5_minds_126 : decode cX5_minds 126 = .ok (.iload_n 2, 1) := by decide +kernel
theorem dX5_minds_127 : decode cX5_minds 127 = .ok (.iload 6, 2) := by decide +kernel
theorem dX5_minds_129 : decode cX5_minds 129 = .ok (.iadd, 1) := by decide +kernel
theorem dX5_minds_130 : decode cX5_minds 130 = .ok (.laload, 1) := by decide +kernel
theorem dX5_minds_131 : decode cX5_minds 131 = .ok (.l2i, 1) := by decide +kernel
theorem dX5_minds_132 : decode cX5_minds 132 = .ok (.invokestatic 267, 3) := by decide +kernel
theorem dX5_minds_135 : decode cX5_minds 135 = .ok (.iastore, 1) := by decide +kernel
theorem dX5_minds_136 : decode cX5_minds 136 = .ok (.iinc 6 1, 3) := by decide +kernel
theorem dX5_minds_139 : decode cX5_minds 139 = .ok (.goto (-36), 3) := by decide +kernel
theorem dX5_minds_142 : decode cX5_minds 142 = .ok (.iload 4, 2) := by decide +kernel
theorem dX5_minds_144 : decode cX5_minds 144 = .ok (.ireturn, 1) := by decide +kernel
theorem dX5_sheet_0 : decode cX5_sheet 0 = .ok (.iload_n 1, 1) := by decide +kernel
theorem dX5_sheet_1 : decode cX5_sheet 1 = .ok (.invokestatic 219, 3) := by decide +kernel
theorem dX5_sheet_4 : decode cX5_sheet 4 = .ok (.ifCond .eq 12, 3) := by decide +kernel
theorem dX5_sheet_7 : decode cX5_sheet 7 = .ok (.iload_n 2, 1) := by decide +kernel
theorem dX5_sheet_8 : decode cX5_sheet 8 = .ok (.iconst (-1), 1) := by decide +kernel
theorem dX5_sheet_9 : decode cX5_sheet 9 = .ok (.iconst 3, 1) := by decide +kernel
theorem dX5_sheet_10 : decode cX5_sheet 10 = .ok (.invokestatic 65, 3) := by decide +kernel
theorem dX5_sheet_13 : decode cX5_sheet 13 = .ok (.ifCond .ne 5, 3) := by decide +kernel
theorem dX5_sheet_16 : decode cX5_sheet 16 = .ok (.iconst (-1), 1) := by decide +kernel
theorem dX5_sheet_17 : decode cX5_sheet 17 = .ok (.ireturn, 1) := by decide +kernel
theorem dX5_sheet_18 : decode cX5_sheet 18 = .ok (.iload_n 2, 1) := by decide +kernel
theorem dX5_sheet_19 : decode cX5_sheet 19 = .ok (.iconst (-1), 1) := by decide +kernel
theorem dX5_sheet_20 : decode cX5_sheet 20 = .ok (.if_icmp .ne 16, 3) := by decide +kernel
theorem dX5_sheet_23 : decode cX5_sheet 23 = .ok (.aload_n 0, 1) := by decide +kernel
theorem dX5_sheet_24 : decode cX5_sheet 24 = .ok (.getfield 47, 3) := by decide +kernel
theorem dX5_sheet_27 : decode cX5_sheet 27 = .ok (.iload_n 1, 1) := by decide +kernel
theorem dX5_sheet_28 : decode cX5_sheet 28 = .ok (.aaload, 1) := by decide +kernel
theorem dX5_sheet_29 : decode cX5_sheet 29 = .ok (.iload_n 2, 1) := by decide +kernel
theorem dX5_sheet_30 : decode cX5_sheet 30 = .ok (.iconst 0, 1) := by decide +kernel
theorem dX5_sheet_31 : decode cX5_sheet 31 = .ok (.invokevirtual 270, 3) := by decide +kernel
theorem dX5_sheet_34 : decode cX5_sheet 34 = .ok (.iconst 1, 1) := by decide +kernel
theorem dX5_sheet_35 : decode cX5_sheet 35 = .ok (.ireturn, 1) := by decide +kernel
theorem dX5_sheet_36 : decode cX5_sheet 36 = .ok (.iload_n 3, 1) := by decide +kernel
theorem dX5_sheet_37 : decode cX5_sheet 37 = .ok (.bipush 40, 2) := by decide +kernel
theorem dX5_sheet_39 : decode cX5_sheet 39 = .ok (.if_icmp .le 5, 3) := by decide +kernel
theorem dX5_sheet_42 : decode cX5_sheet 42 = .ok (.iconst (-1), 1) := by decide +kernel
theorem dX5_sheet_43 : decode cX5_sheet 43 = .ok (.ireturn, 1) := by decide +kernel
theorem dX5_sheet_44 : decode cX5_sheet 44 = .ok (.iload_n 3, 1) := by decide +kernel
theorem dX5_sheet_45 : decode cX5_sheet 45 = .ok (.ifCond .ge 6, 3) := by decide +kernel
theorem dX5_sheet_48 : decode cX5_sheet 48 = .ok (.bipush (-14), 2) := by decide +kernel
theorem dX5_sheet_50 : decode cX5_sheet 50 = .ok (.ireturn, 1) := by decide +kernel
theorem dX5_sheet_51 : decode cX5_sheet 51 = .ok (.aload_n 0, 1) := by decide +kernel
theorem dX5_sheet_52 : decode cX5_sheet 52 = .ok (.getfield 47, 3) := by decide +kernel
theorem dX5_sheet_55 : decode cX5_sheet 55 = .ok (.iload_n 1, 1) := by decide +kernel
theorem dX5_sheet_56 : decode cX5_sheet 56 = .ok (.aaload, 1) := by decide +kernel
theorem dX5_sheet_57 : decode cX5_sheet 57 = .ok (.iload_n 2, 1) := by decide +kernel
theorem dX5_sheet_58 : decode cX5_sheet 58 = .ok (.iload_n 3, 1) := by decide +kernel
theorem dX5_sheet_59 : decode cX5_sheet 59 = .ok (.invokevirtual 270, 3) := by decide +kernel
theorem dX5_sheet_62 : decode cX5_sheet 62 = .ok (.iconst 1, 1) := by decide +kernel
theorem dX5_sheet_63 : decode cX5_sheet 63 = .ok (.ireturn, 1) := by decide +kernel
theorem dX5_put_0 : decode cX5_put 0 = .ok (.iload_n 1, 1) := by decide +kernel
theorem dX5_put_1 : decode cX5_put 1 = .ok (.invokestatic 219, 3) := by decide +kernel
theorem dX5_put_4 : decode cX5_put 4 = .ok (.ifCond .ne 5, 3) := by decide +kernel
theorem dX5_put_7 : decode cX5_put 7 = .ok (.iconst (-1), 1) := by decide +kernel
theorem dX5_put_8 : decode cX5_put 8 = .ok (.ireturn, 1) := by decide +kernel
theorem dX5_put_9 : decode cX5_put 9 = .ok (.aload_n 0, 1) := by decide +kernel
theorem dX5_put_10 : decode cX5_put 10 = .ok (.getfield 47, 3) := by decide +kernel
theorem dX5_put_13 : decode cX5_put 13 = .ok (.iload_n 1, 1) := by decide +kernel
theorem dX5_put_14 : decode cX5_put 14 = .ok (.aaload, 1) := by decide +kernel
theorem dX5_put_15 : decode cX5_put 15 = .ok (.astore 4, 2) := by decide +kernel
theorem dX5_put_17 : decode cX5_put 17 = .ok (.aload 4, 2) := by decide +kernel
theorem dX5_put_19 : decode cX5_put 19 = .ok (.invokevirtual 222, 3) := by decide +kernel
theorem dX5_put_22 : decode cX5_put 22 = .ok (.ifCond .eq 6, 3) := by decide +kernel
theorem dX5_put_25 : decode cX5_put 25 = .ok (.bipush (-11), 2) := by decide +kernel
theorem dX5_put_27 : decode cX5_put 27 = .ok (.ireturn, 1) := by decide +kernel
theorem dX5_put_28 : decode cX5_put 28 = .ok (.iload_n 2, 1) := by decide +kernel
theorem dX5_put_29 : decode cX5_put 29 = .ok (.iconst 0, 1) := by decide +kernel
theorem dX5_put_30 : decode cX5_put 30 = .ok (.aload 4, 2) := by decide +kernel
theorem dX5_put_32 : decode cX5_put 32 = .ok (.getfield 260, 3) := by decide +kernel
theorem dX5_put_35 : decode cX5_put 35 = .ok (.iconst 1, 1) := by decide +kernel
theorem dX5_put_36 : decode cX5_put 36 = .ok (.isub, 1) := by decide +kernel
theorem dX5_put_37 : decode cX5_put 37 = .ok (.invokestatic 65, 3) := by decide +kernel
theorem dX5_put_40 : decode cX5_put 40 = .ok (.ifCond .ne 6, 3) := by decide +kernel
theorem dX5_put_43 : decode cX5_put 43 = .ok (.bipush (-12), 2) := by decide +kernel
theorem dX5_put_45 : decode cX5_put 45 = .ok (.ireturn, 1) := by decide +kernel
theorem dX5_put_46 : decode cX5_put 46 = .ok (.aload 4, 2) := by decide +kernel
theorem dX5_put_48 : decode cX5_put 48 = .ok (.getfield 263, 3) := by decide +kernel
theorem dX5_put_51 : decode cX5_put 51 = .ok (.iload_n 2, 1) := by decide +kernel
theorem dX5_put_52 : decode cX5_put 52 = .ok (.aload 4, 2) := by decide +kernel
theorem dX5_put_54 : decode cX5_put 54 = .ok (.iload_n 3, 1) := by decide +kernel
theorem dX5_put_55 : decode cX5_put 55 = .ok (.invokevirtual 273, 3) := by decide +kernel
theorem dX5_put_58 : decode cX5_put 58 = .ok (.lastore, 1) := by decide +kernel
theorem dX5_put_59 : decode cX5_put 59 = .ok (.iconst 1, 1) := by decide +kernel
theorem dX5_put_60 : decode cX5_put 60 = .ok (.ireturn, 1) := by decide +kernel
theorem dX5_item_0 : decode cX5_item 0 = .ok (.iload_n 1, 1) := by decide +kernel
theorem dX5_item_1 : decode cX5_item 1 = .ok (.invokestatic 219, 3) := by decide +kernel
theorem dX5_item_4 : decode cX5_item 4 = .ok (.ifCond .eq 12, 3) := by decide +kernel
theorem dX5_item_7 : decode cX5_item 7 = .ok (.iload_n 2, 1) := by decide +kernel
theorem dX5_item_8 : decode cX5_item 8 = .ok (.iconst 0, 1) := by decide +kernel
theorem dX5_item_9 : decode cX5_item 9 = .ok (.iconst 3, 1) := by decide +kernel
theorem dX5_item_10 : decode cX5_item 10 = .ok (.invokestatic 65, 3) := by decide +kernel
theorem dX5_item_13 : decode cX5_item 13 = .ok (.ifCond .ne 5, 3) := by decide +kernel
theorem dX5_item_16 : decode cX5_item 16 = .ok (.iconst (-1), 1) := by decide +kernel
theorem dX5_item_17 : decode cX5_item 17 = .ok (.ireturn, 1) := by decide +kernel
theorem dX5_item_18 : decode cX5_item 18 = .ok (.aload_n 0, 1) := by decide +kernel
theorem dX5_item_19 : decode cX5_item 19 = .ok (.getfield 47, 3) := by decide +kernel
theorem dX5_item_22 : decode cX5_item 22 = .ok (.iload_n 1, 1) := by decide +kernel
theorem dX5_item_23 : decode cX5_item 23 = .ok (.aaload, 1) := by decide +kernel
theorem dX5_item_24 : decode cX5_item 24 = .ok (.astore 4, 2) := by decide +kernel
theorem dX5_item_26 : decode cX5_item 26 = .ok (.aload 4, 2) := by decide +kernel
theorem dX5_item_28 : decode cX5_item 28 = .ok (.invokevirtual 222, 3) := by decide +kernel
theorem dX5_item_31 : decode cX5_item 31 = .ok (.ifCond .eq 6, 3) := by decide +kernel
theorem dX5_item_34 : decode cX5_item 34 = .ok (.bipush (-11), 2) := by decide +kernel
theorem dX5_item_36 : decode cX5_item 36 = .ok (.ireturn, 1) := by decide +kernel
theorem dX5_item_37 : decode cX5_item 37 = .ok (.aload 4, 2) := by decide +kernel
theorem dX5_item_39 : decode cX5_item 39 = .ok (.getfield 257, 3) := by decide +kernel
theorem dX5_item_42 : decode cX5_item 42 = .ok (.iload_n 2, 1) := by decide +kernel
theorem dX5_item_43 : decode cX5_item 43 = .ok (.if_icmp .eq 6, 3) := by decide +kernel
theorem dX5_item_46 : decode cX5_item 46 = .ok (.bipush (-13), 2) := by decide +kernel
theorem dX5_item_48 : decode cX5_item 48 = .ok (.ireturn, 1) := by decide +kernel
theorem dX5_item_49 : decode cX5_item 49 = .ok (.iload_n 3, 1) := by decide +kernel
theorem dX5_item_50 : decode cX5_item 50 = .ok (.iconst 0, 1) := by decide +kernel
theorem dX5_item_51 : decode cX5_item 51 = .ok (.aload 4, 2) := by decide +kernel
theorem dX5_item_53 : decode cX5_item 53 = .ok (.getfield 260, 3) := by decide +kernel
theorem dX5_item_56 : decode cX5_item 56 = .ok (.iconst 1, 1) := by decide +kernel
theorem dX5_item_57 : decode cX5_item 57 = .ok (.isub, 1) := by decide +kernel
theorem dX5_item_58 : decode cX5_item 58 = .ok (.invokestatic 65, 3) := by decide +kernel
theorem dX5_item_61 : decode cX5_item 61 = .ok (.ifCond .eq 14, 3) := by decide +kernel
theorem dX5_item_64 : decode cX5_item 64 = .ok (.aload 4, 2) := by decide +kernel
theorem dX5_item_66 : decode cX5_item 66 = .ok (.getfield 263, 3) := by decide +kernel
theorem dX5_item_69 : decode cX5_item 69 = .ok (.iload_n 3, 1) := by decide +kernel
theorem dX5_item_70 : decode cX5_item 70 = .ok (.laload, 1) := by decide +kernel
theorem dX5_item_71 : decode cX5_item 71 = .ok (.l2i, 1) := by decide +kernel
theorem dX5_item_72 : decode cX5_item 72 = .ok (.goto 5, 3) := by decide +kernel
theorem dX5_item_75 : decode cX5_item 75 = .ok (.bipush (-12), 2) := by decide +kernel
theorem dX5_item_77 : decode cX5_item 77 = .ok (.ireturn, 1) := by decide +kernel
theorem dX5_shelf_0 : decode cX5_shelf 0 = .ok (.iload_n 1, 1) := by decide +kernel
theorem dX5_shelf_1 : decode cX5_shelf 1 = .ok (.invokestatic 219, 3) := by decide +kernel
theorem dX5_shelf_4 : decode cX5_shelf 4 = .ok (.ifCond .ne 5, 3) := by decide +kernel
theorem dX5_shelf_7 : decode cX5_shelf 7 = .ok (.iconst (-1), 1) := by decide +kernel
theorem dX5_shelf_8 : decode cX5_shelf 8 = .ok (.ireturn, 1) := by decide +kernel
theorem dX5_shelf_9 : decode cX5_shelf 9 = .ok (.iload_n 2, 1) := by decide +kernel
theorem dX5_shelf_10 : decode cX5_shelf 10 = .ok (.tableswitch 85 0 2 #[26, 48, 74], 26) := by decide +kernel
theorem dX5_shelf_36 : decode cX5_shelf 36 = .ok (.aload_n 0, 1) := by decide +kernel
theorem dX5_shelf_37 : decode cX5_shelf 37 = .ok (.iload_n 3, 1) := by decide +kernel
theorem dX5_shelf_38 : decode cX5_shelf 38 = .ok (.invokevirtual 135, 3) := by decide +kernel
theorem dX5_shelf_41 : decode cX5_shelf 41 = .ok (.ifCond .ne 5, 3) := by decide +kernel
theorem dX5_shelf_44 : decode cX5_shelf 44 = .ok (.iconst (-1), 1) := by decide +kernel
theorem dX5_shelf_45 : decode cX5_shelf 45 = .ok (.ireturn, 1) := by decide +kernel
theorem dX5_shelf_46 : decode cX5_shelf 46 = .ok (.aload_n 0, 1) := by decide +kernel
theorem dX5_shelf_47 : decode cX5_shelf 47 = .ok (.getfield 54, 3) := by decide +kernel
theorem dX5_shelf_50 : decode cX5_shelf 50 = .ok (.iload_n 1, 1) := by decide +kernel
theorem dX5_shelf_51 : decode cX5_shelf 51 = .ok (.aaload, 1) := by decide +kernel
theorem dX5_shelf_52 : decode cX5_shelf 52 = .ok (.iload_n 3, 1) := by decide +kernel
theorem dX5_shelf_53 : decode cX5_shelf 53 = .ok (.invokevirtual 277, 3) := by decide +kernel
theorem dX5_shelf_56 : decode cX5_shelf 56 = .ok (.iconst 1, 1) := by decide +kernel
theorem dX5_shelf_57 : decode cX5_shelf 57 = .ok (.ireturn, 1) := by decide +kernel
theorem dX5_shelf_58 : decode cX5_shelf 58 = .ok (.iload_n 3, 1) := by decide +kernel
theorem dX5_shelf_59 : decode cX5_shelf 59 = .ok (.invokestatic 219, 3) := by decide +kernel
theorem dX5_shelf_62 : decode cX5_shelf 62 = .ok (.ifCond .ne 5, 3) := by decide +kernel
theorem dX5_shelf_65 : decode cX5_shelf 65 = .ok (.iconst (-1), 1) := by decide +kernel
theorem dX5_shelf_66 : decode cX5_shelf 66 = .ok (.ireturn, 1) := by decide +kernel
theorem dX5_shelf_67 : decode cX5_shelf 67 = .ok (.aload_n 0, 1) := by decide +kernel
theorem dX5_shelf_68 : decode cX5_shelf 68 = .ok (.getfield 54, 3) := by decide +kernel
theorem dX5_shelf_71 : decode cX5_shelf 71 = .ok (.iload_n 1, 1) := by decide +kernel
theorem dX5_shelf_72 : decode cX5_shelf 72 = .ok (.aaload, 1) := by decide +kernel
theorem dX5_shelf_73 : decode cX5_shelf 73 = .ok (.aload_n 0, 1) := by decide +kernel
theorem dX5_shelf_74 : decode cX5_shelf 74 = .ok (.getfield 47, 3) := by decide +kernel
theorem dX5_shelf_77 : decode cX5_shelf 77 = .ok (.iload_n 3, 1) := by decide +kernel
theorem dX5_shelf_78 : decode cX5_shelf 78 = .ok (.aaload, 1) := by decide +kernel
theorem dX5_shelf_79 : decode cX5_shelf 79 = .ok (.invokevirtual 280, 3) := by decide +kernel
theorem dX5_shelf_82 : decode cX5_shelf 82 = .ok (.iconst 1, 1) := by decide +kernel
theorem dX5_shelf_83 : decode cX5_shelf 83 = .ok (.ireturn, 1) := by decide +kernel
theorem dX5_shelf_84 : decode cX5_shelf 84 = .ok (.aload_n 0, 1) := by decide +kernel
theorem dX5_shelf_85 : decode cX5_shelf 85 = .ok (.getfield 54, 3) := by decide +kernel
theorem dX5_shelf_88 : decode cX5_shelf 88 = .ok (.iload_n 1, 1) := by decide +kernel
theorem dX5_shelf_89 : decode cX5_shelf 89 = .ok (.aaload, 1) := by decide +kernel
theorem dX5_shelf_90 : decode cX5_shelf 90 = .ok (.invokevirtual 284, 3) := by decide +kernel
theorem dX5_shelf_93 : decode cX5_shelf 93 = .ok (.iconst 1, 1) := by decide +kernel
theorem dX5_shelf_94 : decode cX5_shelf 94 = .ok (.ireturn, 1) := by decide +kernel
theorem dX5_shelf_95 : decode cX5_shelf 95 = .ok (.iconst (-1), 1) := by decide +kernel
theorem dX5_shelf_96 : decode cX5_shelf 96 = .ok (.ireturn, 1) := by decide +kernel
theorem dX5_taken_0 : decode cX5_taken 0 = .ok (.iload_n 2, 1) := by decide +kernel
theorem dX5_taken_1 : decode cX5_taken 1 = .ok (.bipush 10, 2) := by decide +kernel
theorem dX5_taken_3 : decode cX5_taken 3 = .ok (.bipush 13, 2) := by decide +kernel
theorem dX5_taken_5 : decode cX5_taken 5 = .ok (.invokestatic 65, 3) := by decide +kernel
theorem dX5_taken_8 : decode cX5_taken 8 = .ok (.istore_n 3, 1) := by decide +kernel
theorem dX5_taken_9 : decode cX5_taken 9 = .ok (.iload_n 1, 1) := by decide +kernel
theorem dX5_taken_10 : decode cX5_taken 10 = .ok (.invokestatic 219, 3) := by decide +kernel
theorem dX5_taken_13 : decode cX5_taken 13 = .ok (.ifCond .eq 14, 3) := by decide +kernel
theorem dX5_taken_16 : decode cX5_taken 16 = .ok (.iload_n 3, 1) := by decide +kernel
theorem dX5_taken_17 : decode cX5_taken 17 = .ok (.ifCond .ne 12, 3) := by decide +kernel
theorem dX5_taken_20 : decode cX5_taken 20 = .ok (.iload_n 2, 1) := by decide +kernel
theorem dX5_taken_21 : decode cX5_taken 21 = .ok (.invokestatic 129, 3) := by decide +kernel
theorem dX5_taken_24 : decode cX5_taken 24 = .ok (.ifCond .ne 5, 3) := by decide +kernel
theorem dX5_taken_27 : decode cX5_taken 27 = .ok (.iconst (-1), 1) := by decide +kernel
theorem dX5_taken_28 : decode cX5_taken 28 = .ok (.ireturn, 1) := by decide +kernel
theorem dX5_taken_29 : decode cX5_taken 29 = .ok (.aload_n 0, 1) := by decide +kernel
theorem dX5_taken_30 : decode cX5_taken 30 = .ok (.getfield 54, 3) := by decide +kernel
theorem dX5_taken_33 : decode cX5_taken 33 = .ok (.iload_n 1, 1) := by decide +kernel
theorem dX5_taken_34 : decode cX5_taken 34 = .ok (.aaload, 1) := by decide +kernel
theorem dX5_taken_35 : decode cX5_taken 35 = .ok (.astore 4, 2) := by decide +kernel
theorem dX5_taken_37 : decode cX5_taken 37 = .ok (.aload 4, 2) := by decide +kernel
theorem dX5_taken_39 : decode cX5_taken 39 = .ok (.getfield 287, 3) := by decide +kernel
theorem dX5_taken_42 : decode cX5_taken 42 = .ok (.iconst 2, 1) := by decide +kernel
theorem dX5_taken_43 : decode cX5_taken 43 = .ok (.if_icmp .ne 30, 3) := by decide +kernel
theorem dX5_taken_46 : decode cX5_taken 46 = .ok (.iload_n 3, 1) := by decide +kernel
theorem dX5_taken_47 : decode cX5_taken 47 = .ok (.ifCond .eq 23, 3) := by decide +kernel
theorem dX5_taken_50 : decode cX5_taken 50 = .ok (.aload 4, 2) := by decide +kernel
theorem dX5_taken_52 : decode cX5_taken 52 = .ok (.getfield 290, 3) := by decide +kernel
theorem dX5_taken_55 : decode cX5_taken 55 = .ok (.iload_n 2, 1) := by decide +kernel
theorem dX5_taken_56 : decode cX5_taken 56 = .ok (.bipush 10, 2) := by decide +kernel
theorem dX5_taken_58 : decode cX5_taken 58 = .ok (.isub, 1) := by decide +kernel
theorem dX5_taken_59 : decode cX5_taken 59 = .ok (.if_icmp .ne 11, 3) := by decide +kernel
theorem dX5_taken_62 : decode cX5_taken 62 = .ok (.aload 4, 2) := by decide +kernel
theorem dX5_taken_64 : decode cX5_taken 64 = .ok (.getfield 291, 3) := by decide +kernel
theorem dX5_taken_67 : decode cX5_taken 67 = .ok (.goto 5, 3) := by decide +kernel
theorem dX5_taken_70 : decode cX5_taken 70 = .ok (.bipush (-13), 2) := by decide +kernel
theorem dX5_taken_72 : decode cX5_taken 72 = .ok (.ireturn, 1) := by decide +kernel
theorem dX5_taken_73 : decode cX5_taken 73 = .ok (.aload_n 0, 1) := by decide +kernel
theorem dX5_taken_74 : decode cX5_taken 74 = .ok (.aload 4, 2) := by decide +kernel
theorem dX5_taken_76 : decode cX5_taken 76 = .ok (.invokevirtual 292, 3) := by decide +kernel
theorem dX5_taken_79 : decode cX5_taken 79 = .ok (.ifCond .ne 6, 3) := by decide +kernel
theorem dX5_taken_82 : decode cX5_taken 82 = .ok (.bipush (-11), 2) := by decide +kernel
theorem dX5_taken_84 : decode cX5_taken 84 = .ok (.ireturn, 1) := by decide +kernel
theorem dX5_taken_85 : decode cX5_taken 85 = .ok (.iload_n 3, 1) := by decide +kernel
theorem dX5_taken_86 : decode cX5_taken 86 = .ok (.ifCond .ne 31, 3) := by decide +kernel
theorem dX5_taken_89 : decode cX5_taken 89 = .ok (.aload_n 0, 1) := by decide +kernel
theorem dX5_taken_90 : decode cX5_taken 90 = .ok (.getfield 10, 3) := by decide +kernel
theorem dX5_taken_93 : decode cX5_taken 93 = .ok (.getfield 138, 3) := by decide +kernel
theorem dX5_taken_96 : decode cX5_taken 96 = .ok (.aload 4, 2) := by decide +kernel
theorem dX5_taken_98 : decode cX5_taken 98 = .ok (.getfield 296, 3) := by decide +kernel
theorem dX5_taken_101 : decode cX5_taken 101 = .ok (.iaload, 1) := by decide +kernel
theorem dX5_taken_102 : decode cX5_taken 102 = .ok (.iload_n 2, 1) := by decide +kernel
theorem dX5_taken_103 : decode cX5_taken 103 = .ok (.invokestatic 299, 3) := by decide +kernel
theorem dX5_taken_106 : decode cX5_taken 106 = .ok (.ifCond .eq 11, 3) := by decide +kernel
theorem dX5_taken_109 : decode cX5_taken 109 = .ok (.aload 4, 2) := by decide +kernel
theorem dX5_taken_111 : decode cX5_taken 111 = .ok (.getfield 296, 3) := by decide +kernel
theorem dX5_taken_114 : decode cX5_taken 114 = .ok (.goto 5, 3) := by decide +kernel
theorem dX5_taken_117 : decode cX5_taken 117 = .ok (.bipush (-13), 2) := by decide +kernel
theorem dX5_taken_119 : decode cX5_taken 119 = .ok (.ireturn, 1) := by decide +kernel
theorem dX5_act_0 : decode cX5_act 0 = .ok (.aload_n 0, 1) := by decide +kernel
theorem dX5_act_1 : decode cX5_act 1 = .ok (.getfield 61, 3) := by decide +kernel
theorem dX5_act_4 : decode cX5_act 4 = .ok (.iconst 0, 1) := by decide +kernel
theorem dX5_act_5 : decode cX5_act 5 = .ok (.putfield 302, 3) := by decide +kernel
theorem dX5_act_8 : decode cX5_act 8 = .ok (.iload_n 1, 1) := by decide +kernel
theorem dX5_act_9 : decode cX5_act 9 = .ok (.invokestatic 219, 3) := by decide +kernel
theorem dX5_act_12 : decode cX5_act 12 = .ok (.ifCond .eq 25, 3) := by decide +kernel
theorem dX5_act_15 : decode cX5_act 15 = .ok (.iload_n 2, 1) := by decide +kernel
theorem dX5_act_16 : decode cX5_act 16 = .ok (.iconst 0, 1) := by decide +kernel
theorem dX5_act_17 : decode cX5_act 17 = .ok (.iconst 3, 1) := by decide +kernel
theorem dX5_act_18 : decode cX5_act 18 = .ok (.invokestatic 65, 3) := by decide +kernel
theorem dX5_act_21 : decode cX5_act 21 = .ok (.ifCond .eq 16, 3) := by decide +kernel
theorem dX5_act_24 : decode cX5_act 24 = .ok (.aload_n 0, 1) := by decide +kernel
theorem dX5_act_25 : decode cX5_act 25 = .ok (.aload_n 0, 1) := by decide +kernel
theorem dX5_act_26 : decode cX5_act 26 = .ok (.getfield 54, 3) := by decide +kernel
theorem dX5_act_29 : decode cX5_act 29 = .ok (.iload_n 1, 1) := by decide +kernel
theorem dX5_act_30 : decode cX5_act 30 = .ok (.aaload, 1) := by decide +kernel
theorem dX5_act_31 : decode cX5_act 31 = .ok (.invokevirtual 292, 3) := by decide +kernel
theorem dX5_act_34 : decode cX5_act 34 = .ok (.ifCond .ne 5, 3) := by decide +kernel
theorem dX5_act_37 : decode cX5_act 37 = .ok (.iconst 0, 1) := by decide +kernel
theorem dX5_act_38 : decode cX5_act 38 = .ok (.ireturn, 1) := by decide +kernel
theorem dX5_act_39 : decode cX5_act 39 = .ok (.aload_n 0, 1) := by decide +kernel
theorem dX5_act_40 : decode cX5_act 40 = .ok (.getfield 54, 3) := by decide +kernel
theorem dX5_act_43 : decode cX5_act 43 = .ok (.iload_n 1, 1) := by decide +kernel
theorem dX5_act_44 : decode cX5_act 44 = .ok (.aaload, 1) := by decide +kernel
theorem dX5_act_45 : decode cX5_act 45 = .ok (.getfield 296, 3) := by decide +kernel
theorem dX5_act_48 : decode cX5_act 48 = .ok (.istore 4, 2) := by decide +kernel
theorem dX5_act_50 : decode cX5_act 50 = .ok (.aload_n 0, 1) := by decide +kernel
theorem dX5_act_51 : decode cX5_act 51 = .ok (.getfield 61, 3) := by decide +kernel
theorem dX5_act_54 : decode cX5_act 54 = .ok (.aload_n 0, 1) := by decide +kernel
theorem dX5_act_55 : decode cX5_act 55 = .ok (.getfield 10, 3) := by decide +kernel
theorem dX5_act_58 : decode cX5_act 58 = .ok (.getfield 138, 3) := by decide +kernel
theorem dX5_act_61 : decode cX5_act 61 = .ok (.iload 4, 2) := by decide +kernel
theorem dX5_act_63 : decode cX5_act 63 = .ok (.iaload, 1) := by decide +kernel
theorem dX5_act_64 : decode cX5_act 64 = .ok (.iload 4, 2) := by decide +kernel
theorem dX5_act_66 : decode cX5_act 66 = .ok (.aload_n 0, 1) := by decide +kernel
theorem dX5_act_67 : decode cX5_act 67 = .ok (.getfield 10, 3) := by decide +kernel
theorem dX5_act_70 : decode cX5_act 70 = .ok (.getfield 141, 3) := by decide +kernel
theorem dX5_act_73 : decode cX5_act 73 = .ok (.iload 4, 2) := by decide +kernel
theorem dX5_act_75 : decode cX5_act 75 = .ok (.iaload, 1) := by decide +kernel
theorem dX5_act_76 : decode cX5_act 76 = .ok (.invokevirtual 305, 3) := by decide +kernel
theorem dX5_act_79 : decode cX5_act 79 = .ok (.aload_n 0, 1) := by decide +kernel
theorem dX5_act_80 : decode cX5_act 80 = .ok (.getfield 61, 3) := by decide +kernel
theorem dX5_act_83 : decode cX5_act 83 = .ok (.aload_n 0, 1) := by decide +kernel
theorem dX5_act_84 : decode cX5_act 84 = .ok (.getfield 10, 3) := by decide +kernel
theorem dX5_act_87 : decode cX5_act 87 = .ok (.getfield 138, 3) := by decide +kernel
theorem dX5_act_90 : decode cX5_act 90 = .ok (.iload 4, 2) := by decide +kernel
theorem dX5_act_92 : decode cX5_act 92 = .ok (.iaload, 1) := by decide +kernel
theorem dX5_act_93 : decode cX5_act 93 = .ok (.iload_n 2, 1) := by decide +kernel
theorem dX5_act_94 : decode cX5_act 94 = .ok (.invokestatic 308, 3) := by decide +kernel
theorem dX5_act_97 : decode cX5_act 97 = .ok (.iload_n 3, 1) := by decide +kernel
theorem dX5_act_98 : decode cX5_act 98 = .ok (.iconst 0, 1) := by decide +kernel
theorem dX5_act_99 : decode cX5_act 99 = .ok (.invokestatic 311, 3) := by decide +kernel
theorem dX5_act_102 : decode cX5_act 102 = .ok (.istore 5, 2) := by decide +kernel
theorem dX5_act_104 : decode cX5_act 104 = .ok (.aload_n 0, 1) := by decide +kernel
theorem dX5_act_105 : decode cX5_act 105 = .ok (.getfield 61, 3) := by decide +kernel
theorem dX5_act_108 : decode cX5_act 108 = .ok (.getfield 315, 3) := by decide +kernel
theorem dX5_act_111 : decode cX5_act 111 = .ok (.ifCond .eq 8, 3) := by decide +kernel
theorem dX5_act_114 : decode cX5_act 114 = .ok (.bipush (-15), 2) := by decide +kernel
theorem dX5_act_116 : decode cX5_act 116 = .ok (.goto 5, 3) := by decide +kernel
theorem dX5_act_119 : decode cX5_act 119 = .ok (.iload 5, 2) := by decide +kernel
theorem dX5_act_121 : decode cX5_act 121 = .ok (.ireturn, 1) := by decide +kernel
theorem dX5_trace_0 : decode cX5_trace 0 = .ok (.iload_n 1, 1) := by decide +kernel
theorem dX5_trace_1 : decode cX5_trace 1 = .ok (.iconst 0, 1) := by decide +kernel
theorem dX5_trace_2 : decode cX5_trace 2 = .ok (.aload_n 0, 1) := by decide +kernel
theorem dX5_trace_3 : decode cX5_trace 3 = .ok (.getfield 61, 3) := by decide +kernel
theorem dX5_trace_6 : decode cX5_trace 6 = .ok (.getfield 302, 3) := by decide +kernel
theorem dX5_trace_9 : decode cX5_trace 9 = .ok (.iconst 1, 1) := by decide +kernel
theorem dX5_trace_10 : decode cX5_trace 10 = .ok (.isub, 1) := by decide +kernel
theorem dX5_trace_11 : decode cX5_trace 11 = .ok (.invokestatic 65, 3) := by decide +kernel
theorem dX5_trace_14 : decode cX5_trace 14 = .ok (.ifCond .eq 15, 3) := by decide +kernel
theorem dX5_trace_17 : decode cX5_trace 17 = .ok (.aload_n 0, 1) := by decide +kernel
theorem dX5_trace_18 : decode cX5_trace 18 = .ok (.getfield 61, 3) := by decide +kernel
theorem dX5_trace_21 : decode cX5_trace 21 = .ok (.getfield 318, 3) := by decide +kernel
theorem dX5_trace_24 : decode cX5_trace 24 = .ok (.iload_n 1, 1) := by decide +kernel
theorem dX5_trace_25 : decode cX5_trace 25 = .ok (.iaload, 1) := by decide +kernel
theorem dX5_trace_26 : decode cX5_trace 26 = .ok (.goto 5, 3) := by decide +kernel
theorem dX5_trace_29 : decode cX5_trace 29 = .ok (.bipush (-3), 2) := by decide +kernel
theorem dX5_trace_31 : decode cX5_trace 31 = .ok (.ireturn, 1) := by decide +kernel
theorem dX5_many_0 : decode cX5_many 0 = .ok (.iload_n 1, 1) := by decide +kernel
theorem dX5_many_1 : decode cX5_many 1 = .ok (.tableswitch 102 0 6 #[43, 51, 59, 70, 81, 86, 94], 43) := by decide +kernel
theorem dX5_many_44 : decode cX5_many 44 = .ok (.aload_n 0, 1) := by decide +kernel
theorem dX5_many_45 : decode cX5_many 45 = .ok (.getfield 10, 3) := by decide +kernel
theorem dX5_many_48 : decode cX5_many 48 = .ok (.getfield 90, 3) := by decide +kernel
theorem dX5_many_51 : decode cX5_many 51 = .ok (.ireturn, 1) := by decide +kernel
theorem dX5_many_52 : decode cX5_many 52 = .ok (.aload_n 0, 1) := by decide +kernel
theorem dX5_many_53 : decode cX5_many 53 = .ok (.getfield 10, 3) := by decide +kernel
theorem dX5_many_56 : decode cX5_many 56 = .ok (.invokevirtual 150, 3) := by decide +kernel
theorem dX5_many_59 : decode cX5_many 59 = .ok (.ireturn, 1) := by decide +kernel
theorem dX5_many_60 : decode cX5_many 60 = .ok (.aload_n 0, 1) := by decide +kernel
theorem dX5_many_61 : decode cX5_many 61 = .ok (.getfield 10, 3) := by decide +kernel
theorem dX5_many_64 : decode cX5_many 64 = .ok (.invokevirtual 184, 3) := by decide +kernel
theorem dX5_many_67 : decode cX5_many 67 = .ok (.invokestatic 203, 3) := by decide +kernel
theorem dX5_many_70 : decode cX5_many 70 = .ok (.ireturn, 1) := by decide +kernel
theorem dX5_many_71 : decode cX5_many 71 = .ok (.aload_n 0, 1) := by decide +kernel
theorem dX5_many_72 : decode cX5_many 72 = .ok (.getfield 10, 3) := by decide +kernel
theorem dX5_many_75 : decode cX5_many 75 = .ok (.invokevirtual 190, 3) := by decide +kernel
theorem dX5_many_78 : decode cX5_many 78 = .ok (.invokestatic 203, 3) := by decide +kernel
theorem dX5_many_81 : decode cX5_many 81 = .ok (.ireturn, 1) := by decide +kernel
theorem dX5_many_82 : decode cX5_many 82 = .ok (.aload_n 0, 1) := by decide +kernel
theorem dX5_many_83 : decode cX5_many 83 = .ok (.getfield 40, 3) := by decide +kernel
theorem dX5_many_86 : decode cX5_many 86 = .ok (.ireturn, 1) := by decide +kernel
theorem dX5_many_87 : decode cX5_many 87 = .ok (.aload_n 0, 1) := by decide +kernel
theorem dX5_many_88 : decode cX5_many 88 = .ok (.getfield 32, 3) := by decide +kernel
theorem dX5_many_91 : decode cX5_many 91 = .ok (.getfield 73, 3) := by decide +kernel
theorem dX5_many_94 : decode cX5_many 94 = .ok (.ireturn, 1) := by decide +kernel
theorem dX5_many_95 : decode cX5_many 95 = .ok (.aload_n 0, 1) := by decide +kernel
theorem dX5_many_96 : decode cX5_many 96 = .ok (.getfield 61, 3) := by decide +kernel
theorem dX5_many_99 : decode cX5_many 99 = .ok (.getfield 302, 3) := by decide +kernel
theorem dX5_many_102 : decode cX5_many 102 = .ok (.ireturn, 1) := by decide +kernel
theorem dX5_many_103 : decode cX5_many 103 = .ok (.iconst (-1), 1) := by decide +kernel
theorem dX5_many_104 : decode cX5_many 104 = .ok (.ireturn, 1) := by decide +kernel
theorem dX5_keep_0 : decode cX5_keep 0 = .ok (.aload_n 0, 1) := by decide +kernel
theorem dX5_keep_1 : decode cX5_keep 1 = .ok (.getfield 16, 3) := by decide +kernel
theorem dX5_keep_4 : decode cX5_keep 4 = .ok (.aload_n 0, 1) := by decide +kernel
theorem dX5_keep_5 : decode cX5_keep 5 = .ok (.getfield 10, 3) := by decide +kernel
theorem dX5_keep_8 : decode cX5_keep 8 = .ok (.invokevirtual 86, 3) := by decide +kernel
theorem dX5_keep_11 : decode cX5_keep 11 = .ok (.aload_n 0, 1) := by decide +kernel
theorem dX5_keep_12 : decode cX5_keep 12 = .ok (.iconst 1, 1) := by decide +kernel
theorem dX5_keep_13 : decode cX5_keep 13 = .ok (.putfield 25, 3) := by decide +kernel
theorem dX5_keep_16 : decode cX5_keep 16 = .ok (.iconst 1, 1) := by decide +kernel
theorem dX5_keep_17 : decode cX5_keep 17 = .ok (.ireturn, 1) := by decide +kernel
theorem dX5_again_0 : decode cX5_again 0 = .ok (.aload_n 0, 1) := by decide +kernel
theorem dX5_again_1 : decode cX5_again 1 = .ok (.getfield 25, 3) := by decide +kernel
theorem dX5_again_4 : decode cX5_again 4 = .ok (.ifCond .ne 6, 3) := by decide +kernel
theorem dX5_again_7 : decode cX5_again 7 = .ok (.bipush (-3), 2) := by decide +kernel
theorem dX5_again_9 : decode cX5_again 9 = .ok (.ireturn, 1) := by decide +kernel
theorem dX5_again_10 : decode cX5_again 10 = .ok (.aload_n 0, 1) := by decide +kernel
theorem dX5_again_11 : decode cX5_again 11 = .ok (.getfield 10, 3) := by decide +kernel
theorem dX5_again_14 : decode cX5_again 14 = .ok (.aload_n 0, 1) := by decide +kernel
theorem dX5_again_15 : decode cX5_again 15 = .ok (.getfield 16, 3) := by decide +kernel
theorem dX5_again_18 : decode cX5_again 18 = .ok (.invokevirtual 86, 3) := by decide +kernel
theorem dX5_again_21 : decode cX5_again 21 = .ok (.aload_n 0, 1) := by decide +kernel
theorem dX5_again_22 : decode cX5_again 22 = .ok (.getfield 10, 3) := by decide +kernel
theorem dX5_again_25 : decode cX5_again 25 = .ok (.getfield 90, 3) := by decide +kernel
theorem dX5_again_28 : decode cX5_again 28 = .ok (.ireturn, 1) := by decide +kernel
theorem dX5_within_0 : decode cX5_within 0 = .ok (.iload_n 0, 1) := by decide +kernel
theorem dX5_within_1 : decode cX5_within 1 = .ok (.iload_n 1, 1) := by decide +kernel
theorem dX5_within_2 : decode cX5_within 2 = .ok (.if_icmp .lt 12, 3) := by decide +kernel
theorem dX5_within_5 : decode cX5_within 5 = .ok (.iload_n 0, 1) := by decide +kernel
theorem dX5_within_6 : decode cX5_within 6 = .ok (.iload_n 2, 1) := by decide +kernel
theorem dX5_within_7 : decode cX5_within 7 = .ok (.if_icmp .gt 7, 3) := by decide +kernel
theorem dX5_within_10 : decode cX5_within 10 = .ok (.iconst 1, 1) := by decide +kernel
theorem dX5_within_11 : decode cX5_within 11 = .ok (.goto 4, 3) := by decide +kernel
theorem dX5_within_14 : decode cX5_within 14 = .ok (.iconst 0, 1) := by decide +kernel
theorem dX5_within_15 : decode cX5_within 15 = .ok (.ireturn, 1) := by decide +kernel
theorem dX5_has_0 : decode cX5_has 0 = .ok (.iload_n 0, 1) := by decide +kernel
theorem dX5_has_1 : decode cX5_has 1 = .ok (.iload_n 1, 1) := by decide +kernel
theorem dX5_has_2 : decode cX5_has 2 = .ok (.ishr, 1) := by decide +kernel
theorem dX5_has_3 : decode cX5_has 3 = .ok (.iconst 1, 1) := by decide +kernel
theorem dX5_has_4 : decode cX5_has 4 = .ok (.iand, 1) := by decide +kernel
theorem dX5_has_5 : decode cX5_has 5 = .ok (.iconst 1, 1) := by decide +kernel
theorem dX5_has_6 : decode cX5_has 6 = .ok (.if_icmp .ne 7, 3) := by decide +kernel
theorem dX5_has_9 : decode cX5_has 9 = .ok (.iconst 1, 1) := by decide +kernel
theorem dX5_has_10 : decode cX5_has 10 = .ok (.goto 4, 3) := by decide +kernel
theorem dX5_has_13 : decode cX5_has 13 = .ok (.iconst 0, 1) := by decide +kernel
theorem dX5_has_14 : decode cX5_has 14 = .ok (.ireturn, 1) := by decide +kernel
theorem dX5_only_0 : decode cX5_only 0 = .ok (.iconst 1, 1) := by decide +kernel
theorem dX5_only_1 : decode cX5_only 1 = .ok (.iload_n 0, 1) := by decide +kernel
theorem dX5_only_2 : decode cX5_only 2 = .ok (.ishl, 1) := by decide +kernel
theorem dX5_only_3 : decode cX5_only 3 = .ok (.ireturn, 1) := by decide +kernel
theorem dX5_heldTender_0 : decode cX5_heldTender 0 = .ok (.iconst 0, 1) := by decide +kernel
theorem dX5_heldTender_1 : decode cX5_heldTender 1 = .ok (.bipush 99, 2) := by decide +kernel
theorem dX5_heldTender_3 : decode cX5_heldTender 3 = .ok (.iload_n 0, 1) := by decide +kernel
theorem dX5_heldTender_4 : decode cX5_heldTender 4 = .ok (.invokestatic 246, 3) := by decide +kernel
theorem dX5_heldTender_7 : decode cX5_heldTender 7 = .ok (.invokestatic 321, 3) := by decide +kernel
theorem dX5_heldTender_10 : decode cX5_heldTender 10 = .ok (.ireturn, 1) := by decide +kernel
theorem dX5_isLaw_0 : decode cX5_isLaw 0 = .ok (.iload_n 0, 1) := by decide +kernel
theorem dX5_isLaw_1 : decode cX5_isLaw 1 = .ok (.iconst 0, 1) := by decide +kernel
theorem dX5_isLaw_2 : decode cX5_isLaw 2 = .ok (.iconst 3, 1) := by decide +kernel
theorem dX5_isLaw_3 : decode cX5_isLaw 3 = .ok (.invokestatic 65, 3) := by decide +kernel
theorem dX5_isLaw_6 : decode cX5_isLaw 6 = .ok (.ireturn, 1) := by decide +kernel
theorem dX5_isKind_0 : decode cX5_isKind 0 = .ok (.iload_n 0, 1) := by decide +kernel
theorem dX5_isKind_1 : decode cX5_isKind 1 = .ok (.iconst 0, 1) := by decide +kernel
theorem dX5_isKind_2 : decode cX5_isKind 2 = .ok (.iconst 5, 1) := by decide +kernel
theorem dX5_isKind_3 : decode cX5_isKind 3 = .ok (.invokestatic 65, 3) := by decide +kernel
theorem dX5_isKind_6 : decode cX5_isKind 6 = .ok (.ireturn, 1) := by decide +kernel
theorem dX5_isPlace_0 : decode cX5_isPlace 0 = .ok (.iload_n 0, 1) := by decide +kernel
theorem dX5_isPlace_1 : decode cX5_isPlace 1 = .ok (.iconst 0, 1) := by decide +kernel
theorem dX5_isPlace_2 : decode cX5_isPlace 2 = .ok (.iconst 3, 1) := by decide +kernel
theorem dX5_isPlace_3 : decode cX5_isPlace 3 = .ok (.invokestatic 65, 3) := by decide +kernel
theorem dX5_isPlace_6 : decode cX5_isPlace 6 = .ok (.ireturn, 1) := by decide +kernel
theorem dX5_isSaying_0 : decode cX5_isSaying 0 = .ok (.iload_n 1, 1) := by decide +kernel
theorem dX5_isSaying_1 : decode cX5_isSaying 1 = .ok (.iconst 0, 1) := by decide +kernel
theorem dX5_isSaying_2 : decode cX5_isSaying 2 = .ok (.aload_n 0, 1) := by decide +kernel
theorem dX5_isSaying_3 : decode cX5_isSaying 3 = .ok (.getfield 10, 3) := by decide +kernel
theorem dX5_isSaying_6 : decode cX5_isSaying 6 = .ok (.getfield 103, 3) := by decide +kernel
theorem dX5_isSaying_9 : decode cX5_isSaying 9 = .ok (.iconst 1, 1) := by decide +kernel
theorem dX5_isSaying_10 : decode cX5_isSaying 10 = .ok (.isub, 1) := by decide +kernel
theorem dX5_isSaying_11 : decode cX5_isSaying 11 = .ok (.invokestatic 65, 3) := by decide +kernel
theorem dX5_isSaying_14 : decode cX5_isSaying 14 = .ok (.ireturn, 1) := by decide +kernel
theorem dX5_isHearer_0 : decode cX5_isHearer 0 = .ok (.iload_n 1, 1) := by decide +kernel
theorem dX5_isHearer_1 : decode cX5_isHearer 1 = .ok (.iconst 0, 1) := by decide +kernel
theorem dX5_isHearer_2 : decode cX5_isHearer 2 = .ok (.aload_n 0, 1) := by decide +kernel
theorem dX5_isHearer_3 : decode cX5_isHearer 3 = .ok (.getfield 10, 3) := by decide +kernel
theorem dX5_isHearer_6 : decode cX5_isHearer 6 = .ok (.getfield 90, 3) := by decide +kernel
theorem dX5_isHearer_9 : decode cX5_isHearer 9 = .ok (.iconst 1, 1) := by decide +kernel
theorem dX5_isHearer_10 : decode cX5_isHearer 10 = .ok (.isub, 1) := by decide +kernel
theorem dX5_isHearer_11 : decode cX5_isHearer 11 = .ok (.invokestatic 65, 3) := by decide +kernel
theorem dX5_isHearer_14 : decode cX5_isHearer 14 = .ok (.ireturn, 1) := by decide +kernel
theorem dX5_isCell_0 : decode cX5_isCell 0 = .ok (.iload_n 1, 1) := by decide +kernel
theorem dX5_isCell_1 : decode cX5_isCell 1 = .ok (.iconst 0, 1) := by decide +kernel
theorem dX5_isCell_2 : decode cX5_isCell 2 = .ok (.aload_n 0, 1) := by decide +kernel
theorem dX5_isCell_3 : decode cX5_isCell 3 = .ok (.getfield 40, 3) := by decide +kernel
theorem dX5_isCell_6 : decode cX5_isCell 6 = .ok (.iconst 1, 1) := by decide +kernel
theorem dX5_isCell_7 : decode cX5_isCell 7 = .ok (.isub, 1) := by decide +kernel
theorem dX5_isCell_8 : decode cX5_isCell 8 = .ok (.invokestatic 65, 3) := by decide +kernel
theorem dX5_isCell_11 : decode cX5_isCell 11 = .ok (.ifCond .eq 16, 3) := by decide +kernel
theorem dX5_isCell_14 : decode cX5_isCell 14 = .ok (.iload_n 2, 1) := by decide +kernel
theorem dX5_isCell_15 : decode cX5_isCell 15 = .ok (.iconst 0, 1) := by decide +kernel
theorem dX5_isCell_16 : decode cX5_isCell 16 = .ok (.iconst 2, 1) := by decide +kernel
theorem dX5_isCell_17 : decode cX5_isCell 17 = .ok (.invokestatic 65, 3) := by decide +kernel
theorem dX5_isCell_20 : decode cX5_isCell 20 = .ok (.ifCond .eq 7, 3) := by decide +kernel
theorem dX5_isCell_23 : decode cX5_isCell 23 = .ok (.iconst 1, 1) := by decide +kernel
theorem dX5_isCell_24 : decode cX5_isCell 24 = .ok (.goto 4, 3) := by decide +kernel
theorem dX5_isCell_27 : decode cX5_isCell 27 = .ok (.iconst 0, 1) := by decide +kernel
theorem dX5_isCell_28 : decode cX5_isCell 28 = .ok (.ireturn, 1) := by decide +kernel
theorem dX5_holdsHearer_0 : decode cX5_holdsHearer 0 = .ok (.aload_n 1, 1) := by decide +kernel
theorem dX5_holdsHearer_1 : decode cX5_holdsHearer 1 = .ok (.getfield 287, 3) := by decide +kernel
theorem dX5_holdsHearer_4 : decode cX5_holdsHearer 4 = .ok (.iconst 1, 1) := by decide +kernel
theorem dX5_holdsHearer_5 : decode cX5_holdsHearer 5 = .ok (.if_icmp .ne 18, 3) := by decide +kernel
theorem dX5_holdsHearer_8 : decode cX5_holdsHearer 8 = .ok (.aload_n 0, 1) := by decide +kernel
theorem dX5_holdsHearer_9 : decode cX5_holdsHearer 9 = .ok (.aload_n 1, 1) := by decide +kernel
theorem dX5_holdsHearer_10 : decode cX5_holdsHearer 10 = .ok (.getfield 296, 3) := by decide +kernel
theorem dX5_holdsHearer_13 : decode cX5_holdsHearer 13 = .ok (.invokevirtual 135, 3) := by decide +kernel
theorem dX5_holdsHearer_16 : decode cX5_holdsHearer 16 = .ok (.ifCond .eq 7, 3) := by decide +kernel
theorem dX5_holdsHearer_19 : decode cX5_holdsHearer 19 = .ok (.iconst 1, 1) := by decide +kernel
theorem dX5_holdsHearer_20 : decode cX5_holdsHearer 20 = .ok (.goto 4, 3) := by decide +kernel
theorem dX5_holdsHearer_23 : decode cX5_holdsHearer 23 = .ok (.iconst 0, 1) := by decide +kernel
theorem dX5_holdsHearer_24 : decode cX5_holdsHearer 24 = .ok (.ireturn, 1) := by decide +kernel
theorem dX5_isUnder_0 : decode cX5_isUnder 0 = .ok (.iload_n 0, 1) := by decide +kernel
theorem dX5_isUnder_1 : decode cX5_isUnder 1 = .ok (.lookupswitch 67 #[(3, 27), (4, 47)], 27) := by decide +kernel
theorem dX5_isUnder_28 : decode cX5_isUnder 28 = .ok (.iload_n 1, 1) := by decide +kernel
theorem dX5_isUnder_29 : decode cX5_isUnder 29 = .ok (.iconst 3, 1) := by decide +kernel
theorem dX5_isUnder_30 : decode cX5_isUnder 30 = .ok (.if_icmp .eq 12, 3) := by decide +kernel
theorem dX5_isUnder_33 : decode cX5_isUnder 33 = .ok (.iload_n 1, 1) := by decide +kernel
theorem dX5_isUnder_34 : decode cX5_isUnder 34 = .ok (.iconst 1, 1) := by decide +kernel
theorem dX5_isUnder_35 : decode cX5_isUnder 35 = .ok (.if_icmp .eq 7, 3) := by decide +kernel
theorem dX5_isUnder_38 : decode cX5_isUnder 38 = .ok (.iload_n 1, 1) := by decide +kernel
theorem dX5_isUnder_39 : decode cX5_isUnder 39 = .ok (.ifCond .ne 7, 3) := by decide +kernel
theorem dX5_isUnder_42 : decode cX5_isUnder 42 = .ok (.iconst 1, 1) := by decide +kernel
theorem dX5_isUnder_43 : decode cX5_isUnder 43 = .ok (.goto 4, 3) := by decide +kernel
theorem dX5_isUnder_46 : decode cX5_isUnder 46 = .ok (.iconst 0, 1) := by decide +kernel
theorem dX5_isUnder_47 : decode cX5_isUnder 47 = .ok (.ireturn, 1) := by decide +kernel
theorem dX5_isUnder_48 : decode cX5_isUnder 48 = .ok (.iload_n 1, 1) := by decide +kernel
theorem dX5_isUnder_49 : decode cX5_isUnder 49 = .ok (.iconst 4, 1) := by decide +kernel
theorem dX5_isUnder_50 : decode cX5_isUnder 50 = .ok (.if_icmp .eq 12, 3) := by decide +kernel
theorem dX5_isUnder_53 : decode cX5_isUnder 53 = .ok (.iload_n 1, 1) := by decide +kernel
theorem dX5_isUnder_54 : decode cX5_isUnder 54 = .ok (.iconst 2, 1) := by decide +kernel
theorem dX5_isUnder_55 : decode cX5_isUnder 55 = .ok (.if_icmp .eq 7, 3) := by decide +kernel
theorem dX5_isUnder_58 : decode cX5_isUnder 58 = .ok (.iload_n 1, 1) := by decide +kernel
theorem dX5_isUnder_59 : decode cX5_isUnder 59 = .ok (.ifCond .ne 7, 3) := by decide +kernel
theorem dX5_isUnder_62 : decode cX5_isUnder 62 = .ok (.iconst 1, 1) := by decide +kernel
theorem dX5_isUnder_63 : decode cX5_isUnder 63 = .ok (.goto 4, 3) := by decide +kernel
theorem dX5_isUnder_66 : decode cX5_isUnder 66 = .ok (.iconst 0, 1) := by decide +kernel
theorem dX5_isUnder_67 : decode cX5_isUnder 67 = .ok (.ireturn, 1) := by decide +kernel
theorem dX5_isUnder_68 : decode cX5_isUnder 68 = .ok (.iload_n 1, 1) := by decide +kernel
theorem dX5_isUnder_69 : decode cX5_isUnder 69 = .ok (.iload_n 0, 1) := by decide +kernel
theorem dX5_isUnder_70 : decode cX5_isUnder 70 = .ok (.if_icmp .eq 7, 3) := by decide +kernel
theorem dX5_isUnder_73 : decode cX5_isUnder 73 = .ok (.iload_n 1, 1) := by decide +kernel
theorem dX5_isUnder_74 : decode cX5_isUnder 74 = .ok (.ifCond .ne 7, 3) := by decide +kernel
theorem dX5_isUnder_77 : decode cX5_isUnder 77 = .ok (.iconst 1, 1) := by decide +kernel
theorem dX5_isUnder_78 : decode cX5_isUnder 78 = .ok (.goto 4, 3) := by decide +kernel
theorem dX5_isUnder_81 : decode cX5_isUnder 81 = .ok (.iconst 0, 1) := by decide +kernel
theorem dX5_isUnder_82 : decode cX5_isUnder 82 = .ok (.ireturn, 1) := by decide +kernel
theorem dX5_replaced_0 : decode cX5_replaced 0 = .ok (.iload_n 2, 1) := by decide +kernel
theorem dX5_replaced_1 : decode cX5_replaced 1 = .ok (.iconst 0, 1) := by decide +kernel
theorem dX5_replaced_2 : decode cX5_replaced 2 = .ok (.iload_n 3, 1) := by decide +kernel
theorem dX5_replaced_3 : decode cX5_replaced 3 = .ok (.invokestatic 65, 3) := by decide +kernel
theorem dX5_replaced_6 : decode cX5_replaced 6 = .ok (.ifCond .ne 5, 3) := by decide +kernel
theorem dX5_replaced_9 : decode cX5_replaced 9 = .ok (.iconst (-1), 1) := by decide +kernel
theorem dX5_replaced_10 : decode cX5_replaced 10 = .ok (.ireturn, 1) := by decide +kernel
theorem dX5_replaced_11 : decode cX5_replaced 11 = .ok (.aload_n 0, 1) := by decide +kernel
theorem dX5_replaced_12 : decode cX5_replaced 12 = .ok (.iload_n 1, 1) := by decide +kernel
theorem dX5_replaced_13 : decode cX5_replaced 13 = .ok (.iaload, 1) := by decide +kernel
theorem dX5_replaced_14 : decode cX5_replaced 14 = .ok (.istore 4, 2) := by decide +kernel
theorem dX5_replaced_16 : decode cX5_replaced 16 = .ok (.aload_n 0, 1) := by decide +kernel
theorem dX5_replaced_17 : decode cX5_replaced 17 = .ok (.iload_n 1, 1) := by decide +kernel
theorem dX5_replaced_18 : decode cX5_replaced 18 = .ok (.iload_n 2, 1) := by decide +kernel
theorem dX5_replaced_19 : decode cX5_replaced 19 = .ok (.iastore, 1) := by decide +kernel
theorem dX5_replaced_20 : decode cX5_replaced 20 = .ok (.iload 4, 2) := by decide +kernel
theorem dX5_replaced_22 : decode cX5_replaced 22 = .ok (.ireturn, 1) := by decide +kernel
theorem dX5_tried_0 : decode cX5_tried 0 = .ok (.aload_n 0, 1) := by decide +kernel
theorem dX5_tried_1 : decode cX5_tried 1 = .ok (.getfield 19, 3) := by decide +kernel
theorem dX5_tried_4 : decode cX5_tried 4 = .ok (.aload_n 0, 1) := by decide +kernel
theorem dX5_tried_5 : decode cX5_tried 5 = .ok (.getfield 10, 3) := by decide +kernel
theorem dX5_tried_8 : decode cX5_tried 8 = .ok (.invokevirtual 86, 3) := by decide +kernel
theorem dX5_tried_11 : decode cX5_tried 11 = .ok (.aload_n 0, 1) := by decide +kernel
theorem dX5_tried_12 : decode cX5_tried 12 = .ok (.getfield 19, 3) := by decide +kernel
theorem dX5_tried_15 : decode cX5_tried 15 = .ok (.areturn, 1) := by decide +kernel
theorem dX5_rightInTheEnd_0 : decode cX5_rightInTheEnd 0 = .ok (.aload_n 0, 1) := by decide +kernel
theorem dX5_rightInTheEnd_1 : decode cX5_rightInTheEnd 1 = .ok (.bipush 12, 2) := by decide +kernel
theorem dX5_rightInTheEnd_3 : decode cX5_rightInTheEnd 3 = .ok (.iload_n 1, 1) := by decide +kernel
theorem dX5_rightInTheEnd_4 : decode cX5_rightInTheEnd 4 = .ok (.invokestatic 196, 3) := by decide +kernel
theorem dX5_rightInTheEnd_7 : decode cX5_rightInTheEnd 7 = .ok (.invokevirtual 167, 3) := by decide +kernel
theorem dX5_rightInTheEnd_10 : decode cX5_rightInTheEnd 10 = .ok (.pop, 1) := by decide +kernel
theorem dX5_rightInTheEnd_11 : decode cX5_rightInTheEnd 11 = .ok (.aload_n 0, 1) := by decide +kernel
theorem dX5_rightInTheEnd_12 : decode cX5_rightInTheEnd 12 = .ok (.iload_n 1, 1) := by decide +kernel
theorem dX5_rightInTheEnd_13 : decode cX5_rightInTheEnd 13 = .ok (.invokevirtual 324, 3) := by decide +kernel
theorem dX5_rightInTheEnd_16 : decode cX5_rightInTheEnd 16 = .ok (.ireturn, 1) := by decide +kernel
theorem dX5_sayNextTried_0 : decode cX5_sayNextTried 0 = .ok (.aload_n 0, 1) := by decide +kernel
theorem dX5_sayNextTried_1 : decode cX5_sayNextTried 1 = .ok (.sipush 255, 3) := by decide +kernel
theorem dX5_sayNextTried_4 : decode cX5_sayNextTried 4 = .ok (.invokevirtual 170, 3) := by decide +kernel
theorem dX5_sayNextTried_7 : decode cX5_sayNextTried 7 = .ok (.istore_n 1, 1) := by decide +kernel
theorem dX5_sayNextTried_8 : decode cX5_sayNextTried 8 = .ok (.aload_n 0, 1) := by decide +kernel
theorem dX5_sayNextTried_9 : decode cX5_sayNextTried 9 = .ok (.iload_n 1, 1) := by decide +kernel
theorem dX5_sayNextTried_10 : decode cX5_sayNextTried 10 = .ok (.invokevirtual 176, 3) := by decide +kernel
theorem dX5_sayNextTried_13 : decode cX5_sayNextTried 13 = .ok (.iload_n 1, 1) := by decide +kernel
theorem dX5_sayNextTried_14 : decode cX5_sayNextTried 14 = .ok (.ireturn, 1) := by decide +kernel
theorem dX5_alike_0 : decode cX5_alike 0 = .ok (.aload_n 0, 1) := by decide +kernel
theorem dX5_alike_1 : decode cX5_alike 1 = .ok (.invokevirtual 180, 3) := by decide +kernel
theorem dX5_alike_4 : decode cX5_alike 4 = .ok (.astore_n 1, 1) := by decide +kernel
theorem dX5_alike_5 : decode cX5_alike 5 = .ok (.aload_n 1, 1) := by decide +kernel
theorem dX5_alike_6 : decode cX5_alike 6 = .ok (.bipush 12, 2) := by decide +kernel
theorem dX5_alike_8 : decode cX5_alike 8 = .ok (.sipush 255, 3) := by decide +kernel
theorem dX5_alike_11 : decode cX5_alike 11 = .ok (.invokevirtual 167, 3) := by decide +kernel
theorem dX5_alike_14 : decode cX5_alike 14 = .ok (.pop, 1) := by decide +kernel
theorem dX5_alike_15 : decode cX5_alike 15 = .ok (.iconst 0, 1) := by decide +kernel
theorem dX5_alike_16 : decode cX5_alike 16 = .ok (.istore_n 2, 1) := by decide +kernel
theorem dX5_alike_17 : decode cX5_alike 17 = .ok (.iconst 0, 1) := by decide +kernel
theorem dX5_alike_18 : decode cX5_alike 18 = .ok (.istore_n 3, 1) := by decide +kernel
theorem dX5_alike_19 : decode cX5_alike 19 = .ok (.iload_n 3, 1) := by decide +kernel
theorem dX5_alike_20 : decode cX5_alike 20 = .ok (.aload_n 1, 1) := by decide +kernel
theorem dX5_alike_21 : decode cX5_alike 21 = .ok (.getfield 90, 3) := by decide +kernel
theorem dX5_alike_24 : decode cX5_alike 24 = .ok (.if_icmp .ge 24, 3) := by decide +kernel
theorem dX5_alike_27 : decode cX5_alike 27 = .ok (.iload_n 2, 1) := by decide +kernel
theorem dX5_alike_28 : decode cX5_alike 28 = .ok (.aload_n 1, 1) := by decide +kernel
theorem dX5_alike_29 : decode cX5_alike 29 = .ok (.aload_n 1, 1) := by decide +kernel
theorem dX5_alike_30 : decode cX5_alike 30 = .ok (.getfield 147, 3) := by decide +kernel
theorem dX5_alike_33 : decode cX5_alike 33 = .ok (.iload_n 3, 1) := by decide +kernel
theorem dX5_alike_34 : decode cX5_alike 34 = .ok (.iaload, 1) := by decide +kernel
theorem dX5_alike_35 : decode cX5_alike 35 = .ok (.invokevirtual 327, 3) := by decide +kernel
theorem dX5_alike_38 : decode cX5_alike 38 = .ok (.invokestatic 321, 3) := by decide +kernel
theorem dX5_alike_41 : decode cX5_alike 41 = .ok (.istore_n 2, 1) := by decide +kernel
theorem dX5_alike_42 : decode cX5_alike 42 = .ok (.iinc 3 1, 3) := by decide +kernel
theorem dX5_alike_45 : decode cX5_alike 45 = .ok (.goto (-26), 3) := by decide +kernel
theorem dX5_alike_48 : decode cX5_alike 48 = .ok (.iload_n 2, 1) := by decide +kernel
theorem dX5_alike_49 : decode cX5_alike 49 = .ok (.ireturn, 1) := by decide +kernel
theorem dX5_mightBeSo_0 : decode cX5_mightBeSo 0 = .ok (.aload_n 0, 1) := by decide +kernel
theorem dX5_mightBeSo_1 : decode cX5_mightBeSo 1 = .ok (.invokevirtual 180, 3) := by decide +kernel
theorem dX5_mightBeSo_4 : decode cX5_mightBeSo 4 = .ok (.astore 4, 2) := by decide +kernel
theorem dX5_mightBeSo_6 : decode cX5_mightBeSo 6 = .ok (.aload 4, 2) := by decide +kernel
theorem dX5_mightBeSo_8 : decode cX5_mightBeSo 8 = .ok (.getfield 141, 3) := by decide +kernel
theorem dX5_mightBeSo_11 : decode cX5_mightBeSo 11 = .ok (.iload_n 2, 1) := by decide +kernel
theorem dX5_mightBeSo_12 : decode cX5_mightBeSo 12 = .ok (.iload_n 3, 1) := by decide +kernel
theorem dX5_mightBeSo_13 : decode cX5_mightBeSo 13 = .ok (.iastore, 1) := by decide +kernel
theorem dX5_mightBeSo_14 : decode cX5_mightBeSo 14 = .ok (.aload_n 1, 1) := by decide +kernel
theorem dX5_mightBeSo_15 : decode cX5_mightBeSo 15 = .ok (.getfield 260, 3) := by decide +kernel
theorem dX5_mightBeSo_18 : decode cX5_mightBeSo 18 = .ok (.aload 4, 2) := by decide +kernel
theorem dX5_mightBeSo_20 : decode cX5_mightBeSo 20 = .ok (.invokevirtual 150, 3) := by decide +kernel
theorem dX5_mightBeSo_23 : decode cX5_mightBeSo 23 = .ok (.invokestatic 246, 3) := by decide +kernel
theorem dX5_mightBeSo_26 : decode cX5_mightBeSo 26 = .ok (.istore 5, 2) := by decide +kernel
theorem dX5_mightBeSo_28 : decode cX5_mightBeSo 28 = .ok (.iconst 0, 1) := by decide +kernel
theorem dX5_mightBeSo_29 : decode cX5_mightBeSo 29 = .ok (.istore 6, 2) := by decide +kernel
theorem dX5_mightBeSo_31 : decode cX5_mightBeSo 31 = .ok (.iload 6, 2) := by decide +kernel
theorem dX5_mightBeSo_33 : decode cX5_mightBeSo 33 = .ok (.iload 5, 2) := by decide +kernel
theorem dX5_mightBeSo_35 : decode cX5_mightBeSo 35 = .ok (.if_icmp .ge 68, 3) := by decide +kernel
theorem dX5_mightBeSo_38 : decode cX5_mightBeSo 38 = .ok (.aload 4, 2) := by decide +kernel
theorem dX5_mightBeSo_40 : decode cX5_mightBeSo 40 = .ok (.iload_n 2, 1) := by decide +kernel
theorem dX5_mightBeSo_41 : decode cX5_mightBeSo 41 = .ok (.invokestatic 196, 3) := by decide +kernel
theorem dX5_mightBeSo_44 : decode cX5_mightBeSo 44 = .ok (.invokevirtual 170, 3) := by decide +kernel
theorem dX5_mightBeSo_47 : decode cX5_mightBeSo 47 = .ok (.istore 7, 2) := by decide +kernel
theorem dX5_mightBeSo_49 : decode cX5_mightBeSo 49 = .ok (.aload 4, 2) := by decide +kernel
theorem dX5_mightBeSo_51 : decode cX5_mightBeSo 51 = .ok (.iload 7, 2) := by decide +kernel
theorem dX5_mightBeSo_53 : decode cX5_mightBeSo 53 = .ok (.invokevirtual 176, 3) := by decide +kernel
theorem dX5_mightBeSo_56 : decode cX5_mightBeSo 56 = .ok (.iload 7, 2) := by decide +kernel
theorem dX5_mightBeSo_58 : decode cX5_mightBeSo 58 = .ok (.ifCond .ne 7, 3) := by decide +kernel
theorem dX5_mightBeSo_61 : decode cX5_mightBeSo 61 = .ok (.lconst 0, 1) := by decide +kernel
theorem dX5_mightBeSo_62 : decode cX5_mightBeSo 62 = .ok (.goto 4, 3) := by decide +kernel
theorem dX5_mightBeSo_65 : decode cX5_mightBeSo 65 = .ok (.lconst 1, 1) := by decide +kernel
theorem dX5_mightBeSo_66 : decode cX5_mightBeSo 66 = .ok (.lstore 8, 2) := by decide +kernel
theorem dX5_mightBeSo_68 : decode cX5_mightBeSo 68 = .ok (.aload_n 1, 1) := by decide +kernel
theorem dX5_mightBeSo_69 : decode cX5_mightBeSo 69 = .ok (.getfield 263, 3) := by decide +kernel
theorem dX5_mightBeSo_72 : decode cX5_mightBeSo 72 = .ok (.iload 6, 2) := by decide +kernel
theorem dX5_mightBeSo_74 : decode cX5_mightBeSo 74 = .ok (.laload, 1) := by decide +kernel
theorem dX5_mightBeSo_75 : decode cX5_mightBeSo 75 = .ok (.ldc2_w 230, 3) := by decide +kernel
theorem dX5_mightBeSo_78 : decode cX5_mightBeSo 78 = .ok (.lcmp, 1) := by decide +kernel
theorem dX5_mightBeSo_79 : decode cX5_mightBeSo 79 = .ok (.ifCond .eq 18, 3) := by decide +kernel
theorem dX5_mightBeSo_82 : decode cX5_mightBeSo 82 = .ok (.aload_n 1, 1) := by decide +kernel
theorem dX5_mightBeSo_83 : decode cX5_mightBeSo 83 = .ok (.getfield 263, 3) := by decide +kernel
theorem dX5_mightBeSo_86 : decode cX5_mightBeSo 86 = .ok (.iload 6, 2) := by decide +kernel
theorem dX5_mightBeSo_88 : decode cX5_mightBeSo 88 = .ok (.laload, 1) := by decide +kernel
theorem dX5_mightBeSo_89 : decode cX5_mightBeSo 89 = .ok (.lload 8, 2) := by decide +kernel
theorem dX5_mightBeSo_91 : decode cX5_mightBeSo 91 = .ok (.lcmp, 1) := by decide +kernel
theorem dX5_mightBeSo_92 : decode cX5_mightBeSo 92 = .ok (.ifCond .eq 5, 3) := by decide +kernel
theorem dX5_mightBeSo_95 : decode cX5_mightBeSo 95 = .ok (.iconst 0, 1) := by decide +kernel
theorem dX5_mightBeSo_96 : decode cX5_mightBeSo 96 = .ok (.ireturn, 1) := by decide +kernel
theorem dX5_mightBeSo_97 : decode cX5_mightBeSo 97 = .ok (.iinc 6 1, 3) := by decide +kernel
theorem dX5_mightBeSo_100 : decode cX5_mightBeSo 100 = .ok (.goto (-69), 3) := by decide +kernel
theorem dX5_mightBeSo_103 : decode cX5_mightBeSo 103 = .ok (.iconst 1, 1) := by decide +kernel
theorem dX5_mightBeSo_104 : decode cX5_mightBeSo 104 = .ok (.ireturn, 1) := by decide +kernel
theorem dX5_waysToChoose_0 : decode cX5_waysToChoose 0 = .ok (.lconst 1, 1) := by decide +kernel
theorem dX5_waysToChoose_1 : decode cX5_waysToChoose 1 = .ok (.lstore_n 2, 1) := by decide +kernel
theorem dX5_waysToChoose_2 : decode cX5_waysToChoose 2 = .ok (.iconst 1, 1) := by decide +kernel
theorem dX5_waysToChoose_3 : decode cX5_waysToChoose 3 = .ok (.istore 4, 2) := by decide +kernel
theorem dX5_waysToChoose_5 : decode cX5_waysToChoose 5 = .ok (.iload 4, 2) := by decide +kernel
theorem dX5_waysToChoose_7 : decode cX5_waysToChoose 7 = .ok (.iload_n 1, 1) := by decide +kernel
theorem dX5_waysToChoose_8 : decode cX5_waysToChoose 8 = .ok (.if_icmp .gt 23, 3) := by decide +kernel
theorem dX5_waysToChoose_11 : decode cX5_waysToChoose 11 = .ok (.lload_n 2, 1) := by decide +kernel
theorem dX5_waysToChoose_12 : decode cX5_waysToChoose 12 = .ok (.iload_n 0, 1) := by decide +kernel
theorem dX5_waysToChoose_13 : decode cX5_waysToChoose 13 = .ok (.iload_n 1, 1) := by decide +kernel
theorem dX5_waysToChoose_14 : decode cX5_waysToChoose 14 = .ok (.isub, 1) := by decide +kernel
theorem dX5_waysToChoose_15 : decode cX5_waysToChoose 15 = .ok (.iload 4, 2) := by decide +kernel
theorem dX5_waysToChoose_17 : decode cX5_waysToChoose 17 = .ok (.iadd, 1) := by decide +kernel
theorem dX5_waysToChoose_18 : decode cX5_waysToChoose 18 = .ok (.i2l, 1) := by decide +kernel
theorem dX5_waysToChoose_19 : decode cX5_waysToChoose 19 = .ok (.lmul, 1) := by decide +kernel
theorem dX5_waysToChoose_20 : decode cX5_waysToChoose 20 = .ok (.iload 4, 2) := by decide +kernel
theorem dX5_waysToChoose_22 : decode cX5_waysToChoose 22 = .ok (.i2l, 1) := by decide +kernel
theorem dX5_waysToChoose_23 : decode cX5_waysToChoose 23 = .ok (.ldiv, 1) := by decide +kernel
theorem dX5_waysToChoose_24 : decode cX5_waysToChoose 24 = .ok (.lstore_n 2, 1) := by decide +kernel
theorem dX5_waysToChoose_25 : decode cX5_waysToChoose 25 = .ok (.iinc 4 1, 3) := by decide +kernel
theorem dX5_waysToChoose_28 : decode cX5_waysToChoose 28 = .ok (.goto (-23), 3) := by decide +kernel
theorem dX5_waysToChoose_31 : decode cX5_waysToChoose 31 = .ok (.lload_n 2, 1) := by decide +kernel
theorem dX5_waysToChoose_32 : decode cX5_waysToChoose 32 = .ok (.lreturn, 1) := by decide +kernel
theorem dX5_power_0 : decode cX5_power 0 = .ok (.lconst 1, 1) := by decide +kernel
theorem dX5_power_1 : decode cX5_power 1 = .ok (.lstore_n 3, 1) := by decide +kernel
theorem dX5_power_2 : decode cX5_power 2 = .ok (.iconst 0, 1) := by decide +kernel
theorem dX5_power_3 : decode cX5_power 3 = .ok (.istore 5, 2) := by decide +kernel
theorem dX5_power_5 : decode cX5_power 5 = .ok (.iload 5, 2) := by decide +kernel
theorem dX5_power_7 : decode cX5_power 7 = .ok (.iload_n 2, 1) := by decide +kernel
theorem dX5_power_8 : decode cX5_power 8 = .ok (.if_icmp .ge 13, 3) := by decide +kernel
theorem dX5_power_11 : decode cX5_power 11 = .ok (.lload_n 3, 1) := by decide +kernel
theorem dX5_power_12 : decode cX5_power 12 = .ok (.lload_n 0, 1) := by decide +kernel
theorem dX5_power_13 : decode cX5_power 13 = .ok (.lmul, 1) := by decide +kernel
theorem dX5_power_14 : decode cX5_power 14 = .ok (.lstore_n 3, 1) := by decide +kernel
theorem dX5_power_15 : decode cX5_power 15 = .ok (.iinc 5 1, 3) := by decide +kernel
theorem dX5_power_18 : decode cX5_power 18 = .ok (.goto (-13), 3) := by decide +kernel
theorem dX5_power_21 : decode cX5_power 21 = .ok (.lload_n 3, 1) := by decide +kernel
theorem dX5_power_22 : decode cX5_power 22 = .ok (.lreturn, 1) := by decide +kernel
theorem dX5_partOfFraction_0 : decode cX5_partOfFraction 0 = .ok (.lconst 1, 1) := by decide +kernel
theorem dX5_partOfFraction_1 : decode cX5_partOfFraction 1 = .ok (.lload_n 0, 1) := by decide +kernel
theorem dX5_partOfFraction_2 : decode cX5_partOfFraction 2 = .ok (.lload_n 2, 1) := by decide +kernel
theorem dX5_partOfFraction_3 : decode cX5_partOfFraction 3 = .ok (.invokestatic 330, 3) := by decide +kernel
theorem dX5_partOfFraction_6 : decode cX5_partOfFraction 6 = .ok (.invokestatic 334, 3) := by decide +kernel
theorem dX5_partOfFraction_9 : decode cX5_partOfFraction 9 = .ok (.lstore 5, 2) := by decide +kernel
theorem dX5_partOfFraction_11 : decode cX5_partOfFraction 11 = .ok (.iload 4, 2) := by decide +kernel
theorem dX5_partOfFraction_13 : decode cX5_partOfFraction 13 = .ok (.ifCond .ne 10, 3) := by decide +kernel
theorem dX5_partOfFraction_16 : decode cX5_partOfFraction 16 = .ok (.lload_n 0, 1) := by decide +kernel
theorem dX5_partOfFraction_17 : decode cX5_partOfFraction 17 = .ok (.lload 5, 2) := by decide +kernel
theorem dX5_partOfFraction_19 : decode cX5_partOfFraction 19 = .ok (.ldiv, 1) := by decide +kernel
theorem dX5_partOfFraction_20 : decode cX5_partOfFraction 20 = .ok (.goto 7, 3) := by decide +kernel
theorem dX5_partOfFraction_23 : decode cX5_partOfFraction 23 = .ok (.lload_n 2, 1) := by decide +kernel
theorem dX5_partOfFraction_24 : decode cX5_partOfFraction 24 = .ok (.lload 5, 2) := by decide +kernel
theorem dX5_partOfFraction_26 : decode cX5_partOfFraction 26 = .ok (.ldiv, 1) := by decide +kernel
theorem dX5_partOfFraction_27 : decode cX5_partOfFraction 27 = .ok (.lreturn, 1) := by decide +kernel
theorem dX5_commonDivisor_0 : decode cX5_commonDivisor 0 = .ok (.lload_n 0, 1) := by decide +kernel
theorem dX5_commonDivisor_1 : decode cX5_commonDivisor 1 = .ok (.lstore 4, 2) := by decide +kernel
theorem dX5_commonDivisor_3 : decode cX5_commonDivisor 3 = .ok (.lload_n 2, 1) := by decide +kernel
theorem dX5_commonDivisor_4 : decode cX5_commonDivisor 4 = .ok (.lstore 6, 2) := by decide +kernel
theorem dX5_commonDivisor_6 : decode cX5_commonDivisor 6 = .ok (.iconst 0, 1) := by decide +kernel
theorem dX5_commonDivisor_7 : decode cX5_commonDivisor 7 = .ok (.istore 8, 2) := by decide +kernel
theorem dX5_commonDivisor_9 : decode cX5_commonDivisor 9 = .ok (.iload 8, 2) := by decide +kernel
theorem dX5_commonDivisor_11 : decode cX5_commonDivisor 11 = .ok (.sipush 200, 3) := by decide +kernel
theorem dX5_commonDivisor_14 : decode cX5_commonDivisor 14 = .ok (.if_icmp .ge 31, 3) := by decide +kernel
theorem dX5_commonDivisor_17 : decode cX5_commonDivisor 17 = .ok (.lload 6, 2) := by decide +kernel
theorem dX5_commonDivisor_19 : decode cX5_commonDivisor 19 = .ok (.lconst 0, 1) := by decide +kernel
theorem dX5_commonDivisor_20 : decode cX5_commonDivisor 20 = .ok (.lcmp, 1) := by decide +kernel
theorem dX5_commonDivisor_21 : decode cX5_commonDivisor 21 = .ok (.ifCond .eq 24, 3) := by decide +kernel
theorem dX5_commonDivisor_24 : decode cX5_commonDivisor 24 = .ok (.lload 4, 2) := by decide +kernel
theorem dX5_commonDivisor_26 : decode cX5_commonDivisor 26 = .ok (.lload 6, 2) := by decide +kernel
theorem dX5_commonDivisor_28 : decode cX5_commonDivisor 28 = .ok (.lrem, 1) := by decide +kernel
theorem dX5_commonDivisor_29 : decode cX5_commonDivisor 29 = .ok (.lstore 9, 2) := by decide +kernel
theorem dX5_commonDivisor_31 : decode cX5_commonDivisor 31 = .ok (.lload 6, 2) := by decide +kernel
theorem dX5_commonDivisor_33 : decode cX5_commonDivisor 33 = .ok (.lstore 4, 2) := by decide +kernel
theorem dX5_commonDivisor_35 : decode cX5_commonDivisor 35 = .ok (.lload 9, 2) := by decide +kernel
theorem dX5_commonDivisor_37 : decode cX5_commonDivisor 37 = .ok (.lstore 6, 2) := by decide +kernel
theorem dX5_commonDivisor_39 : decode cX5_commonDivisor 39 = .ok (.iinc 8 1, 3) := by decide +kernel
theorem dX5_commonDivisor_42 : decode cX5_commonDivisor 42 = .ok (.goto (-33), 3) := by decide +kernel
theorem dX5_commonDivisor_45 : decode cX5_commonDivisor 45 = .ok (.lload 4, 2) := by decide +kernel
theorem dX5_commonDivisor_47 : decode cX5_commonDivisor 47 = .ok (.lreturn, 1) := by decide +kernel
theorem dX6_init_0 : decode cX6_init 0 = .ok (.aload_n 0, 1) := by decide +kernel
theorem dX6_init_1 : decode cX6_init 1 = .ok (.invokespecial 1, 3) := by decide +kernel
theorem dX6_init_4 : decode cX6_init 4 = .ok (.aload_n 0, 1) := by decide +kernel
theorem dX6_init_5 : decode cX6_init 5 = .ok (.bipush 76, 2) := by decide +kernel
theorem dX6_init_7 : decode cX6_init 7 = .ok (.newarray .int, 2) := by decide +kernel
theorem dX6_init_9 : decode cX6_init 9 = .ok (.putfield 7, 3) := by decide +kernel
theorem dX6_init_12 : decode cX6_init 12 = .ok (.aload_n 0, 1) := by decide +kernel
theorem dX6_init_13 : decode cX6_init 13 = .ok (.bipush 76, 2) := by decide +kernel
theorem dX6_init_15 : decode cX6_init 15 = .ok (.newarray .int, 2) := by decide +kernel
theorem dX6_init_17 : decode cX6_init 17 = .ok (.putfield 13, 3) := by decide +kernel
theorem dX6_init_20 : decode cX6_init 20 = .ok (.aload_n 0, 1) := by decide +kernel
theorem dX6_init_21 : decode cX6_init 21 = .ok (.bipush 76, 2) := by decide +kernel
theorem dX6_init_23 : decode cX6_init 23 = .ok (.newarray .int, 2) := by decide +kernel
theorem dX6_init_25 : decode cX6_init 25 = .ok (.putfield 16, 3) := by decide +kernel
theorem dX6_init_28 : decode cX6_init 28 = .ok (.aload_n 0, 1) := by decide +kernel
theorem dX6_init_29 : decode cX6_init 29 = .ok (.bipush 76, 2) := by decide +kernel
theorem dX6_init_31 : decode cX6_init 31 = .ok (.newarray .int, 2) := by decide +kernel
theorem dX6_init_33 : decode cX6_init 33 = .ok (.putfield 19, 3) := by decide +kernel
theorem dX6_init_36 : decode cX6_init 36 = .ok (.aload_n 0, 1) := by decide +kernel
theorem dX6_init_37 : decode cX6_init 37 = .ok (.sipush 200, 3) := by decide +kernel
theorem dX6_init_40 : decode cX6_init 40 = .ok (.newarray .int, 2) := by decide +kernel
theorem dX6_init_42 : decode cX6_init 42 = .ok (.putfield 22, 3) := by decide +kernel
theorem dX6_init_45 : decode cX6_init 45 = .ok (.aload_n 0, 1) := by decide +kernel
theorem dX6_init_46 : decode cX6_init 46 = .ok (.bipush 30, 2) := by decide +kernel
theorem dX6_init_48 : decode cX6_init 48 = .ok (.newarray .int, 2) := by decide +kernel
theorem dX6_init_50 : decode cX6_init 50 = .ok (.putfield 25, 3) := by decide +kernel
theorem dX6_init_53 : decode cX6_init 53 = .ok (.aload_n 0, 1) := by decide +kernel
theorem dX6_init_54 : decode cX6_init 54 = .ok (.bipush 30, 2) := by decide +kernel
theorem dX6_init_56 : decode cX6_init 56 = .ok (.newarray .int, 2) := by decide +kernel
theorem dX6_init_58 : decode cX6_init 58 = .ok (.putfield 28, 3) := by decide +kernel
theorem dX6_init_61 : decode cX6_init 61 = .ok (.aload_n 0, 1) := by decide +kernel
theorem dX6_init_62 : decode cX6_init 62 = .ok (.iconst 4, 1) := by decide +kernel
theorem dX6_init_63 : decode cX6_init 63 = .ok (.newarray .int, 2) := by decide +kernel
theorem dX6_init_65 : decode cX6_init 65 = .ok (.dup, 1) := by decide +kernel
theorem dX6_init_66 : decode cX6_init 66 = .ok (.iconst 0, 1) := by decide +kernel
theorem dX6_init_67 : decode cX6_init 67 = .ok (.iconst (-1), 1) := by decide +kernel
theorem dX6_init_68 : decode cX6_init 68 = .ok (.iastore, 1) := by decide +kernel
theorem dX6_init_69 : decode cX6_init 69 = .ok (.dup, 1) := by decide +kernel
theorem dX6_init_70 : decode cX6_init 70 = .ok (.iconst 1, 1) := by decide +kernel
theorem dX6_init_71 : decode cX6_init 71 = .ok (.iconst (-1), 1) := by decide +kernel
theorem dX6_init_72 : decode cX6_init 72 = .ok (.iastore, 1) := by decide +kernel
theorem dX6_init_73 : decode cX6_init 73 = .ok (.dup, 1) := by decide +kernel
theorem dX6_init_74 : decode cX6_init 74 = .ok (.iconst 2, 1) := by decide +kernel
theorem dX6_init_75 : decode cX6_init 75 = .ok (.iconst (-1), 1) := by decide +kernel
theorem dX6_init_76 : decode cX6_init 76 = .ok (.iastore, 1) := by decide +kernel
theorem dX6_init_77 : decode cX6_init 77 = .ok (.dup, 1) := by decide +kernel
theorem dX6_init_78 : decode cX6_init 78 = .ok (.iconst 3, 1) := by decide +kernel
theorem dX6_init_79 : decode cX6_init 79 = .ok (.iconst (-1), 1) := by decide +kernel
theorem dX6_init_80 : decode cX6_init 80 = .ok (.iastore, 1) := by decide +kernel
theorem dX6_init_81 : decode cX6_init 81 = .ok (.putfield 31, 3) := by decide +kernel
theorem dX6_init_84 : decode cX6_init 84 = .ok (.aload_n 0, 1) := by decide +kernel
theorem dX6_init_85 : decode cX6_init 85 = .ok (.iconst 4, 1) := by decide +kernel
theorem dX6_init_86 : decode cX6_init 86 = .ok (.newarray .int, 2) := by decide +kernel
theorem dX6_init_88 : decode cX6_init 88 = .ok (.putfield 34, 3) := by decide +kernel
theorem dX6_init_91 : decode cX6_init 91 = .ok (.aload_n 0, 1) := by decide +kernel
theorem dX6_init_92 : decode cX6_init 92 = .ok (.sipush 160, 3) := by decide +kernel
theorem dX6_init_95 : decode cX6_init 95 = .ok (.newarray .long, 2) := by decide +kernel
theorem dX6_init_97 : decode cX6_init 97 = .ok (.putfield 37, 3) := by decide +kernel
theorem dX6_init_100 : decode cX6_init 100 = .ok (.aload_n 0, 1) := by decide +kernel
theorem dX6_init_101 : decode cX6_init 101 = .ok (.iconst 4, 1) := by decide +kernel
theorem dX6_init_102 : decode cX6_init 102 = .ok (.newarray .int, 2) := by decide +kernel
theorem dX6_init_104 : decode cX6_init 104 = .ok (.dup, 1) := by decide +kernel
theorem dX6_init_105 : decode cX6_init 105 = .ok (.iconst 0, 1) := by decide +kernel
theorem dX6_init_106 : decode cX6_init 106 = .ok (.iconst (-1), 1) := by decide +kernel
theorem dX6_init_107 : decode cX6_init 107 = .ok (.iastore, 1) := by decide +kernel
theorem dX6_init_108 : decode cX6_init 108 = .ok (.dup, 1) := by decide +kernel
theorem dX6_init_109 : decode cX6_init 109 = .ok (.iconst 1, 1) := by decide +kernel
theorem dX6_init_110 : decode cX6_init 110 = .ok (.iconst (-1), 1) := by decide +kernel
theorem dX6_init_111 : decode cX6_init 111 = .ok (.iastore, 1) := by decide +kernel
theorem dX6_init_112 : decode cX6_init 112 = .ok (.dup, 1) := by decide +kernel
theorem dX6_init_113 : decode cX6_init 113 = .ok (.iconst 2, 1) := by decide +kernel
theorem dX6_init_114 : decode cX6_init 114 = .ok (.iconst (-1), 1) := by decide +kernel
theorem dX6_init_115 : decode cX6_init 115 = .ok (.iastore, 1) := by decide +kernel
theorem dX6_init_116 : decode cX6_init 116 = .ok (.dup, 1) := by decide +kernel
theorem dX6_init_117 : decode cX6_init 117 = .ok (.iconst 3, 1) := by decide +kernel
theorem dX6_init_118 : decode cX6_init 118 = .ok (.iconst (-1), 1) := by decide +kernel
theorem dX6_init_119 : decode cX6_init 119 = .ok (.iastore, 1) := by decide +kernel
theorem dX6_init_120 : decode cX6_init 120 = .ok (.putfield 41, 3) := by decide +kernel
theorem dX6_init_123 : decode cX6_init 123 = .ok (.aload_n 0, 1) := by decide +kernel
theorem dX6_init_124 : decode cX6_init 124 = .ok (.iconst 4, 1) := by decide +kernel
theorem dX6_init_125 : decode cX6_init 125 = .ok (.newarray .int, 2) := by decide +kernel
theorem dX6_init_127 : decode cX6_init 127 = .ok (.putfield 44, 3) := by decide +kernel
theorem dX6_init_130 : decode cX6_init 130 = .ok (.aload_n 0, 1) := by decide +kernel
theorem dX6_init_131 : decode cX6_init 131 = .ok (.iconst 4, 1) := by decide +kernel
theorem dX6_init_132 : decode cX6_init 132 = .ok (.newarray .int, 2) := by decide +kernel
theorem dX6_init_134 : decode cX6_init 134 = .ok (.putfield 47, 3) := by decide +kernel
theorem dX6_init_137 : decode cX6_init 137 = .ok (.aload_n 0, 1) := by decide +kernel
theorem dX6_init_138 : decode cX6_init 138 = .ok (.bipush 30, 2) := by decide +kernel
theorem dX6_init_140 : decode cX6_init 140 = .ok (.newarray .int, 2) := by decide +kernel
theorem dX6_init_142 : decode cX6_init 142 = .ok (.putfield 50, 3) := by decide +kernel
theorem dX6_init_145 : decode cX6_init 145 = .ok (.aload_n 0, 1) := by decide +kernel
theorem dX6_init_146 : decode cX6_init 146 = .ok (.getfield 7, 3) := by decide +kernel
theorem dX6_init_149 : decode cX6_init 149 = .ok (.invokestatic 53, 3) := by decide +kernel
theorem dX6_init_152 : decode cX6_init 152 = .ok (.aload_n 0, 1) := by decide +kernel
theorem dX6_init_153 : decode cX6_init 153 = .ok (.getfield 7, 3) := by decide +kernel
theorem dX6_init_156 : decode cX6_init 156 = .ok (.bipush 7, 2) := by decide +kernel
theorem dX6_init_158 : decode cX6_init 158 = .ok (.iconst 1, 1) := by decide +kernel
theorem dX6_init_159 : decode cX6_init 159 = .ok (.iastore, 1) := by decide +kernel
theorem dX6_init_160 : decode cX6_init 160 = .ok (.return_, 1) := by decide +kernel
theorem dX6_begins_0 : decode cX6_begins 0 = .ok (.iconst 0, 1) := by decide +kernel
theorem dX6_begins_1 : decode cX6_begins 1 = .ok (.istore_n 1, 1) := by decide +kernel
theorem dX6_begins_2 : decode cX6_begins 2 = .ok (.iload_n 1, 1) := by decide +kernel
theorem dX6_begins_3 : decode cX6_begins 3 = .ok (.bipush 76, 2) := by decide +kernel
theorem dX6_begins_5 : decode cX6_begins 5 = .ok (.if_icmp .ge 13, 3) := by decide +kernel
theorem dX6_begins_8 : decode cX6_begins 8 = .ok (.aload_n 0, 1) := by decide +kernel
theorem dX6_begins_9 : decode cX6_begins 9 = .ok (.iload_n 1, 1) := by decide +kernel
theorem dX6_begins_10 : decode cX6_begins 10 = .ok (.iconst 0, 1) := by decide +kernel
theorem dX6_begins_11 : decode cX6_begins 11 = .ok (.iastore, 1) := by decide +kernel
theorem dX6_begins_12 : decode cX6_begins 12 = .ok (.iinc 1 1, 3) := by decide +kernel
theorem dX6_begins_15 : decode cX6_begins 15 = .ok (.goto (-13), 3) := by decide +kernel
theorem dX6_begins_18 : decode cX6_begins 18 = .ok (.aload_n 0, 1) := by decide +kernel
theorem dX6_begins_19 : decode cX6_begins 19 = .ok (.iconst 0, 1) := by decide +kernel
theorem dX6_begins_20 : decode cX6_begins 20 = .ok (.iconst 2, 1) := by decide +kernel
theorem dX6_begins_21 : decode cX6_begins 21 = .ok (.iastore, 1) := by decide +kernel
theorem dX6_begins_22 : decode cX6_begins 22 = .ok (.aload_n 0, 1) := by decide +kernel
theorem dX6_begins_23 : decode cX6_begins 23 = .ok (.iconst 1, 1) := by decide +kernel
theorem dX6_begins_24 : decode cX6_begins 24 = .ok (.iconst 3, 1) := by decide +kernel
theorem dX6_begins_25 : decode cX6_begins 25 = .ok (.iastore, 1) := by decide +kernel
theorem dX6_begins_26 : decode cX6_begins 26 = .ok (.aload_n 0, 1) := by decide +kernel
theorem dX6_begins_27 : decode cX6_begins 27 = .ok (.iconst 2, 1) := by decide +kernel
theorem dX6_begins_28 : decode cX6_begins 28 = .ok (.iconst 1, 1) := by decide +kernel
theorem dX6_begins_29 : decode cX6_begins 29 = .ok (.iastore, 1) := by decide +kernel
theorem dX6_begins_30 : decode cX6_begins 30 = .ok (.aload_n 0, 1) := by decide +kernel
theorem dX6_begins_31 : decode cX6_begins 31 = .ok (.iconst 3, 1) := by decide +kernel
theorem dX6_begins_32 : decode cX6_begins 32 = .ok (.bipush 20, 2) := by decide +kernel
theorem dX6_begins_34 : decode cX6_begins 34 = .ok (.iastore, 1) := by decide +kernel
theorem dX6_begins_35 : decode cX6_begins 35 = .ok (.return_, 1) := by decide +kernel
