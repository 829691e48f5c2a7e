theorem dX6_comesBack_31 : decode cX6_comesBack 31 = .ok (.getfield 41, 3) := by decide +kernel
theorem dX6_comesBack_34 : decode cX6_comesBack 34 = .ok (.bipush 112, 2) := by decide +kernel
theorem dX6_comesBack_36 : decode cX6_comesBack 36 = .ok (.iload 4, 2) := by decide +kernel
theorem dX6_comesBack_38 : decode cX6_comesBack 38 = .ok (.iadd, 1) := by decide +kernel
theorem dX6_comesBack_39 : decode cX6_comesBack 39 = .ok (.iaload, 1) := by decide +kernel
theorem dX6_comesBack_40 : decode cX6_comesBack 40 = .ok (.invokestatic 123, 3) := by decide +kernel
theorem dX6_comesBack_43 : decode cX6_comesBack 43 = .ok (.istore 5, 2) := by decide +kernel
theorem dX6_comesBack_45 : decode cX6_comesBack 45 = .ok (.aload_n 0, 1) := by decide +kernel
theorem dX6_comesBack_46 : decode cX6_comesBack 46 = .ok (.getfield 41, 3) := by decide +kernel
theorem dX6_comesBack_49 : decode cX6_comesBack 49 = .ok (.bipush 14, 2) := by decide +kernel
theorem dX6_comesBack_51 : decode cX6_comesBack 51 = .ok (.iload 5, 2) := by decide +kernel
theorem dX6_comesBack_53 : decode cX6_comesBack 53 = .ok (.iadd, 1) := by decide +kernel
theorem dX6_comesBack_54 : decode cX6_comesBack 54 = .ok (.iaload, 1) := by decide +kernel
theorem dX6_comesBack_55 : decode cX6_comesBack 55 = .ok (.iconst (-1), 1) := by decide +kernel
theorem dX6_comesBack_56 : decode cX6_comesBack 56 = .ok (.if_icmp .ne 15, 3) := by decide +kernel
theorem dX6_comesBack_59 : decode cX6_comesBack 59 = .ok (.aload_n 0, 1) := by decide +kernel
theorem dX6_comesBack_60 : decode cX6_comesBack 60 = .ok (.iload 4, 2) := by decide +kernel
theorem dX6_comesBack_62 : decode cX6_comesBack 62 = .ok (.iload 5, 2) := by decide +kernel
theorem dX6_comesBack_64 : decode cX6_comesBack 64 = .ok (.iconst 1, 1) := by decide +kernel
theorem dX6_comesBack_65 : decode cX6_comesBack 65 = .ok (.invokevirtual 119, 3) := by decide +kernel
theorem dX6_comesBack_68 : decode cX6_comesBack 68 = .ok (.goto 18, 3) := by decide +kernel
theorem dX6_comesBack_71 : decode cX6_comesBack 71 = .ok (.aload_n 0, 1) := by decide +kernel
theorem dX6_comesBack_72 : decode cX6_comesBack 72 = .ok (.getfield 41, 3) := by decide +kernel
theorem dX6_comesBack_75 : decode cX6_comesBack 75 = .ok (.sipush 172, 3) := by decide +kernel
theorem dX6_comesBack_78 : decode cX6_comesBack 78 = .ok (.iload_n 1, 1) := by decide +kernel
theorem dX6_comesBack_79 : decode cX6_comesBack 79 = .ok (.iadd, 1) := by decide +kernel
theorem dX6_comesBack_80 : decode cX6_comesBack 80 = .ok (.iload 4, 2) := by decide +kernel
theorem dX6_comesBack_82 : decode cX6_comesBack 82 = .ok (.iastore, 1) := by decide +kernel
theorem dX6_comesBack_83 : decode cX6_comesBack 83 = .ok (.iinc 1 1, 3) := by decide +kernel
theorem dX6_comesBack_86 : decode cX6_comesBack 86 = .ok (.iinc 3 1, 3) := by decide +kernel
theorem dX6_comesBack_89 : decode cX6_comesBack 89 = .ok (.goto (-76), 3) := by decide +kernel
theorem dX6_comesBack_92 : decode cX6_comesBack 92 = .ok (.aload_n 0, 1) := by decide +kernel
theorem dX6_comesBack_93 : decode cX6_comesBack 93 = .ok (.getfield 41, 3) := by decide +kernel
theorem dX6_comesBack_96 : decode cX6_comesBack 96 = .ok (.sipush 234, 3) := by decide +kernel
theorem dX6_comesBack_99 : decode cX6_comesBack 99 = .ok (.iload_n 1, 1) := by decide +kernel
theorem dX6_comesBack_100 : decode cX6_comesBack 100 = .ok (.iastore, 1) := by decide +kernel
theorem dX6_comesBack_101 : decode cX6_comesBack 101 = .ok (.return_, 1) := by decide +kernel
set_option maxRecDepth 20000 in
theorem ggX6_ticks_X6_fillsUp : GoodIn wsX6_ticks wsX6_fillsUp := goodIn_ca (goodIn_r _ [8, 3, 9, 10, 1, 48, 49, 50, 51, 52, 53, 54, 55, 56, 57, 58, 59, 60, 61, 62, 63, 64, 65, 66, 67] (by decide +kernel) (by decide +kernel)) (goodIn_sub (fun _ h => List.mem_cons_of_mem _ (List.mem_append_left _ (List.mem_append_right _ h))) (by decide +kernel))
set_option maxRecDepth 20000 in
theorem gX6_ticks_X6_fillsUp : GoodIn wsX6_ticks (wsV RX6 126 RX6 yX6_fillsUp wsX6_fillsUp) := goodIn_app (goodIn_of _ (by decide +kernel)) ggX6_ticks_X6_fillsUp
set_option maxRecDepth 20000 in
theorem ggX6_ticks_X6_goesOn : GoodIn wsX6_ticks wsX6_goesOn := goodIn_ca (goodIn_r _ [14, 1, 3, 15, 16, 17, 7, 18, 19, 20, 21, 22, 23, 24, 25, 26, 27, 28, 29, 30, 31, 32, 33, 9, 34, 35, 36, 37, 38, 39, 40, 48, 49, 50, 51, 52, 53, 54, 55, 56, 57, 58, 59, 60, 61, 62, 63, 64, 65, 66, 67] (by decide +kernel) (by decide +kernel)) (goodIn_sub (fun _ h => List.mem_cons_of_mem _ (List.mem_append_left _ (List.mem_append_right _ h))) (by decide +kernel))
set_option maxRecDepth 20000 in
theorem gX6_ticks_X6_goesOn : GoodIn wsX6_ticks (wsV RX6 129 RX6 yX6_goesOn wsX6_goesOn) := goodIn_app (goodIn_of _ (by decide +kernel)) ggX6_ticks_X6_goesOn
set_option maxRecDepth 20000 in
theorem ggX6_ticks_X6_comesBack : GoodIn wsX6_ticks wsX6_comesBack := goodIn_ca (goodIn_r _ [44, 1, 45, 46, 7, 47, 30, 31, 32, 33, 9, 34, 35, 36, 19, 37, 38, 39, 40, 21, 22, 23, 24, 25, 26, 27, 28, 29, 48, 49, 50, 51, 52, 53, 54, 55, 56, 57, 58, 59, 60, 61, 62, 63, 64, 65, 66, 67] (by decide +kernel) (by decide +kernel)) (goodIn_sub (fun _ h => List.mem_cons_of_mem _ (List.mem_append_left _ (List.mem_append_right _ h))) (by decide +kernel))
set_option maxRecDepth 20000 in
theorem gX6_ticks_X6_comesBack : GoodIn wsX6_ticks (wsV RX6 132 RX6 yX6_comesBack wsX6_comesBack) := goodIn_app (goodIn_of _ (by decide +kernel)) ggX6_ticks_X6_comesBack
set_option maxRecDepth 20000 in
theorem ggX6_ticks_X6_enters : GoodIn wsX6_ticks wsX6_enters := goodIn_ca (goodIn_r _ [33, 9, 34, 1, 35, 36, 19, 37, 38, 39, 40, 21, 22, 23, 7, 24, 25, 26, 27, 28, 29, 48, 49, 50, 51, 52, 53, 54, 55, 56, 57, 58, 59, 60, 61, 62, 63, 64, 65, 66, 67] (by decide +kernel) (by decide +kernel)) (goodIn_sub (fun _ h => List.mem_cons_of_mem _ (List.mem_append_left _ (List.mem_append_right _ h))) (by decide +kernel))
set_option maxRecDepth 20000 in
theorem gX6_ticks_X6_enters : GoodIn wsX6_ticks (wsV RX6 119 RX6 yX6_enters wsX6_enters) := goodIn_app (goodIn_of _ (by decide +kernel)) ggX6_ticks_X6_enters
theorem dX6_ticks_0 : decode cX6_ticks 0 = .ok (.aload_n 0, 1) := by decide +kernel
theorem dX6_ticks_1 : decode cX6_ticks 1 = .ok (.getfield 41, 3) := by decide +kernel
theorem dX6_ticks_4 : decode cX6_ticks 4 = .ok (.sipush 232, 3) := by decide +kernel
theorem dX6_ticks_7 : decode cX6_ticks 7 = .ok (.dup2, 1) := by decide +kernel
theorem dX6_ticks_8 : decode cX6_ticks 8 = .ok (.iaload, 1) := by decide +kernel
theorem dX6_ticks_9 : decode cX6_ticks 9 = .ok (.iconst 1, 1) := by decide +kernel
theorem dX6_ticks_10 : decode cX6_ticks 10 = .ok (.iadd, 1) := by decide +kernel
theorem dX6_ticks_11 : decode cX6_ticks 11 = .ok (.iastore, 1) := by decide +kernel
theorem dX6_ticks_12 : decode cX6_ticks 12 = .ok (.aload_n 0, 1) := by decide +kernel
theorem dX6_ticks_13 : decode cX6_ticks 13 = .ok (.getfield 41, 3) := by decide +kernel
theorem dX6_ticks_16 : decode cX6_ticks 16 = .ok (.sipush 232, 3) := by decide +kernel
theorem dX6_ticks_19 : decode cX6_ticks 19 = .ok (.iaload, 1) := by decide +kernel
theorem dX6_ticks_20 : decode cX6_ticks 20 = .ok (.aload_n 0, 1) := by decide +kernel
theorem dX6_ticks_21 : decode cX6_ticks 21 = .ok (.getfield 25, 3) := by decide +kernel
theorem dX6_ticks_24 : decode cX6_ticks 24 = .ok (.irem, 1) := by decide +kernel
theorem dX6_ticks_25 : decode cX6_ticks 25 = .ok (.ifCond .ne 7, 3) := by decide +kernel
theorem dX6_ticks_28 : decode cX6_ticks 28 = .ok (.aload_n 0, 1) := by decide +kernel
theorem dX6_ticks_29 : decode cX6_ticks 29 = .ok (.invokevirtual 126, 3) := by decide +kernel
theorem dX6_ticks_32 : decode cX6_ticks 32 = .ok (.iconst 0, 1) := by decide +kernel
theorem dX6_ticks_33 : decode cX6_ticks 33 = .ok (.istore_n 1, 1) := by decide +kernel
theorem dX6_ticks_34 : decode cX6_ticks 34 = .ok (.iload_n 1, 1) := by decide +kernel
theorem dX6_ticks_35 : decode cX6_ticks 35 = .ok (.aload_n 0, 1) := by decide +kernel
theorem dX6_ticks_36 : decode cX6_ticks 36 = .ok (.getfield 71, 3) := by decide +kernel
theorem dX6_ticks_39 : decode cX6_ticks 39 = .ok (.if_icmp .ge 49, 3) := by decide +kernel
theorem dX6_ticks_42 : decode cX6_ticks 42 = .ok (.aload_n 0, 1) := by decide +kernel
theorem dX6_ticks_43 : decode cX6_ticks 43 = .ok (.getfield 41, 3) := by decide +kernel
theorem dX6_ticks_46 : decode cX6_ticks 46 = .ok (.bipush 14, 2) := by decide +kernel
theorem dX6_ticks_48 : decode cX6_ticks 48 = .ok (.iload_n 1, 1) := by decide +kernel
theorem dX6_ticks_49 : decode cX6_ticks 49 = .ok (.iadd, 1) := by decide +kernel
theorem dX6_ticks_50 : decode cX6_ticks 50 = .ok (.iaload, 1) := by decide +kernel
theorem dX6_ticks_51 : decode cX6_ticks 51 = .ok (.istore_n 2, 1) := by decide +kernel
theorem dX6_ticks_52 : decode cX6_ticks 52 = .ok (.iload_n 2, 1) := by decide +kernel
theorem dX6_ticks_53 : decode cX6_ticks 53 = .ok (.iconst (-1), 1) := by decide +kernel
theorem dX6_ticks_54 : decode cX6_ticks 54 = .ok (.if_icmp .eq 28, 3) := by decide +kernel
theorem dX6_ticks_57 : decode cX6_ticks 57 = .ok (.aload_n 0, 1) := by decide +kernel
theorem dX6_ticks_58 : decode cX6_ticks 58 = .ok (.getfield 41, 3) := by decide +kernel
theorem dX6_ticks_61 : decode cX6_ticks 61 = .ok (.bipush 22, 2) := by decide +kernel
theorem dX6_ticks_63 : decode cX6_ticks 63 = .ok (.iload_n 2, 1) := by decide +kernel
theorem dX6_ticks_64 : decode cX6_ticks 64 = .ok (.iadd, 1) := by decide +kernel
theorem dX6_ticks_65 : decode cX6_ticks 65 = .ok (.iaload, 1) := by decide +kernel
theorem dX6_ticks_66 : decode cX6_ticks 66 = .ok (.ifCond .le 16, 3) := by decide +kernel
theorem dX6_ticks_69 : decode cX6_ticks 69 = .ok (.aload_n 0, 1) := by decide +kernel
theorem dX6_ticks_70 : decode cX6_ticks 70 = .ok (.getfield 41, 3) := by decide +kernel
theorem dX6_ticks_73 : decode cX6_ticks 73 = .ok (.bipush 22, 2) := by decide +kernel
theorem dX6_ticks_75 : decode cX6_ticks 75 = .ok (.iload_n 2, 1) := by decide +kernel
theorem dX6_ticks_76 : decode cX6_ticks 76 = .ok (.iadd, 1) := by decide +kernel
theorem dX6_ticks_77 : decode cX6_ticks 77 = .ok (.dup2, 1) := by decide +kernel
theorem dX6_ticks_78 : decode cX6_ticks 78 = .ok (.iaload, 1) := by decide +kernel
theorem dX6_ticks_79 : decode cX6_ticks 79 = .ok (.iconst 1, 1) := by decide +kernel
theorem dX6_ticks_80 : decode cX6_ticks 80 = .ok (.isub, 1) := by decide +kernel
theorem dX6_ticks_81 : decode cX6_ticks 81 = .ok (.iastore, 1) := by decide +kernel
theorem dX6_ticks_82 : decode cX6_ticks 82 = .ok (.iinc 1 1, 3) := by decide +kernel
theorem dX6_ticks_85 : decode cX6_ticks 85 = .ok (.goto (-51), 3) := by decide +kernel
theorem dX6_ticks_88 : decode cX6_ticks 88 = .ok (.aload_n 0, 1) := by decide +kernel
theorem dX6_ticks_89 : decode cX6_ticks 89 = .ok (.getfield 71, 3) := by decide +kernel
theorem dX6_ticks_92 : decode cX6_ticks 92 = .ok (.iconst 1, 1) := by decide +kernel
theorem dX6_ticks_93 : decode cX6_ticks 93 = .ok (.isub, 1) := by decide +kernel
theorem dX6_ticks_94 : decode cX6_ticks 94 = .ok (.istore_n 1, 1) := by decide +kernel
theorem dX6_ticks_95 : decode cX6_ticks 95 = .ok (.iload_n 1, 1) := by decide +kernel
theorem dX6_ticks_96 : decode cX6_ticks 96 = .ok (.ifCond .lt 14, 3) := by decide +kernel
theorem dX6_ticks_99 : decode cX6_ticks 99 = .ok (.aload_n 0, 1) := by decide +kernel
theorem dX6_ticks_100 : decode cX6_ticks 100 = .ok (.iload_n 1, 1) := by decide +kernel
theorem dX6_ticks_101 : decode cX6_ticks 101 = .ok (.invokevirtual 129, 3) := by decide +kernel
theorem dX6_ticks_104 : decode cX6_ticks 104 = .ok (.iinc 1 (-1), 3) := by decide +kernel
theorem dX6_ticks_107 : decode cX6_ticks 107 = .ok (.goto (-12), 3) := by decide +kernel
theorem dX6_ticks_110 : decode cX6_ticks 110 = .ok (.aload_n 0, 1) := by decide +kernel
theorem dX6_ticks_111 : decode cX6_ticks 111 = .ok (.invokevirtual 132, 3) := by decide +kernel
theorem dX6_ticks_114 : decode cX6_ticks 114 = .ok (.aload_n 0, 1) := by decide +kernel
theorem dX6_ticks_115 : decode cX6_ticks 115 = .ok (.getfield 41, 3) := by decide +kernel
theorem dX6_ticks_118 : decode cX6_ticks 118 = .ok (.sipush 233, 3) := by decide +kernel
theorem dX6_ticks_121 : decode cX6_ticks 121 = .ok (.iaload, 1) := by decide +kernel
theorem dX6_ticks_122 : decode cX6_ticks 122 = .ok (.ifCond .le 84, 3) := by decide +kernel
theorem dX6_ticks_125 : decode cX6_ticks 125 = .ok (.aload_n 0, 1) := by decide +kernel
theorem dX6_ticks_126 : decode cX6_ticks 126 = .ok (.getfield 41, 3) := by decide +kernel
theorem dX6_ticks_129 : decode cX6_ticks 129 = .ok (.bipush 14, 2) := by decide +kernel
theorem dX6_ticks_131 : decode cX6_ticks 131 = .ok (.iaload, 1) := by decide +kernel
theorem dX6_ticks_132 : decode cX6_ticks 132 = .ok (.iconst (-1), 1) := by decide +kernel
theorem dX6_ticks_133 : decode cX6_ticks 133 = .ok (.if_icmp .ne 73, 3) := by decide +kernel
theorem dX6_ticks_136 : decode cX6_ticks 136 = .ok (.aload_n 0, 1) := by decide +kernel
theorem dX6_ticks_137 : decode cX6_ticks 137 = .ok (.getfield 41, 3) := by decide +kernel
theorem dX6_ticks_140 : decode cX6_ticks 140 = .ok (.sipush 142, 3) := by decide +kernel
theorem dX6_ticks_143 : decode cX6_ticks 143 = .ok (.iaload, 1) := by decide +kernel
theorem dX6_ticks_144 : decode cX6_ticks 144 = .ok (.istore_n 1, 1) := by decide +kernel
theorem dX6_ticks_145 : decode cX6_ticks 145 = .ok (.aload_n 0, 1) := by decide +kernel
theorem dX6_ticks_146 : decode cX6_ticks 146 = .ok (.getfield 41, 3) := by decide +kernel
theorem dX6_ticks_149 : decode cX6_ticks 149 = .ok (.sipush 233, 3) := by decide +kernel
theorem dX6_ticks_152 : decode cX6_ticks 152 = .ok (.dup2, 1) := by decide +kernel
theorem dX6_ticks_153 : decode cX6_ticks 153 = .ok (.iaload, 1) := by decide +kernel
theorem dX6_ticks_154 : decode cX6_ticks 154 = .ok (.iconst 1, 1) := by decide +kernel
theorem dX6_ticks_155 : decode cX6_ticks 155 = .ok (.isub, 1) := by decide +kernel
theorem dX6_ticks_156 : decode cX6_ticks 156 = .ok (.iastore, 1) := by decide +kernel
theorem dX6_ticks_157 : decode cX6_ticks 157 = .ok (.iconst 0, 1) := by decide +kernel
theorem dX6_ticks_158 : decode cX6_ticks 158 = .ok (.istore_n 2, 1) := by decide +kernel
theorem dX6_ticks_159 : decode cX6_ticks 159 = .ok (.iload_n 2, 1) := by decide +kernel
theorem dX6_ticks_160 : decode cX6_ticks 160 = .ok (.aload_n 0, 1) := by decide +kernel
theorem dX6_ticks_161 : decode cX6_ticks 161 = .ok (.getfield 41, 3) := by decide +kernel
theorem dX6_ticks_164 : decode cX6_ticks 164 = .ok (.sipush 233, 3) := by decide +kernel
theorem dX6_ticks_167 : decode cX6_ticks 167 = .ok (.iaload, 1) := by decide +kernel
theorem dX6_ticks_168 : decode cX6_ticks 168 = .ok (.if_icmp .ge 31, 3) := by decide +kernel
theorem dX6_ticks_171 : decode cX6_ticks 171 = .ok (.aload_n 0, 1) := by decide +kernel
theorem dX6_ticks_172 : decode cX6_ticks 172 = .ok (.getfield 41, 3) := by decide +kernel
theorem dX6_ticks_175 : decode cX6_ticks 175 = .ok (.sipush 142, 3) := by decide +kernel
theorem dX6_ticks_178 : decode cX6_ticks 178 = .ok (.iload_n 2, 1) := by decide +kernel
theorem dX6_ticks_179 : decode cX6_ticks 179 = .ok (.iadd, 1) := by decide +kernel
theorem dX6_ticks_180 : decode cX6_ticks 180 = .ok (.aload_n 0, 1) := by decide +kernel
theorem dX6_ticks_181 : decode cX6_ticks 181 = .ok (.getfield 41, 3) := by decide +kernel
theorem dX6_ticks_184 : decode cX6_ticks 184 = .ok (.sipush 142, 3) := by decide +kernel
theorem dX6_ticks_187 : decode cX6_ticks 187 = .ok (.iload_n 2, 1) := by decide +kernel
theorem dX6_ticks_188 : decode cX6_ticks 188 = .ok (.iadd, 1) := by decide +kernel
theorem dX6_ticks_189 : decode cX6_ticks 189 = .ok (.iconst 1, 1) := by decide +kernel
theorem dX6_ticks_190 : decode cX6_ticks 190 = .ok (.iadd, 1) := by decide +kernel
theorem dX6_ticks_191 : decode cX6_ticks 191 = .ok (.iaload, 1) := by decide +kernel
theorem dX6_ticks_192 : decode cX6_ticks 192 = .ok (.iastore, 1) := by decide +kernel
theorem dX6_ticks_193 : decode cX6_ticks 193 = .ok (.iinc 2 1, 3) := by decide +kernel
theorem dX6_ticks_196 : decode cX6_ticks 196 = .ok (.goto (-37), 3) := by decide +kernel
theorem dX6_ticks_199 : decode cX6_ticks 199 = .ok (.aload_n 0, 1) := by decide +kernel
theorem dX6_ticks_200 : decode cX6_ticks 200 = .ok (.iload_n 1, 1) := by decide +kernel
theorem dX6_ticks_201 : decode cX6_ticks 201 = .ok (.iconst 0, 1) := by decide +kernel
theorem dX6_ticks_202 : decode cX6_ticks 202 = .ok (.iconst 0, 1) := by decide +kernel
theorem dX6_ticks_203 : decode cX6_ticks 203 = .ok (.invokevirtual 119, 3) := by decide +kernel
theorem dX6_ticks_206 : decode cX6_ticks 206 = .ok (.return_, 1) := by decide +kernel
set_option maxRecDepth 20000 in
theorem ggX6_tick_X6_in : GoodIn wsX6_tick wsX6_in := goodIn_r _ [8] (by decide +kernel) (by decide +kernel)
set_option maxRecDepth 20000 in
theorem gX6_tick_X6_in : GoodIn wsX6_tick (va_wsS RX6 59 yX6_in wsX6_in) := goodIn_app (goodIn_of _ (by decide +kernel)) ggX6_tick_X6_in
set_option maxRecDepth 20000 in
theorem ggX6_tick_X6_ticks : GoodIn wsX6_tick wsX6_ticks := goodIn_ca (goodIn_ca (goodIn_r _ [12, 3, 13, 2, 14, 15, 16, 7, 17, 18, 19, 20, 21, 22, 23, 24, 25, 26, 27, 28, 29, 30, 31, 32, 33, 34, 35, 36, 37, 38, 39, 40, 41, 42, 43, 44, 45, 46, 47, 48, 49, 50, 51, 52, 53, 54, 55, 56, 57, 58, 59, 60, 61, 62, 63, 64, 65, 66, 67, 68, 69, 70, 71, 72, 73, 74, 75, 76] (by decide +kernel) (by decide +kernel)) (goodIn_sub (fun _ h => List.mem_cons_of_mem _ (List.mem_append_left _ (List.mem_append_right _ h))) (by decide +kernel))) (goodIn_sub (fun _ h => List.mem_cons_of_mem _ (List.mem_append_right _ h)) (by decide +kernel))
set_option maxRecDepth 20000 in
theorem gX6_tick_X6_ticks : GoodIn wsX6_tick (wsV RX6 135 RX6 yX6_ticks wsX6_ticks) := goodIn_app (goodIn_of _ (by decide +kernel)) ggX6_tick_X6_ticks
theorem dX6_tick_0 : decode cX6_tick 0 = .ok (.aload_n 0, 1) := by decide +kernel
theorem dX6_tick_1 : decode cX6_tick 1 = .ok (.iload_n 1, 1) := by decide +kernel
theorem dX6_tick_2 : decode cX6_tick 2 = .ok (.i2l, 1) := by decide +kernel
theorem dX6_tick_3 : decode cX6_tick 3 = .ok (.lconst 1, 1) := by decide +kernel
theorem dX6_tick_4 : decode cX6_tick 4 = .ok (.ldc2_w 80, 3) := by decide +kernel
theorem dX6_tick_7 : decode cX6_tick 7 = .ok (.invokestatic 59, 3) := by decide +kernel
theorem dX6_tick_10 : decode cX6_tick 10 = .ok (.ifCond .ne 7, 3) := by decide +kernel
theorem dX6_tick_13 : decode cX6_tick 13 = .ok (.iconst 1, 1) := by decide +kernel
theorem dX6_tick_14 : decode cX6_tick 14 = .ok (.goto 31, 3) := by decide +kernel
theorem dX6_tick_17 : decode cX6_tick 17 = .ok (.aload_n 0, 1) := by decide +kernel
theorem dX6_tick_18 : decode cX6_tick 18 = .ok (.getfield 71, 3) := by decide +kernel
theorem dX6_tick_21 : decode cX6_tick 21 = .ok (.ifCond .eq 19, 3) := by decide +kernel
theorem dX6_tick_24 : decode cX6_tick 24 = .ok (.aload_n 0, 1) := by decide +kernel
theorem dX6_tick_25 : decode cX6_tick 25 = .ok (.getfield 41, 3) := by decide +kernel
theorem dX6_tick_28 : decode cX6_tick 28 = .ok (.sipush 232, 3) := by decide +kernel
theorem dX6_tick_31 : decode cX6_tick 31 = .ok (.iaload, 1) := by decide +kernel
theorem dX6_tick_32 : decode cX6_tick 32 = .ok (.iload_n 1, 1) := by decide +kernel
theorem dX6_tick_33 : decode cX6_tick 33 = .ok (.iadd, 1) := by decide +kernel
theorem dX6_tick_34 : decode cX6_tick 34 = .ok (.sipush 9999, 3) := by decide +kernel
theorem dX6_tick_37 : decode cX6_tick 37 = .ok (.if_icmp .le 7, 3) := by decide +kernel
theorem dX6_tick_40 : decode cX6_tick 40 = .ok (.iconst 2, 1) := by decide +kernel
theorem dX6_tick_41 : decode cX6_tick 41 = .ok (.goto 4, 3) := by decide +kernel
theorem dX6_tick_44 : decode cX6_tick 44 = .ok (.iconst 0, 1) := by decide +kernel
theorem dX6_tick_45 : decode cX6_tick 45 = .ok (.putfield 54, 3) := by decide +kernel
theorem dX6_tick_48 : decode cX6_tick 48 = .ok (.aload_n 0, 1) := by decide +kernel
theorem dX6_tick_49 : decode cX6_tick 49 = .ok (.getfield 54, 3) := by decide +kernel
theorem dX6_tick_52 : decode cX6_tick 52 = .ok (.ifCond .le 5, 3) := by decide +kernel
theorem dX6_tick_55 : decode cX6_tick 55 = .ok (.iconst (-1), 1) := by decide +kernel
theorem dX6_tick_56 : decode cX6_tick 56 = .ok (.ireturn, 1) := by decide +kernel
theorem dX6_tick_57 : decode cX6_tick 57 = .ok (.aload_n 0, 1) := by decide +kernel
theorem dX6_tick_58 : decode cX6_tick 58 = .ok (.getfield 41, 3) := by decide +kernel
theorem dX6_tick_61 : decode cX6_tick 61 = .ok (.sipush 235, 3) := by decide +kernel
theorem dX6_tick_64 : decode cX6_tick 64 = .ok (.iaload, 1) := by decide +kernel
theorem dX6_tick_65 : decode cX6_tick 65 = .ok (.istore_n 2, 1) := by decide +kernel
theorem dX6_tick_66 : decode cX6_tick 66 = .ok (.iconst 0, 1) := by decide +kernel
theorem dX6_tick_67 : decode cX6_tick 67 = .ok (.istore_n 3, 1) := by decide +kernel
theorem dX6_tick_68 : decode cX6_tick 68 = .ok (.iload_n 3, 1) := by decide +kernel
theorem dX6_tick_69 : decode cX6_tick 69 = .ok (.iload_n 1, 1) := by decide +kernel
theorem dX6_tick_70 : decode cX6_tick 70 = .ok (.if_icmp .ge 13, 3) := by decide +kernel
theorem dX6_tick_73 : decode cX6_tick 73 = .ok (.aload_n 0, 1) := by decide +kernel
theorem dX6_tick_74 : decode cX6_tick 74 = .ok (.invokevirtual 135, 3) := by decide +kernel
theorem dX6_tick_77 : decode cX6_tick 77 = .ok (.iinc 3 1, 3) := by decide +kernel
theorem dX6_tick_80 : decode cX6_tick 80 = .ok (.goto (-12), 3) := by decide +kernel
theorem dX6_tick_83 : decode cX6_tick 83 = .ok (.aload_n 0, 1) := by decide +kernel
theorem dX6_tick_84 : decode cX6_tick 84 = .ok (.getfield 41, 3) := by decide +kernel
theorem dX6_tick_87 : decode cX6_tick 87 = .ok (.sipush 235, 3) := by decide +kernel
theorem dX6_tick_90 : decode cX6_tick 90 = .ok (.iaload, 1) := by decide +kernel
theorem dX6_tick_91 : decode cX6_tick 91 = .ok (.iload_n 2, 1) := by decide +kernel
theorem dX6_tick_92 : decode cX6_tick 92 = .ok (.isub, 1) := by decide +kernel
theorem dX6_tick_93 : decode cX6_tick 93 = .ok (.ireturn, 1) := by decide +kernel
theorem dX6_now_0 : decode cX6_now 0 = .ok (.aload_n 0, 1) := by decide +kernel
theorem dX6_now_1 : decode cX6_now 1 = .ok (.iconst 0, 1) := by decide +kernel
theorem dX6_now_2 : decode cX6_now 2 = .ok (.putfield 54, 3) := by decide +kernel
theorem dX6_now_5 : decode cX6_now 5 = .ok (.aload_n 0, 1) := by decide +kernel
theorem dX6_now_6 : decode cX6_now 6 = .ok (.getfield 41, 3) := by decide +kernel
theorem dX6_now_9 : decode cX6_now 9 = .ok (.sipush 232, 3) := by decide +kernel
theorem dX6_now_12 : decode cX6_now 12 = .ok (.iaload, 1) := by decide +kernel
theorem dX6_now_13 : decode cX6_now 13 = .ok (.ireturn, 1) := by decide +kernel
theorem dX6_stations_0 : decode cX6_stations 0 = .ok (.aload_n 0, 1) := by decide +kernel
theorem dX6_stations_1 : decode cX6_stations 1 = .ok (.iconst 0, 1) := by decide +kernel
theorem dX6_stations_2 : decode cX6_stations 2 = .ok (.putfield 54, 3) := by decide +kernel
theorem dX6_stations_5 : decode cX6_stations 5 = .ok (.aload_n 0, 1) := by decide +kernel
theorem dX6_stations_6 : decode cX6_stations 6 = .ok (.getfield 71, 3) := by decide +kernel
theorem dX6_stations_9 : decode cX6_stations 9 = .ok (.ireturn, 1) := by decide +kernel
theorem dX6_cars_0 : decode cX6_cars 0 = .ok (.aload_n 0, 1) := by decide +kernel
theorem dX6_cars_1 : decode cX6_cars 1 = .ok (.iconst 0, 1) := by decide +kernel
theorem dX6_cars_2 : decode cX6_cars 2 = .ok (.putfield 54, 3) := by decide +kernel
theorem dX6_cars_5 : decode cX6_cars 5 = .ok (.aload_n 0, 1) := by decide +kernel
theorem dX6_cars_6 : decode cX6_cars 6 = .ok (.getfield 84, 3) := by decide +kernel
theorem dX6_cars_9 : decode cX6_cars 9 = .ok (.ireturn, 1) := by decide +kernel
set_option maxRecDepth 20000 in
theorem ggX6_isAsked_X6_isCar : GoodIn wsX6_isAsked wsX6_isCar := goodIn_r _ [6, 7, 8, 9, 5, 10, 11, 12, 13, 14, 15, 16, 17, 18, 19, 20, 21, 22, 23, 24, 25, 26, 27, 28, 29, 30] (by decide +kernel) (by decide +kernel)
set_option maxRecDepth 20000 in
theorem gX6_isAsked_X6_isCar : GoodIn wsX6_isAsked (wsV RX6 87 RX6 yX6_isCar wsX6_isCar) := goodIn_app (goodIn_of _ (by decide +kernel)) ggX6_isAsked_X6_isCar
theorem dX6_isAsked_0 : decode cX6_isAsked 0 = .ok (.aload_n 0, 1) := by decide +kernel
theorem dX6_isAsked_1 : decode cX6_isAsked 1 = .ok (.aload_n 0, 1) := by decide +kernel
theorem dX6_isAsked_2 : decode cX6_isAsked 2 = .ok (.iload_n 1, 1) := by decide +kernel
theorem dX6_isAsked_3 : decode cX6_isAsked 3 = .ok (.invokevirtual 87, 3) := by decide +kernel
theorem dX6_isAsked_6 : decode cX6_isAsked 6 = .ok (.ifCond .eq 7, 3) := by decide +kernel
theorem dX6_isAsked_9 : decode cX6_isAsked 9 = .ok (.iconst 0, 1) := by decide +kernel
theorem dX6_isAsked_10 : decode cX6_isAsked 10 = .ok (.goto 4, 3) := by decide +kernel
theorem dX6_isAsked_13 : decode cX6_isAsked 13 = .ok (.iconst 1, 1) := by decide +kernel
theorem dX6_isAsked_14 : decode cX6_isAsked 14 = .ok (.putfield 54, 3) := by decide +kernel
theorem dX6_isAsked_17 : decode cX6_isAsked 17 = .ok (.aload_n 0, 1) := by decide +kernel
theorem dX6_isAsked_18 : decode cX6_isAsked 18 = .ok (.getfield 54, 3) := by decide +kernel
theorem dX6_isAsked_21 : decode cX6_isAsked 21 = .ok (.ifCond .ne 7, 3) := by decide +kernel
theorem dX6_isAsked_24 : decode cX6_isAsked 24 = .ok (.iconst 1, 1) := by decide +kernel
theorem dX6_isAsked_25 : decode cX6_isAsked 25 = .ok (.goto 4, 3) := by decide +kernel
theorem dX6_isAsked_28 : decode cX6_isAsked 28 = .ok (.iconst 0, 1) := by decide +kernel
theorem dX6_isAsked_29 : decode cX6_isAsked 29 = .ok (.ireturn, 1) := by decide +kernel
set_option maxRecDepth 20000 in
theorem ggX6_stateOf_X6_isAsked : GoodIn wsX6_stateOf wsX6_isAsked := goodIn_r _ [6, 7, 8, 9, 10, 5, 11, 12, 13, 14, 15, 16, 17, 18, 19, 20, 21, 22, 23, 24, 25, 26, 27, 28, 29, 30, 31, 32, 33, 34, 35] (by decide +kernel) (by decide +kernel)
set_option maxRecDepth 20000 in
theorem gX6_stateOf_X6_isAsked : GoodIn wsX6_stateOf (wsV RX6 138 RX6 yX6_isAsked wsX6_isAsked) := goodIn_app (goodIn_of _ (by decide +kernel)) ggX6_stateOf_X6_isAsked
theorem dX6_stateOf_0 : decode cX6_stateOf 0 = .ok (.aload_n 0, 1) := by decide +kernel
theorem dX6_stateOf_1 : decode cX6_stateOf 1 = .ok (.iload_n 1, 1) := by decide +kernel
theorem dX6_stateOf_2 : decode cX6_stateOf 2 = .ok (.invokevirtual 138, 3) := by decide +kernel
theorem dX6_stateOf_5 : decode cX6_stateOf 5 = .ok (.ifCond .eq 16, 3) := by decide +kernel
theorem dX6_stateOf_8 : decode cX6_stateOf 8 = .ok (.aload_n 0, 1) := by decide +kernel
theorem dX6_stateOf_9 : decode cX6_stateOf 9 = .ok (.getfield 41, 3) := by decide +kernel
theorem dX6_stateOf_12 : decode cX6_stateOf 12 = .ok (.bipush 82, 2) := by decide +kernel
theorem dX6_stateOf_14 : decode cX6_stateOf 14 = .ok (.iload_n 1, 1) := by decide +kernel
theorem dX6_stateOf_15 : decode cX6_stateOf 15 = .ok (.iadd, 1) := by decide +kernel
theorem dX6_stateOf_16 : decode cX6_stateOf 16 = .ok (.iaload, 1) := by decide +kernel
theorem dX6_stateOf_17 : decode cX6_stateOf 17 = .ok (.i2c, 1) := by decide +kernel
theorem dX6_stateOf_18 : decode cX6_stateOf 18 = .ok (.goto 5, 3) := by decide +kernel
theorem dX6_stateOf_21 : decode cX6_stateOf 21 = .ok (.bipush 32, 2) := by decide +kernel
theorem dX6_stateOf_23 : decode cX6_stateOf 23 = .ok (.ireturn, 1) := by decide +kernel
theorem dX6_standsAt_0 : decode cX6_standsAt 0 = .ok (.iconst (-1), 1) := by decide +kernel
theorem dX6_standsAt_1 : decode cX6_standsAt 1 = .ok (.istore_n 2, 1) := by decide +kernel
theorem dX6_standsAt_2 : decode cX6_standsAt 2 = .ok (.iconst 0, 1) := by decide +kernel
theorem dX6_standsAt_3 : decode cX6_standsAt 3 = .ok (.istore_n 3, 1) := by decide +kernel
theorem dX6_standsAt_4 : decode cX6_standsAt 4 = .ok (.iload_n 3, 1) := by decide +kernel
theorem dX6_standsAt_5 : decode cX6_standsAt 5 = .ok (.aload_n 0, 1) := by decide +kernel
theorem dX6_standsAt_6 : decode cX6_standsAt 6 = .ok (.getfield 71, 3) := by decide +kernel
theorem dX6_standsAt_9 : decode cX6_standsAt 9 = .ok (.if_icmp .ge 28, 3) := by decide +kernel
theorem dX6_standsAt_12 : decode cX6_standsAt 12 = .ok (.aload_n 0, 1) := by decide +kernel
theorem dX6_standsAt_13 : decode cX6_standsAt 13 = .ok (.getfield 41, 3) := by decide +kernel
theorem dX6_standsAt_16 : decode cX6_standsAt 16 = .ok (.bipush 14, 2) := by decide +kernel
theorem dX6_standsAt_18 : decode cX6_standsAt 18 = .ok (.iload_n 3, 1) := by decide +kernel
theorem dX6_standsAt_19 : decode cX6_standsAt 19 = .ok (.iadd, 1) := by decide +kernel
theorem dX6_standsAt_20 : decode cX6_standsAt 20 = .ok (.iaload, 1) := by decide +kernel
theorem dX6_standsAt_21 : decode cX6_standsAt 21 = .ok (.iload_n 1, 1) := by decide +kernel
theorem dX6_standsAt_22 : decode cX6_standsAt 22 = .ok (.if_icmp .ne 7, 3) := by decide +kernel
theorem dX6_standsAt_25 : decode cX6_standsAt 25 = .ok (.iload_n 3, 1) := by decide +kernel
theorem dX6_standsAt_26 : decode cX6_standsAt 26 = .ok (.goto 4, 3) := by decide +kernel
theorem dX6_standsAt_29 : decode cX6_standsAt 29 = .ok (.iload_n 2, 1) := by decide +kernel
theorem dX6_standsAt_30 : decode cX6_standsAt 30 = .ok (.istore_n 2, 1) := by decide +kernel
theorem dX6_standsAt_31 : decode cX6_standsAt 31 = .ok (.iinc 3 1, 3) := by decide +kernel
theorem dX6_standsAt_34 : decode cX6_standsAt 34 = .ok (.goto (-30), 3) := by decide +kernel
theorem dX6_standsAt_37 : decode cX6_standsAt 37 = .ok (.iload_n 2, 1) := by decide +kernel
theorem dX6_standsAt_38 : decode cX6_standsAt 38 = .ok (.ireturn, 1) := by decide +kernel
set_option maxRecDepth 20000 in
theorem ggX6_stationOf_X6_isCar : GoodIn wsX6_stationOf wsX6_isCar := goodIn_r _ [6, 7, 8, 9, 5, 10, 17, 18, 19, 20, 21, 22, 23, 24, 25, 26, 27, 28, 29, 30, 31, 32, 33, 34, 35, 36] (by decide +kernel) (by decide +kernel)
set_option maxRecDepth 20000 in
theorem gX6_stationOf_X6_isCar : GoodIn wsX6_stationOf (wsV RX6 87 RX6 yX6_isCar wsX6_isCar) := goodIn_app (goodIn_of _ (by decide +kernel)) ggX6_stationOf_X6_isCar
set_option maxRecDepth 20000 in
theorem ggX6_stationOf_X6_standsAt : GoodIn wsX6_stationOf wsX6_standsAt := goodIn_ca (goodIn_r _ [14, 15, 16, 17, 18, 19, 20, 21, 22, 23, 24, 25, 26, 27, 28, 29, 30, 31, 32, 33, 34, 35, 36] (by decide +kernel) (by decide +kernel)) (goodIn_sub (fun _ h => List.mem_cons_of_mem _ (List.mem_append_right _ h)) (by decide +kernel))
set_option maxRecDepth 20000 in
theorem gX6_stationOf_X6_standsAt : GoodIn wsX6_stationOf (wsV RX6 141 RX6 yX6_standsAt wsX6_standsAt) := goodIn_app (goodIn_of _ (by decide +kernel)) ggX6_stationOf_X6_standsAt
theorem dX6_stationOf_0 : decode cX6_stationOf 0 = .ok (.aload_n 0, 1) := by decide +kernel
theorem dX6_stationOf_1 : decode cX6_stationOf 1 = .ok (.aload_n 0, 1) := by decide +kernel
theorem dX6_stationOf_2 : decode cX6_stationOf 2 = .ok (.iload_n 1, 1) := by decide +kernel
theorem dX6_stationOf_3 : decode cX6_stationOf 3 = .ok (.invokevirtual 87, 3) := by decide +kernel
theorem dX6_stationOf_6 : decode cX6_stationOf 6 = .ok (.ifCond .ne 7, 3) := by decide +kernel
theorem dX6_stationOf_9 : decode cX6_stationOf 9 = .ok (.iconst 1, 1) := by decide +kernel
theorem dX6_stationOf_10 : decode cX6_stationOf 10 = .ok (.goto 17, 3) := by decide +kernel
theorem dX6_stationOf_13 : decode cX6_stationOf 13 = .ok (.aload_n 0, 1) := by decide +kernel
theorem dX6_stationOf_14 : decode cX6_stationOf 14 = .ok (.iload_n 1, 1) := by decide +kernel
theorem dX6_stationOf_15 : decode cX6_stationOf 15 = .ok (.invokevirtual 141, 3) := by decide +kernel
theorem dX6_stationOf_18 : decode cX6_stationOf 18 = .ok (.iconst (-1), 1) := by decide +kernel
theorem dX6_stationOf_19 : decode cX6_stationOf 19 = .ok (.if_icmp .ne 7, 3) := by decide +kernel
theorem dX6_stationOf_22 : decode cX6_stationOf 22 = .ok (.iconst 2, 1) := by decide +kernel
theorem dX6_stationOf_23 : decode cX6_stationOf 23 = .ok (.goto 4, 3) := by decide +kernel
theorem dX6_stationOf_26 : decode cX6_stationOf 26 = .ok (.iconst 0, 1) := by decide +kernel
theorem dX6_stationOf_27 : decode cX6_stationOf 27 = .ok (.putfield 54, 3) := by decide +kernel
theorem dX6_stationOf_30 : decode cX6_stationOf 30 = .ok (.aload_n 0, 1) := by decide +kernel
theorem dX6_stationOf_31 : decode cX6_stationOf 31 = .ok (.getfield 54, 3) := by decide +kernel
theorem dX6_stationOf_34 : decode cX6_stationOf 34 = .ok (.ifCond .ne 11, 3) := by decide +kernel
theorem dX6_stationOf_37 : decode cX6_stationOf 37 = .ok (.aload_n 0, 1) := by decide +kernel
theorem dX6_stationOf_38 : decode cX6_stationOf 38 = .ok (.iload_n 1, 1) := by decide +kernel
theorem dX6_stationOf_39 : decode cX6_stationOf 39 = .ok (.invokevirtual 141, 3) := by decide +kernel
theorem dX6_stationOf_42 : decode cX6_stationOf 42 = .ok (.goto 4, 3) := by decide +kernel
theorem dX6_stationOf_45 : decode cX6_stationOf 45 = .ok (.iconst (-1), 1) := by decide +kernel
theorem dX6_stationOf_46 : decode cX6_stationOf 46 = .ok (.ireturn, 1) := by decide +kernel
set_option maxRecDepth 20000 in
theorem ggX6_toGo_X6_isCar : GoodIn wsX6_toGo wsX6_isCar := goodIn_r _ [7, 8, 9, 10, 6, 11, 17, 18, 19, 20, 21, 22, 23, 24, 25, 26, 27, 28, 29, 30, 31, 32, 33, 34, 35, 36] (by decide +kernel) (by decide +kernel)
set_option maxRecDepth 20000 in
theorem gX6_toGo_X6_isCar : GoodIn wsX6_toGo (wsV RX6 87 RX6 yX6_isCar wsX6_isCar) := goodIn_app (goodIn_of _ (by decide +kernel)) ggX6_toGo_X6_isCar
set_option maxRecDepth 20000 in
theorem ggX6_toGo_X6_standsAt : GoodIn wsX6_toGo wsX6_standsAt := goodIn_ca (goodIn_r _ [15, 16, 2, 17, 18, 19, 20, 21, 22, 23, 24, 25, 26, 27, 28, 29, 30, 31, 32, 33, 34, 35, 36] (by decide +kernel) (by decide +kernel)) (goodIn_sub (fun _ h => List.mem_cons_of_mem _ (List.mem_append_right _ h)) (by decide +kernel))
set_option maxRecDepth 20000 in
theorem gX6_toGo_X6_standsAt : GoodIn wsX6_toGo (wsV RX6 141 RX6 yX6_standsAt wsX6_standsAt) := goodIn_app (goodIn_of _ (by decide +kernel)) ggX6_toGo_X6_standsAt
theorem dX6_toGo_0 : decode cX6_toGo 0 = .ok (.aload_n 0, 1) := by decide +kernel
theorem dX6_toGo_1 : decode cX6_toGo 1 = .ok (.aload_n 0, 1) := by decide +kernel
theorem dX6_toGo_2 : decode cX6_toGo 2 = .ok (.iload_n 1, 1) := by decide +kernel
theorem dX6_toGo_3 : decode cX6_toGo 3 = .ok (.invokevirtual 87, 3) := by decide +kernel
theorem dX6_toGo_6 : decode cX6_toGo 6 = .ok (.ifCond .ne 7, 3) := by decide +kernel
theorem dX6_toGo_9 : decode cX6_toGo 9 = .ok (.iconst 1, 1) := by decide +kernel
theorem dX6_toGo_10 : decode cX6_toGo 10 = .ok (.goto 17, 3) := by decide +kernel
theorem dX6_toGo_13 : decode cX6_toGo 13 = .ok (.aload_n 0, 1) := by decide +kernel
theorem dX6_toGo_14 : decode cX6_toGo 14 = .ok (.iload_n 1, 1) := by decide +kernel
theorem dX6_toGo_15 : decode cX6_toGo 15 = .ok (.invokevirtual 141, 3) := by decide +kernel
theorem dX6_toGo_18 : decode cX6_toGo 18 = .ok (.iconst (-1), 1) := by decide +kernel
theorem dX6_toGo_19 : decode cX6_toGo 19 = .ok (.if_icmp .ne 7, 3) := by decide +kernel
theorem dX6_toGo_22 : decode cX6_toGo 22 = .ok (.iconst 2, 1) := by decide +kernel
theorem dX6_toGo_23 : decode cX6_toGo 23 = .ok (.goto 4, 3) := by decide +kernel
theorem dX6_toGo_26 : decode cX6_toGo 26 = .ok (.iconst 0, 1) := by decide +kernel
theorem dX6_toGo_27 : decode cX6_toGo 27 = .ok (.putfield 54, 3) := by decide +kernel
theorem dX6_toGo_30 : decode cX6_toGo 30 = .ok (.aload_n 0, 1) := by decide +kernel
theorem dX6_toGo_31 : decode cX6_toGo 31 = .ok (.getfield 54, 3) := by decide +kernel
theorem dX6_toGo_34 : decode cX6_toGo 34 = .ok (.ifCond .ne 15, 3) := by decide +kernel
theorem dX6_toGo_37 : decode cX6_toGo 37 = .ok (.aload_n 0, 1) := by decide +kernel
theorem dX6_toGo_38 : decode cX6_toGo 38 = .ok (.getfield 41, 3) := by decide +kernel
theorem dX6_toGo_41 : decode cX6_toGo 41 = .ok (.bipush 22, 2) := by decide +kernel
theorem dX6_toGo_43 : decode cX6_toGo 43 = .ok (.iload_n 1, 1) := by decide +kernel
theorem dX6_toGo_44 : decode cX6_toGo 44 = .ok (.iadd, 1) := by decide +kernel
theorem dX6_toGo_45 : decode cX6_toGo 45 = .ok (.iaload, 1) := by decide +kernel
theorem dX6_toGo_46 : decode cX6_toGo 46 = .ok (.goto 4, 3) := by decide +kernel
theorem dX6_toGo_49 : decode cX6_toGo 49 = .ok (.iconst (-1), 1) := by decide +kernel
theorem dX6_toGo_50 : decode cX6_toGo 50 = .ok (.ireturn, 1) := by decide +kernel
set_option maxRecDepth 20000 in
theorem ggX6_carAt_X6_isStation : GoodIn wsX6_carAt wsX6_isStation := goodIn_r _ [7, 8, 9, 10, 6, 11, 12, 13, 14, 15, 16, 17, 18, 19, 20, 21, 22, 23, 24, 25, 26, 27, 28, 29, 30, 31] (by decide +kernel) (by decide +kernel)
set_option maxRecDepth 20000 in
theorem gX6_carAt_X6_isStation : GoodIn wsX6_carAt (wsV RX6 94 RX6 yX6_isStation wsX6_isStation) := goodIn_app (goodIn_of _ (by decide +kernel)) ggX6_carAt_X6_isStation
theorem dX6_carAt_0 : decode cX6_carAt 0 = .ok (.aload_n 0, 1) := by decide +kernel
theorem dX6_carAt_1 : decode cX6_carAt 1 = .ok (.aload_n 0, 1) := by decide +kernel
theorem dX6_carAt_2 : decode cX6_carAt 2 = .ok (.iload_n 1, 1) := by decide +kernel
theorem dX6_carAt_3 : decode cX6_carAt 3 = .ok (.invokevirtual 94, 3) := by decide +kernel
theorem dX6_carAt_6 : decode cX6_carAt 6 = .ok (.ifCond .ne 7, 3) := by decide +kernel
theorem dX6_carAt_9 : decode cX6_carAt 9 = .ok (.iconst 1, 1) := by decide +kernel
theorem dX6_carAt_10 : decode cX6_carAt 10 = .ok (.goto 21, 3) := by decide +kernel
theorem dX6_carAt_13 : decode cX6_carAt 13 = .ok (.aload_n 0, 1) := by decide +kernel
theorem dX6_carAt_14 : decode cX6_carAt 14 = .ok (.getfield 41, 3) := by decide +kernel
theorem dX6_carAt_17 : decode cX6_carAt 17 = .ok (.bipush 14, 2) := by decide +kernel
theorem dX6_carAt_19 : decode cX6_carAt 19 = .ok (.iload_n 1, 1) := by decide +kernel
theorem dX6_carAt_20 : decode cX6_carAt 20 = .ok (.iadd, 1) := by decide +kernel
theorem dX6_carAt_21 : decode cX6_carAt 21 = .ok (.iaload, 1) := by decide +kernel
theorem dX6_carAt_22 : decode cX6_carAt 22 = .ok (.iconst (-1), 1) := by decide +kernel
theorem dX6_carAt_23 : decode cX6_carAt 23 = .ok (.if_icmp .ne 7, 3) := by decide +kernel
theorem dX6_carAt_26 : decode cX6_carAt 26 = .ok (.iconst 2, 1) := by decide +kernel
theorem dX6_carAt_27 : decode cX6_carAt 27 = .ok (.goto 4, 3) := by decide +kernel
theorem dX6_carAt_30 : decode cX6_carAt 30 = .ok (.iconst 0, 1) := by decide +kernel
theorem dX6_carAt_31 : decode cX6_carAt 31 = .ok (.putfield 54, 3) := by decide +kernel
theorem dX6_carAt_34 : decode cX6_carAt 34 = .ok (.aload_n 0, 1) := by decide +kernel
theorem dX6_carAt_35 : decode cX6_carAt 35 = .ok (.getfield 54, 3) := by decide +kernel
theorem dX6_carAt_38 : decode cX6_carAt 38 = .ok (.ifCond .ne 15, 3) := by decide +kernel
theorem dX6_carAt_41 : decode cX6_carAt 41 = .ok (.aload_n 0, 1) := by decide +kernel
theorem dX6_carAt_42 : decode cX6_carAt 42 = .ok (.getfield 41, 3) := by decide +kernel
theorem dX6_carAt_45 : decode cX6_carAt 45 = .ok (.bipush 14, 2) := by decide +kernel
theorem dX6_carAt_47 : decode cX6_carAt 47 = .ok (.iload_n 1, 1) := by decide +kernel
theorem dX6_carAt_48 : decode cX6_carAt 48 = .ok (.iadd, 1) := by decide +kernel
theorem dX6_carAt_49 : decode cX6_carAt 49 = .ok (.iaload, 1) := by decide +kernel
theorem dX6_carAt_50 : decode cX6_carAt 50 = .ok (.goto 4, 3) := by decide +kernel
theorem dX6_carAt_53 : decode cX6_carAt 53 = .ok (.iconst (-1), 1) := by decide +kernel
theorem dX6_carAt_54 : decode cX6_carAt 54 = .ok (.ireturn, 1) := by decide +kernel
set_option maxRecDepth 20000 in
theorem ggX6_isBack_X6_isAsked : GoodIn wsX6_isBack wsX6_isAsked := goodIn_r _ [6, 7, 8, 9, 10, 5, 11, 12, 13, 14, 15, 21, 22, 23, 24, 25, 26, 27, 28, 29, 30, 31, 32, 33, 34, 35, 36, 37, 38, 39, 40] (by decide +kernel) (by decide +kernel)
set_option maxRecDepth 20000 in
theorem gX6_isBack_X6_isAsked : GoodIn wsX6_isBack (wsV RX6 138 RX6 yX6_isAsked wsX6_isAsked) := goodIn_app (goodIn_of _ (by decide +kernel)) ggX6_isBack_X6_isAsked
set_option maxRecDepth 20000 in
theorem ggX6_isBack_X6_standsAt : GoodIn wsX6_isBack wsX6_standsAt := goodIn_ca (goodIn_r _ [19, 20, 1, 21, 22, 23, 24, 25, 26, 27, 28, 29, 30, 31, 32, 33, 34, 35, 36, 37, 38, 39, 40] (by decide +kernel) (by decide +kernel)) (goodIn_sub (fun _ h => List.mem_cons_of_mem _ (List.mem_append_right _ h)) (by decide +kernel))
set_option maxRecDepth 20000 in
theorem gX6_isBack_X6_standsAt : GoodIn wsX6_isBack (wsV RX6 141 RX6 yX6_standsAt wsX6_standsAt) := goodIn_app (goodIn_of _ (by decide +kernel)) ggX6_isBack_X6_standsAt
theorem dX6_isBack_0 : decode cX6_isBack 0 = .ok (.aload_n 0, 1) := by decide +kernel
theorem dX6_isBack_1 : decode cX6_isBack 1 = .ok (.iload_n 1, 1) := by decide +kernel
theorem dX6_isBack_2 : decode cX6_isBack 2 = .ok (.invokevirtual 138, 3) := by decide +kernel
theorem dX6_isBack_5 : decode cX6_isBack 5 = .ok (.ifCond .eq 29, 3) := by decide +kernel
theorem dX6_isBack_8 : decode cX6_isBack 8 = .ok (.aload_n 0, 1) := by decide +kernel
theorem dX6_isBack_9 : decode cX6_isBack 9 = .ok (.iload_n 1, 1) := by decide +kernel
theorem dX6_isBack_10 : decode cX6_isBack 10 = .ok (.invokevirtual 141, 3) := by decide +kernel
theorem dX6_isBack_13 : decode cX6_isBack 13 = .ok (.iconst (-1), 1) := by decide +kernel
theorem dX6_isBack_14 : decode cX6_isBack 14 = .ok (.if_icmp .eq 20, 3) := by decide +kernel
theorem dX6_isBack_17 : decode cX6_isBack 17 = .ok (.aload_n 0, 1) := by decide +kernel
theorem dX6_isBack_18 : decode cX6_isBack 18 = .ok (.getfield 41, 3) := by decide +kernel
theorem dX6_isBack_21 : decode cX6_isBack 21 = .ok (.bipush 52, 2) := by decide +kernel
theorem dX6_isBack_23 : decode cX6_isBack 23 = .ok (.iload_n 1, 1) := by decide +kernel
theorem dX6_isBack_24 : decode cX6_isBack 24 = .ok (.iadd, 1) := by decide +kernel
theorem dX6_isBack_25 : decode cX6_isBack 25 = .ok (.iaload, 1) := by decide +kernel
theorem dX6_isBack_26 : decode cX6_isBack 26 = .ok (.iconst 1, 1) := by decide +kernel
theorem dX6_isBack_27 : decode cX6_isBack 27 = .ok (.if_icmp .ne 7, 3) := by decide +kernel
theorem dX6_isBack_30 : decode cX6_isBack 30 = .ok (.iconst 1, 1) := by decide +kernel
theorem dX6_isBack_31 : decode cX6_isBack 31 = .ok (.goto 4, 3) := by decide +kernel
theorem dX6_isBack_34 : decode cX6_isBack 34 = .ok (.iconst 0, 1) := by decide +kernel
theorem dX6_isBack_35 : decode cX6_isBack 35 = .ok (.ireturn, 1) := by decide +kernel
set_option maxRecDepth 20000 in
theorem ggX6_listed_X6_in : GoodIn wsX6_listed wsX6_in := goodIn_r _ [6] (by decide +kernel) (by decide +kernel)
set_option maxRecDepth 20000 in
theorem gX6_listed_X6_in : GoodIn wsX6_listed (va_wsS RX6 59 yX6_in wsX6_in) := goodIn_app (goodIn_of _ (by decide +kernel)) ggX6_listed_X6_in
theorem dX6_listed_0 : decode cX6_listed 0 = .ok (.aload_n 0, 1) := by decide +kernel
theorem dX6_listed_1 : decode cX6_listed 1 = .ok (.iload_n 3, 1) := by decide +kernel
theorem dX6_listed_2 : decode cX6_listed 2 = .ok (.i2l, 1) := by decide +kernel
theorem dX6_listed_3 : decode cX6_listed 3 = .ok (.lconst 0, 1) := by decide +kernel
theorem dX6_listed_4 : decode cX6_listed 4 = .ok (.iload_n 2, 1) := by decide +kernel
theorem dX6_listed_5 : decode cX6_listed 5 = .ok (.iconst 1, 1) := by decide +kernel
theorem dX6_listed_6 : decode cX6_listed 6 = .ok (.isub, 1) := by decide +kernel
theorem dX6_listed_7 : decode cX6_listed 7 = .ok (.i2l, 1) := by decide +kernel
theorem dX6_listed_8 : decode cX6_listed 8 = .ok (.invokestatic 59, 3) := by decide +kernel
theorem dX6_listed_11 : decode cX6_listed 11 = .ok (.ifCond .eq 7, 3) := by decide +kernel
theorem dX6_listed_14 : decode cX6_listed 14 = .ok (.iconst 0, 1) := by decide +kernel
theorem dX6_listed_15 : decode cX6_listed 15 = .ok (.goto 4, 3) := by decide +kernel
theorem dX6_listed_18 : decode cX6_listed 18 = .ok (.iconst 1, 1) := by decide +kernel
theorem dX6_listed_19 : decode cX6_listed 19 = .ok (.putfield 54, 3) := by decide +kernel
theorem dX6_listed_22 : decode cX6_listed 22 = .ok (.aload_n 0, 1) := by decide +kernel
theorem dX6_listed_23 : decode cX6_listed 23 = .ok (.getfield 54, 3) := by decide +kernel
theorem dX6_listed_26 : decode cX6_listed 26 = .ok (.ifCond .ne 14, 3) := by decide +kernel
theorem dX6_listed_29 : decode cX6_listed 29 = .ok (.aload_n 0, 1) := by decide +kernel
theorem dX6_listed_30 : decode cX6_listed 30 = .ok (.getfield 41, 3) := by decide +kernel
theorem dX6_listed_33 : decode cX6_listed 33 = .ok (.iload_n 1, 1) := by decide +kernel
theorem dX6_listed_34 : decode cX6_listed 34 = .ok (.iload_n 3, 1) := by decide +kernel
theorem dX6_listed_35 : decode cX6_listed 35 = .ok (.iadd, 1) := by decide +kernel
theorem dX6_listed_36 : decode cX6_listed 36 = .ok (.iaload, 1) := by decide +kernel
theorem dX6_listed_37 : decode cX6_listed 37 = .ok (.goto 4, 3) := by decide +kernel
theorem dX6_listed_40 : decode cX6_listed 40 = .ok (.iconst (-1), 1) := by decide +kernel
theorem dX6_listed_41 : decode cX6_listed 41 = .ok (.ireturn, 1) := by decide +kernel
theorem dX6_waiting_0 : decode cX6_waiting 0 = .ok (.aload_n 0, 1) := by decide +kernel
theorem dX6_waiting_1 : decode cX6_waiting 1 = .ok (.iconst 0, 1) := by decide +kernel
theorem dX6_waiting_2 : decode cX6_waiting 2 = .ok (.putfield 54, 3) := by decide +kernel
theorem dX6_waiting_5 : decode cX6_waiting 5 = .ok (.aload_n 0, 1) := by decide +kernel
theorem dX6_waiting_6 : decode cX6_waiting 6 = .ok (.getfield 41, 3) := by decide +kernel
theorem dX6_waiting_9 : decode cX6_waiting 9 = .ok (.sipush 233, 3) := by decide +kernel
theorem dX6_waiting_12 : decode cX6_waiting 12 = .ok (.iaload, 1) := by decide +kernel
theorem dX6_waiting_13 : decode cX6_waiting 13 = .ok (.ireturn, 1) := by decide +kernel
set_option maxRecDepth 20000 in
theorem ggX6_waitingAt_X6_listed : GoodIn wsX6_waitingAt wsX6_listed := goodIn_ca (goodIn_r _ [6, 7, 1, 8, 9, 5, 10, 11, 12, 13, 14, 15, 16, 17, 18, 19, 20, 21, 22, 23, 24, 25, 26, 27, 28, 29, 30] (by decide +kernel) (by decide +kernel)) (goodIn_sub (fun _ h => List.mem_cons_of_mem _ (List.mem_append_right _ h)) (by decide +kernel))
set_option maxRecDepth 20000 in
theorem gX6_waitingAt_X6_listed : GoodIn wsX6_waitingAt (wsV RX6 144 RX6 yX6_listed wsX6_listed) := goodIn_app (goodIn_of _ (by decide +kernel)) ggX6_waitingAt_X6_listed
theorem dX6_waitingAt_0 : decode cX6_waitingAt 0 = .ok (.aload_n 0, 1) := by decide +kernel
theorem dX6_waitingAt_1 : decode cX6_waitingAt 1 = .ok (.sipush 142, 3) := by decide +kernel
theorem dX6_waitingAt_4 : decode cX6_waitingAt 4 = .ok (.aload_n 0, 1) := by decide +kernel
theorem dX6_waitingAt_5 : decode cX6_waitingAt 5 = .ok (.getfield 41, 3) := by decide +kernel
theorem dX6_waitingAt_8 : decode cX6_waitingAt 8 = .ok (.sipush 233, 3) := by decide +kernel
theorem dX6_waitingAt_11 : decode cX6_waitingAt 11 = .ok (.iaload, 1) := by decide +kernel
theorem dX6_waitingAt_12 : decode cX6_waitingAt 12 = .ok (.iload_n 1, 1) := by decide +kernel
theorem dX6_waitingAt_13 : decode cX6_waitingAt 13 = .ok (.invokevirtual 144, 3) := by decide +kernel
theorem dX6_waitingAt_16 : decode cX6_waitingAt 16 = .ok (.ireturn, 1) := by decide +kernel
theorem dX6_looped_0 : decode cX6_looped 0 = .ok (.aload_n 0, 1) := by decide +kernel
theorem dX6_looped_1 : decode cX6_looped 1 = .ok (.iconst 0, 1) := by decide +kernel
theorem dX6_looped_2 : decode cX6_looped 2 = .ok (.putfield 54, 3) := by decide +kernel
theorem dX6_looped_5 : decode cX6_looped 5 = .ok (.aload_n 0, 1) := by decide +kernel
theorem dX6_looped_6 : decode cX6_looped 6 = .ok (.getfield 41, 3) := by decide +kernel
theorem dX6_looped_9 : decode cX6_looped 9 = .ok (.sipush 234, 3) := by decide +kernel
theorem dX6_looped_12 : decode cX6_looped 12 = .ok (.iaload, 1) := by decide +kernel
theorem dX6_looped_13 : decode cX6_looped 13 = .ok (.ireturn, 1) := by decide +kernel
set_option maxRecDepth 20000 in
theorem ggX6_loopedAt_X6_listed : GoodIn wsX6_loopedAt wsX6_listed := goodIn_ca (goodIn_r _ [6, 7, 1, 8, 9, 5, 10, 11, 12, 13, 14, 15, 16, 17, 18, 19, 20, 21, 22, 23, 24, 25, 26, 27, 28, 29, 30] (by decide +kernel) (by decide +kernel)) (goodIn_sub (fun _ h => List.mem_cons_of_mem _ (List.mem_append_right _ h)) (by decide +kernel))
set_option maxRecDepth 20000 in
theorem gX6_loopedAt_X6_listed : GoodIn wsX6_loopedAt (wsV RX6 144 RX6 yX6_listed wsX6_listed) := goodIn_app (goodIn_of _ (by decide +kernel)) ggX6_loopedAt_X6_listed
theorem dX6_loopedAt_0 : decode cX6_loopedAt 0 = .ok (.aload_n 0, 1) := by decide +kernel
theorem dX6_loopedAt_1 : decode cX6_loopedAt 1 = .ok (.sipush 172, 3) := by decide +kernel
theorem dX6_loopedAt_4 : decode cX6_loopedAt 4 = .ok (.aload_n 0, 1) := by decide +kernel
theorem dX6_loopedAt_5 : decode cX6_loopedAt 5 = .ok (.getfield 41, 3) := by decide +kernel
theorem dX6_loopedAt_8 : decode cX6_loopedAt 8 = .ok (.sipush 234, 3) := by decide +kernel
theorem dX6_loopedAt_11 : decode cX6_loopedAt 11 = .ok (.iaload, 1) := by decide +kernel
theorem dX6_loopedAt_12 : decode cX6_loopedAt 12 = .ok (.iload_n 1, 1) := by decide +kernel
theorem dX6_loopedAt_13 : decode cX6_loopedAt 13 = .ok (.invokevirtual 144, 3) := by decide +kernel
theorem dX6_loopedAt_16 : decode cX6_loopedAt 16 = .ok (.ireturn, 1) := by decide +kernel
theorem dX6_left_0 : decode cX6_left 0 = .ok (.aload_n 0, 1) := by decide +kernel
theorem dX6_left_1 : decode cX6_left 1 = .ok (.iconst 0, 1) := by decide +kernel
theorem dX6_left_2 : decode cX6_left 2 = .ok (.putfield 54, 3) := by decide +kernel
theorem dX6_left_5 : decode cX6_left 5 = .ok (.aload_n 0, 1) := by decide +kernel
theorem dX6_left_6 : decode cX6_left 6 = .ok (.getfield 41, 3) := by decide +kernel
theorem dX6_left_9 : decode cX6_left 9 = .ok (.sipush 235, 3) := by decide +kernel
theorem dX6_left_12 : decode cX6_left 12 = .ok (.iaload, 1) := by decide +kernel
theorem dX6_left_13 : decode cX6_left 13 = .ok (.ireturn, 1) := by decide +kernel
set_option maxRecDepth 20000 in
theorem ggX6_leftAt_X6_listed : GoodIn wsX6_leftAt wsX6_listed := goodIn_ca (goodIn_r _ [6, 7, 1, 8, 9, 5, 10, 11, 12, 13, 14, 15, 16, 17, 18, 19, 20, 21, 22, 23, 24, 25, 26, 27, 28, 29, 30] (by decide +kernel) (by decide +kernel)) (goodIn_sub (fun _ h => List.mem_cons_of_mem _ (List.mem_append_right _ h)) (by decide +kernel))
set_option maxRecDepth 20000 in
theorem gX6_leftAt_X6_listed : GoodIn wsX6_leftAt (wsV RX6 144 RX6 yX6_listed wsX6_listed) := goodIn_app (goodIn_of _ (by decide +kernel)) ggX6_leftAt_X6_listed
theorem dX6_leftAt_0 : decode cX6_leftAt 0 = .ok (.aload_n 0, 1) := by decide +kernel
theorem dX6_leftAt_1 : decode cX6_leftAt 1 = .ok (.sipush 202, 3) := by decide +kernel
theorem dX6_leftAt_4 : decode cX6_leftAt 4 = .ok (.aload_n 0, 1) := by decide +kernel
theorem dX6_leftAt_5 : decode cX6_leftAt 5 = .ok (.getfield 41, 3) := by decide +kernel
theorem dX6_leftAt_8 : decode cX6_leftAt 8 = .ok (.sipush 235, 3) := by decide +kernel
theorem dX6_leftAt_11 : decode cX6_leftAt 11 = .ok (.iaload, 1) := by decide +kernel
theorem dX6_leftAt_12 : decode cX6_leftAt 12 = .ok (.iload_n 1, 1) := by decide +kernel
theorem dX6_leftAt_13 : decode cX6_leftAt 13 = .ok (.invokevirtual 144, 3) := by decide +kernel
theorem dX6_leftAt_16 : decode cX6_leftAt 16 = .ok (.ireturn, 1) := by decide +kernel
set_option maxRecDepth 20000 in
theorem ggX6_leftIn_X6_isCar : GoodIn wsX6_leftIn wsX6_isCar := goodIn_r _ [8, 9, 10, 11, 7, 12, 13, 14, 15, 16, 17, 18, 19, 20, 21, 22, 23, 24, 25, 26, 27, 28, 29, 30, 31, 32] (by decide +kernel) (by decide +kernel)
set_option maxRecDepth 20000 in
theorem gX6_leftIn_X6_isCar : GoodIn wsX6_leftIn (wsV RX6 87 RX6 yX6_isCar wsX6_isCar) := goodIn_app (goodIn_of _ (by decide +kernel)) ggX6_leftIn_X6_isCar
theorem dX6_leftIn_0 : decode cX6_leftIn 0 = .ok (.aload_n 0, 1) := by decide +kernel
theorem dX6_leftIn_1 : decode cX6_leftIn 1 = .ok (.aload_n 0, 1) := by decide +kernel
theorem dX6_leftIn_2 : decode cX6_leftIn 2 = .ok (.iload_n 1, 1) := by decide +kernel
theorem dX6_leftIn_3 : decode cX6_leftIn 3 = .ok (.invokevirtual 87, 3) := by decide +kernel
theorem dX6_leftIn_6 : decode cX6_leftIn 6 = .ok (.ifCond .ne 7, 3) := by decide +kernel
theorem dX6_leftIn_9 : decode cX6_leftIn 9 = .ok (.iconst 1, 1) := by decide +kernel
theorem dX6_leftIn_10 : decode cX6_leftIn 10 = .ok (.goto 22, 3) := by decide +kernel
theorem dX6_leftIn_13 : decode cX6_leftIn 13 = .ok (.aload_n 0, 1) := by decide +kernel
theorem dX6_leftIn_14 : decode cX6_leftIn 14 = .ok (.getfield 41, 3) := by decide +kernel
theorem dX6_leftIn_17 : decode cX6_leftIn 17 = .ok (.bipush 82, 2) := by decide +kernel
theorem dX6_leftIn_19 : decode cX6_leftIn 19 = .ok (.iload_n 1, 1) := by decide +kernel
theorem dX6_leftIn_20 : decode cX6_leftIn 20 = .ok (.iadd, 1) := by decide +kernel
theorem dX6_leftIn_21 : decode cX6_leftIn 21 = .ok (.iaload, 1) := by decide +kernel
theorem dX6_leftIn_22 : decode cX6_leftIn 22 = .ok (.bipush 100, 2) := by decide +kernel
theorem dX6_leftIn_24 : decode cX6_leftIn 24 = .ok (.if_icmp .eq 7, 3) := by decide +kernel
theorem dX6_leftIn_27 : decode cX6_leftIn 27 = .ok (.iconst 2, 1) := by decide +kernel
theorem dX6_leftIn_28 : decode cX6_leftIn 28 = .ok (.goto 4, 3) := by decide +kernel
theorem dX6_leftIn_31 : decode cX6_leftIn 31 = .ok (.iconst 0, 1) := by decide +kernel
theorem dX6_leftIn_32 : decode cX6_leftIn 32 = .ok (.putfield 54, 3) := by decide +kernel
theorem dX6_leftIn_35 : decode cX6_leftIn 35 = .ok (.aload_n 0, 1) := by decide +kernel
theorem dX6_leftIn_36 : decode cX6_leftIn 36 = .ok (.getfield 54, 3) := by decide +kernel
theorem dX6_leftIn_39 : decode cX6_leftIn 39 = .ok (.ifCond .ne 12, 3) := by decide +kernel
theorem dX6_leftIn_42 : decode cX6_leftIn 42 = .ok (.aload_n 0, 1) := by decide +kernel
theorem dX6_leftIn_43 : decode cX6_leftIn 43 = .ok (.getfield 35, 3) := by decide +kernel
theorem dX6_leftIn_46 : decode cX6_leftIn 46 = .ok (.iload_n 1, 1) := by decide +kernel
theorem dX6_leftIn_47 : decode cX6_leftIn 47 = .ok (.iaload, 1) := by decide +kernel
theorem dX6_leftIn_48 : decode cX6_leftIn 48 = .ok (.goto 4, 3) := by decide +kernel
theorem dX6_leftIn_51 : decode cX6_leftIn 51 = .ok (.iconst (-1), 1) := by decide +kernel
theorem dX6_leftIn_52 : decode cX6_leftIn 52 = .ok (.ireturn, 1) := by decide +kernel
set_option maxRecDepth 20000 in
theorem ggX6_faults_X6_isAsked : GoodIn wsX6_faults wsX6_isAsked := goodIn_r _ [6, 7, 8, 9, 10, 5, 11, 12, 13, 14, 15, 19, 20, 21, 22, 23, 24, 25, 26, 27, 28, 29, 30, 31, 32, 33, 34, 35, 36, 37, 38] (by decide +kernel) (by decide +kernel)
set_option maxRecDepth 20000 in
theorem gX6_faults_X6_isAsked : GoodIn wsX6_faults (wsV RX6 138 RX6 yX6_isAsked wsX6_isAsked) := goodIn_app (goodIn_of _ (by decide +kernel)) ggX6_faults_X6_isAsked
set_option maxRecDepth 20000 in
theorem ggX6_faults_X6_many : GoodIn wsX6_faults wsX6_many := goodIn_r _ [18] (by decide +kernel) (by decide +kernel)
set_option maxRecDepth 20000 in
theorem gX6_faults_X6_many : GoodIn wsX6_faults (va_wsS RX6 97 yX6_many wsX6_many) := goodIn_app (goodIn_of _ (by decide +kernel)) ggX6_faults_X6_many
theorem dX6_faults_0 : decode cX6_faults 0 = .ok (.aload_n 0, 1) := by decide +kernel
theorem dX6_faults_1 : decode cX6_faults 1 = .ok (.iload_n 1, 1) := by decide +kernel
theorem dX6_faults_2 : decode cX6_faults 2 = .ok (.invokevirtual 138, 3) := by decide +kernel
theorem dX6_faults_5 : decode cX6_faults 5 = .ok (.ifCond .eq 18, 3) := by decide +kernel
theorem dX6_faults_8 : decode cX6_faults 8 = .ok (.aload_n 0, 1) := by decide +kernel
theorem dX6_faults_9 : decode cX6_faults 9 = .ok (.getfield 41, 3) := by decide +kernel
theorem dX6_faults_12 : decode cX6_faults 12 = .ok (.bipush 112, 2) := by decide +kernel
theorem dX6_faults_14 : decode cX6_faults 14 = .ok (.iload_n 1, 1) := by decide +kernel
theorem dX6_faults_15 : decode cX6_faults 15 = .ok (.iadd, 1) := by decide +kernel
theorem dX6_faults_16 : decode cX6_faults 16 = .ok (.iaload, 1) := by decide +kernel
theorem dX6_faults_17 : decode cX6_faults 17 = .ok (.invokestatic 97, 3) := by decide +kernel
theorem dX6_faults_20 : decode cX6_faults 20 = .ok (.goto 4, 3) := by decide +kernel
theorem dX6_faults_23 : decode cX6_faults 23 = .ok (.iconst (-1), 1) := by decide +kernel
theorem dX6_faults_24 : decode cX6_faults 24 = .ok (.ireturn, 1) := by decide +kernel
set_option maxRecDepth 20000 in
theorem ggX6_hasFault_X6_isCar : GoodIn wsX6_hasFault wsX6_isCar := goodIn_r _ [7, 8, 9, 10, 6, 11, 17, 18, 19, 20, 21, 22, 23, 24, 25, 26, 27, 28, 29, 30, 31, 32, 33, 34, 35, 36] (by decide +kernel) (by decide +kernel)
set_option maxRecDepth 20000 in
theorem gX6_hasFault_X6_isCar : GoodIn wsX6_hasFault (wsV RX6 87 RX6 yX6_isCar wsX6_isCar) := goodIn_app (goodIn_of _ (by decide +kernel)) ggX6_hasFault_X6_isCar
set_option maxRecDepth 20000 in
theorem ggX6_hasFault_X6_isStation : GoodIn wsX6_hasFault wsX6_isStation := goodIn_r _ [15, 16, 9, 10, 6, 11, 17, 18, 19, 20, 21, 22, 23, 24, 25, 26, 27, 28, 29, 30, 31, 32, 33, 34, 35, 36] (by decide +kernel) (by decide +kernel)
set_option maxRecDepth 20000 in
theorem gX6_hasFault_X6_isStation : GoodIn wsX6_hasFault (wsV RX6 94 RX6 yX6_isStation wsX6_isStation) := goodIn_app (goodIn_of _ (by decide +kernel)) ggX6_hasFault_X6_isStation
theorem dX6_hasFault_0 : decode cX6_hasFault 0 = .ok (.aload_n 0, 1) := by decide +kernel
theorem dX6_hasFault_1 : decode cX6_hasFault 1 = .ok (.aload_n 0, 1) := by decide +kernel
theorem dX6_hasFault_2 : decode cX6_hasFault 2 = .ok (.iload_n 1, 1) := by decide +kernel
theorem dX6_hasFault_3 : decode cX6_hasFault 3 = .ok (.invokevirtual 87, 3) := by decide +kernel
theorem dX6_hasFault_6 : decode cX6_hasFault 6 = .ok (.ifCond .eq 15, 3) := by decide +kernel
theorem dX6_hasFault_9 : decode cX6_hasFault 9 = .ok (.aload_n 0, 1) := by decide +kernel
theorem dX6_hasFault_10 : decode cX6_hasFault 10 = .ok (.iload_n 2, 1) := by decide +kernel
theorem dX6_hasFault_11 : decode cX6_hasFault 11 = .ok (.invokevirtual 94, 3) := by decide +kernel
theorem dX6_hasFault_14 : decode cX6_hasFault 14 = .ok (.ifCond .eq 7, 3) := by decide +kernel
theorem dX6_hasFault_17 : decode cX6_hasFault 17 = .ok (.iconst 0, 1) := by decide +kernel
theorem dX6_hasFault_18 : decode cX6_hasFault 18 = .ok (.goto 4, 3) := by decide +kernel
theorem dX6_hasFault_21 : decode cX6_hasFault 21 = .ok (.iconst 1, 1) := by decide +kernel
theorem dX6_hasFault_22 : decode cX6_hasFault 22 = .ok (.putfield 54, 3) := by decide +kernel
theorem dX6_hasFault_25 : decode cX6_hasFault 25 = .ok (.aload_n 0, 1) := by decide +kernel
theorem dX6_hasFault_26 : decode cX6_hasFault 26 = .ok (.getfield 54, 3) := by decide +kernel
theorem dX6_hasFault_29 : decode cX6_hasFault 29 = .ok (.ifCond .ne 24, 3) := by decide +kernel
theorem dX6_hasFault_32 : decode cX6_hasFault 32 = .ok (.aload_n 0, 1) := by decide +kernel
theorem dX6_hasFault_33 : decode cX6_hasFault 33 = .ok (.getfield 41, 3) := by decide +kernel
theorem dX6_hasFault_36 : decode cX6_hasFault 36 = .ok (.bipush 112, 2) := by decide +kernel
theorem dX6_hasFault_38 : decode cX6_hasFault 38 = .ok (.iload_n 1, 1) := by decide +kernel
theorem dX6_hasFault_39 : decode cX6_hasFault 39 = .ok (.iadd, 1) := by decide +kernel
theorem dX6_hasFault_40 : decode cX6_hasFault 40 = .ok (.iaload, 1) := by decide +kernel
theorem dX6_hasFault_41 : decode cX6_hasFault 41 = .ok (.iload_n 2, 1) := by decide +kernel
theorem dX6_hasFault_42 : decode cX6_hasFault 42 = .ok (.ishr, 1) := by decide +kernel
theorem dX6_hasFault_43 : decode cX6_hasFault 43 = .ok (.iconst 1, 1) := by decide +kernel
theorem dX6_hasFault_44 : decode cX6_hasFault 44 = .ok (.iand, 1) := by decide +kernel
theorem dX6_hasFault_45 : decode cX6_hasFault 45 = .ok (.iconst 1, 1) := by decide +kernel
theorem dX6_hasFault_46 : decode cX6_hasFault 46 = .ok (.if_icmp .ne 7, 3) := by decide +kernel
theorem dX6_hasFault_49 : decode cX6_hasFault 49 = .ok (.iconst 1, 1) := by decide +kernel
theorem dX6_hasFault_50 : decode cX6_hasFault 50 = .ok (.goto 4, 3) := by decide +kernel
theorem dX6_hasFault_53 : decode cX6_hasFault 53 = .ok (.iconst 0, 1) := by decide +kernel
theorem dX6_hasFault_54 : decode cX6_hasFault 54 = .ok (.ireturn, 1) := by decide +kernel
set_option maxRecDepth 20000 in
theorem ggX6_lacks_X6_isStation : GoodIn wsX6_lacks wsX6_isStation := goodIn_r _ [7, 8, 9, 10, 6, 11, 12, 13, 14, 15, 16, 17, 18, 19, 20, 21, 22, 23, 24, 25, 26, 27, 28, 29, 30, 31] (by decide +kernel) (by decide +kernel)
set_option maxRecDepth 20000 in
theorem gX6_lacks_X6_isStation : GoodIn wsX6_lacks (wsV RX6 94 RX6 yX6_isStation wsX6_isStation) := goodIn_app (goodIn_of _ (by decide +kernel)) ggX6_lacks_X6_isStation
theorem dX6_lacks_0 : decode cX6_lacks 0 = .ok (.aload_n 0, 1) := by decide +kernel
theorem dX6_lacks_1 : decode cX6_lacks 1 = .ok (.aload_n 0, 1) := by decide +kernel
theorem dX6_lacks_2 : decode cX6_lacks 2 = .ok (.iload_n 1, 1) := by decide +kernel
theorem dX6_lacks_3 : decode cX6_lacks 3 = .ok (.invokevirtual 94, 3) := by decide +kernel
theorem dX6_lacks_6 : decode cX6_lacks 6 = .ok (.ifCond .eq 7, 3) := by decide +kernel
theorem dX6_lacks_9 : decode cX6_lacks 9 = .ok (.iconst 0, 1) := by decide +kernel
theorem dX6_lacks_10 : decode cX6_lacks 10 = .ok (.goto 4, 3) := by decide +kernel
theorem dX6_lacks_13 : decode cX6_lacks 13 = .ok (.iconst 1, 1) := by decide +kernel
theorem dX6_lacks_14 : decode cX6_lacks 14 = .ok (.putfield 54, 3) := by decide +kernel
theorem dX6_lacks_17 : decode cX6_lacks 17 = .ok (.aload_n 0, 1) := by decide +kernel
theorem dX6_lacks_18 : decode cX6_lacks 18 = .ok (.getfield 54, 3) := by decide +kernel
theorem dX6_lacks_21 : decode cX6_lacks 21 = .ok (.ifCond .ne 12, 3) := by decide +kernel
theorem dX6_lacks_24 : decode cX6_lacks 24 = .ok (.aload_n 0, 1) := by decide +kernel
theorem dX6_lacks_25 : decode cX6_lacks 25 = .ok (.getfield 22, 3) := by decide +kernel
theorem dX6_lacks_28 : decode cX6_lacks 28 = .ok (.iload_n 1, 1) := by decide +kernel
theorem dX6_lacks_29 : decode cX6_lacks 29 = .ok (.iaload, 1) := by decide +kernel
theorem dX6_lacks_30 : decode cX6_lacks 30 = .ok (.goto 4, 3) := by decide +kernel
theorem dX6_lacks_33 : decode cX6_lacks 33 = .ok (.iconst (-1), 1) := by decide +kernel
theorem dX6_lacks_34 : decode cX6_lacks 34 = .ok (.ireturn, 1) := by decide +kernel
set_option maxRecDepth 20000 in
theorem ggX6_lacksOf_X6_isPart : GoodIn wsX6_lacksOf wsX6_isPart := goodIn_r _ [8, 9, 10, 11, 7, 12] (by decide +kernel) (by decide +kernel)
set_option maxRecDepth 20000 in
theorem gX6_lacksOf_X6_isPart : GoodIn wsX6_lacksOf (va_wsS RX6 74 yX6_isPart wsX6_isPart) := goodIn_app (goodIn_of _ (by decide +kernel)) ggX6_lacksOf_X6_isPart
theorem dX6_lacksOf_0 : decode cX6_lacksOf 0 = .ok (.aload_n 0, 1) := by decide +kernel
theorem dX6_lacksOf_1 : decode cX6_lacksOf 1 = .ok (.iload_n 1, 1) := by decide +kernel
theorem dX6_lacksOf_2 : decode cX6_lacksOf 2 = .ok (.invokestatic 74, 3) := by decide +kernel
theorem dX6_lacksOf_5 : decode cX6_lacksOf 5 = .ok (.ifCond .eq 7, 3) := by decide +kernel
theorem dX6_lacksOf_8 : decode cX6_lacksOf 8 = .ok (.iconst 0, 1) := by decide +kernel
theorem dX6_lacksOf_9 : decode cX6_lacksOf 9 = .ok (.goto 4, 3) := by decide +kernel
theorem dX6_lacksOf_12 : decode cX6_lacksOf 12 = .ok (.iconst 1, 1) := by decide +kernel
theorem dX6_lacksOf_13 : decode cX6_lacksOf 13 = .ok (.putfield 54, 3) := by decide +kernel
theorem dX6_lacksOf_16 : decode cX6_lacksOf 16 = .ok (.aload_n 0, 1) := by decide +kernel
theorem dX6_lacksOf_17 : decode cX6_lacksOf 17 = .ok (.getfield 54, 3) := by decide +kernel
theorem dX6_lacksOf_20 : decode cX6_lacksOf 20 = .ok (.ifCond .ne 7, 3) := by decide +kernel
theorem dX6_lacksOf_23 : decode cX6_lacksOf 23 = .ok (.iconst 0, 1) := by decide +kernel
theorem dX6_lacksOf_24 : decode cX6_lacksOf 24 = .ok (.goto 4, 3) := by decide +kernel
theorem dX6_lacksOf_27 : decode cX6_lacksOf 27 = .ok (.iconst (-1), 1) := by decide +kernel
theorem dX6_lacksOf_28 : decode cX6_lacksOf 28 = .ok (.istore_n 2, 1) := by decide +kernel
theorem dX6_lacksOf_29 : decode cX6_lacksOf 29 = .ok (.iconst 0, 1) := by decide +kernel
theorem dX6_lacksOf_30 : decode cX6_lacksOf 30 = .ok (.istore_n 3, 1) := by decide +kernel
theorem dX6_lacksOf_31 : decode cX6_lacksOf 31 = .ok (.iload_n 3, 1) := by decide +kernel
theorem dX6_lacksOf_32 : decode cX6_lacksOf 32 = .ok (.aload_n 0, 1) := by decide +kernel
theorem dX6_lacksOf_33 : decode cX6_lacksOf 33 = .ok (.getfield 71, 3) := by decide +kernel
theorem dX6_lacksOf_36 : decode cX6_lacksOf 36 = .ok (.if_icmp .ge 39, 3) := by decide +kernel
theorem dX6_lacksOf_39 : decode cX6_lacksOf 39 = .ok (.aload_n 0, 1) := by decide +kernel
theorem dX6_lacksOf_40 : decode cX6_lacksOf 40 = .ok (.getfield 54, 3) := by decide +kernel
theorem dX6_lacksOf_43 : decode cX6_lacksOf 43 = .ok (.ifCond .ne 32, 3) := by decide +kernel
theorem dX6_lacksOf_46 : decode cX6_lacksOf 46 = .ok (.iload_n 2, 1) := by decide +kernel
theorem dX6_lacksOf_47 : decode cX6_lacksOf 47 = .ok (.aload_n 0, 1) := by decide +kernel
theorem dX6_lacksOf_48 : decode cX6_lacksOf 48 = .ok (.getfield 13, 3) := by decide +kernel
theorem dX6_lacksOf_51 : decode cX6_lacksOf 51 = .ok (.iload_n 3, 1) := by decide +kernel
theorem dX6_lacksOf_52 : decode cX6_lacksOf 52 = .ok (.iaload, 1) := by decide +kernel
theorem dX6_lacksOf_53 : decode cX6_lacksOf 53 = .ok (.iload_n 1, 1) := by decide +kernel
theorem dX6_lacksOf_54 : decode cX6_lacksOf 54 = .ok (.if_icmp .ne 12, 3) := by decide +kernel
theorem dX6_lacksOf_57 : decode cX6_lacksOf 57 = .ok (.aload_n 0, 1) := by decide +kernel
theorem dX6_lacksOf_58 : decode cX6_lacksOf 58 = .ok (.getfield 22, 3) := by decide +kernel
theorem dX6_lacksOf_61 : decode cX6_lacksOf 61 = .ok (.iload_n 3, 1) := by decide +kernel
theorem dX6_lacksOf_62 : decode cX6_lacksOf 62 = .ok (.iaload, 1) := by decide +kernel
theorem dX6_lacksOf_63 : decode cX6_lacksOf 63 = .ok (.goto 4, 3) := by decide +kernel
theorem dX6_lacksOf_66 : decode cX6_lacksOf 66 = .ok (.iconst 0, 1) := by decide +kernel
theorem dX6_lacksOf_67 : decode cX6_lacksOf 67 = .ok (.iadd, 1) := by decide +kernel
theorem dX6_lacksOf_68 : decode cX6_lacksOf 68 = .ok (.istore_n 2, 1) := by decide +kernel
theorem dX6_lacksOf_69 : decode cX6_lacksOf 69 = .ok (.iinc 3 1, 3) := by decide +kernel
theorem dX6_lacksOf_72 : decode cX6_lacksOf 72 = .ok (.goto (-41), 3) := by decide +kernel
theorem dX6_lacksOf_75 : decode cX6_lacksOf 75 = .ok (.iload_n 2, 1) := by decide +kernel
theorem dX6_lacksOf_76 : decode cX6_lacksOf 76 = .ok (.ireturn, 1) := by decide +kernel
set_option maxRecDepth 20000 in
theorem ggX6_onShelf_X6_isStation : GoodIn wsX6_onShelf wsX6_isStation := goodIn_r _ [7, 8, 9, 10, 6, 11, 12, 13, 14, 15, 16, 17, 18, 19, 20, 21, 22, 23, 24, 25, 26, 27, 28, 29, 30, 31] (by decide +kernel) (by decide +kernel)
set_option maxRecDepth 20000 in
theorem gX6_onShelf_X6_isStation : GoodIn wsX6_onShelf (wsV RX6 94 RX6 yX6_isStation wsX6_isStation) := goodIn_app (goodIn_of _ (by decide +kernel)) ggX6_onShelf_X6_isStation
theorem dX6_onShelf_0 : decode cX6_onShelf 0 = .ok (.aload_n 0, 1) := by decide +kernel
theorem dX6_onShelf_1 : decode cX6_onShelf 1 = .ok (.aload_n 0, 1) := by decide +kernel
theorem dX6_onShelf_2 : decode cX6_onShelf 2 = .ok (.iload_n 1, 1) := by decide +kernel
theorem dX6_onShelf_3 : decode cX6_onShelf 3 = .ok (.invokevirtual 94, 3) := by decide +kernel
theorem dX6_onShelf_6 : decode cX6_onShelf 6 = .ok (.ifCond .eq 7, 3) := by decide +kernel
theorem dX6_onShelf_9 : decode cX6_onShelf 9 = .ok (.iconst 0, 1) := by decide +kernel
theorem dX6_onShelf_10 : decode cX6_onShelf 10 = .ok (.goto 4, 3) := by decide +kernel
theorem dX6_onShelf_13 : decode cX6_onShelf 13 = .ok (.iconst 1, 1) := by decide +kernel
theorem dX6_onShelf_14 : decode cX6_onShelf 14 = .ok (.putfield 54, 3) := by decide +kernel
theorem dX6_onShelf_17 : decode cX6_onShelf 17 = .ok (.aload_n 0, 1) := by decide +kernel
theorem dX6_onShelf_18 : decode cX6_onShelf 18 = .ok (.getfield 54, 3) := by decide +kernel
theorem dX6_onShelf_21 : decode cX6_onShelf 21 = .ok (.ifCond .ne 15, 3) := by decide +kernel
theorem dX6_onShelf_24 : decode cX6_onShelf 24 = .ok (.aload_n 0, 1) := by decide +kernel
theorem dX6_onShelf_25 : decode cX6_onShelf 25 = .ok (.getfield 41, 3) := by decide +kernel
theorem dX6_onShelf_28 : decode cX6_onShelf 28 = .ok (.bipush 6, 2) := by decide +kernel
theorem dX6_onShelf_30 : decode cX6_onShelf 30 = .ok (.iload_n 1, 1) := by decide +kernel
theorem dX6_onShelf_31 : decode cX6_onShelf 31 = .ok (.iadd, 1) := by decide +kernel
theorem dX6_onShelf_32 : decode cX6_onShelf 32 = .ok (.iaload, 1) := by decide +kernel
theorem dX6_onShelf_33 : decode cX6_onShelf 33 = .ok (.goto 4, 3) := by decide +kernel
theorem dX6_onShelf_36 : decode cX6_onShelf 36 = .ok (.iconst (-1), 1) := by decide +kernel
theorem dX6_onShelf_37 : decode cX6_onShelf 37 = .ok (.ireturn, 1) := by decide +kernel
set_option maxRecDepth 20000 in
theorem ggX6_inStore_X6_isPart : GoodIn wsX6_inStore wsX6_isPart := goodIn_r _ [6, 7, 8, 9, 5, 10] (by decide +kernel) (by decide +kernel)
set_option maxRecDepth 20000 in
theorem gX6_inStore_X6_isPart : GoodIn wsX6_inStore (va_wsS RX6 74 yX6_isPart wsX6_isPart) := goodIn_app (goodIn_of _ (by decide +kernel)) ggX6_inStore_X6_isPart
theorem dX6_inStore_0 : decode cX6_inStore 0 = .ok (.aload_n 0, 1) := by decide +kernel
theorem dX6_inStore_1 : decode cX6_inStore 1 = .ok (.iload_n 1, 1) := by decide +kernel
theorem dX6_inStore_2 : decode cX6_inStore 2 = .ok (.invokestatic 74, 3) := by decide +kernel
theorem dX6_inStore_5 : decode cX6_inStore 5 = .ok (.ifCond .eq 7, 3) := by decide +kernel
theorem dX6_inStore_8 : decode cX6_inStore 8 = .ok (.iconst 0, 1) := by decide +kernel
theorem dX6_inStore_9 : decode cX6_inStore 9 = .ok (.goto 4, 3) := by decide +kernel
theorem dX6_inStore_12 : decode cX6_inStore 12 = .ok (.iconst 1, 1) := by decide +kernel
theorem dX6_inStore_13 : decode cX6_inStore 13 = .ok (.putfield 54, 3) := by decide +kernel
theorem dX6_inStore_16 : decode cX6_inStore 16 = .ok (.aload_n 0, 1) := by decide +kernel
theorem dX6_inStore_17 : decode cX6_inStore 17 = .ok (.getfield 54, 3) := by decide +kernel
theorem dX6_inStore_20 : decode cX6_inStore 20 = .ok (.ifCond .ne 12, 3) := by decide +kernel
theorem dX6_inStore_23 : decode cX6_inStore 23 = .ok (.aload_n 0, 1) := by decide +kernel
theorem dX6_inStore_24 : decode cX6_inStore 24 = .ok (.getfield 41, 3) := by decide +kernel
theorem dX6_inStore_27 : decode cX6_inStore 27 = .ok (.iload_n 1, 1) := by decide +kernel
theorem dX6_inStore_28 : decode cX6_inStore 28 = .ok (.iaload, 1) := by decide +kernel
theorem dX6_inStore_29 : decode cX6_inStore 29 = .ok (.goto 4, 3) := by decide +kernel
theorem dX6_inStore_32 : decode cX6_inStore 32 = .ok (.iconst (-1), 1) := by decide +kernel
theorem dX6_inStore_33 : decode cX6_inStore 33 = .ok (.ireturn, 1) := by decide +kernel
theorem dX6_nextRound_0 : decode cX6_nextRound 0 = .ok (.aload_n 0, 1) := by decide +kernel
theorem dX6_nextRound_1 : decode cX6_nextRound 1 = .ok (.iconst 0, 1) := by decide +kernel
theorem dX6_nextRound_2 : decode cX6_nextRound 2 = .ok (.putfield 54, 3) := by decide +kernel
theorem dX6_nextRound_5 : decode cX6_nextRound 5 = .ok (.aload_n 0, 1) := by decide +kernel
theorem dX6_nextRound_6 : decode cX6_nextRound 6 = .ok (.getfield 25, 3) := by decide +kernel
theorem dX6_nextRound_9 : decode cX6_nextRound 9 = .ok (.aload_n 0, 1) := by decide +kernel
theorem dX6_nextRound_10 : decode cX6_nextRound 10 = .ok (.getfield 41, 3) := by decide +kernel
theorem dX6_nextRound_13 : decode cX6_nextRound 13 = .ok (.sipush 232, 3) := by decide +kernel
theorem dX6_nextRound_16 : decode cX6_nextRound 16 = .ok (.iaload, 1) := by decide +kernel
theorem dX6_nextRound_17 : decode cX6_nextRound 17 = .ok (.aload_n 0, 1) := by decide +kernel
theorem dX6_nextRound_18 : decode cX6_nextRound 18 = .ok (.getfield 25, 3) := by decide +kernel
theorem dX6_nextRound_21 : decode cX6_nextRound 21 = .ok (.irem, 1) := by decide +kernel
theorem dX6_nextRound_22 : decode cX6_nextRound 22 = .ok (.isub, 1) := by decide +kernel
theorem dX6_nextRound_23 : decode cX6_nextRound 23 = .ok (.ireturn, 1) := by decide +kernel
theorem dX6_keeps_0 : decode cX6_keeps 0 = .ok (.iconst 0, 1) := by decide +kernel
theorem dX6_keeps_1 : decode cX6_keeps 1 = .ok (.istore_n 1, 1) := by decide +kernel
theorem dX6_keeps_2 : decode cX6_keeps 2 = .ok (.iload_n 1, 1) := by decide +kernel
theorem dX6_keeps_3 : decode cX6_keeps 3 = .ok (.aload_n 0, 1) := by decide +kernel
theorem dX6_keeps_4 : decode cX6_keeps 4 = .ok (.getfield 44, 3) := by decide +kernel
theorem dX6_keeps_7 : decode cX6_keeps 7 = .ok (.arraylength, 1) := by decide +kernel
theorem dX6_keeps_8 : decode cX6_keeps 8 = .ok (.if_icmp .ge 21, 3) := by decide +kernel
theorem dX6_keeps_11 : decode cX6_keeps 11 = .ok (.aload_n 0, 1) := by decide +kernel
theorem dX6_keeps_12 : decode cX6_keeps 12 = .ok (.getfield 44, 3) := by decide +kernel
theorem dX6_keeps_15 : decode cX6_keeps 15 = .ok (.iload_n 1, 1) := by decide +kernel
theorem dX6_keeps_16 : decode cX6_keeps 16 = .ok (.aload_n 0, 1) := by decide +kernel
theorem dX6_keeps_17 : decode cX6_keeps 17 = .ok (.getfield 41, 3) := by decide +kernel
theorem dX6_keeps_20 : decode cX6_keeps 20 = .ok (.iload_n 1, 1) := by decide +kernel
theorem dX6_keeps_21 : decode cX6_keeps 21 = .ok (.iaload, 1) := by decide +kernel
theorem dX6_keeps_22 : decode cX6_keeps 22 = .ok (.iastore, 1) := by decide +kernel
theorem dX6_keeps_23 : decode cX6_keeps 23 = .ok (.iinc 1 1, 3) := by decide +kernel
theorem dX6_keeps_26 : decode cX6_keeps 26 = .ok (.goto (-24), 3) := by decide +kernel
theorem dX6_keeps_29 : decode cX6_keeps 29 = .ok (.aload_n 0, 1) := by decide +kernel
theorem dX6_keeps_30 : decode cX6_keeps 30 = .ok (.iconst 1, 1) := by decide +kernel
theorem dX6_keeps_31 : decode cX6_keeps 31 = .ok (.putfield 100, 3) := by decide +kernel
theorem dX6_keeps_34 : decode cX6_keeps 34 = .ok (.return_, 1) := by decide +kernel
theorem dX6_putsBack_0 : decode cX6_putsBack 0 = .ok (.iconst 0, 1) := by decide +kernel
theorem dX6_putsBack_1 : decode cX6_putsBack 1 = .ok (.istore_n 1, 1) := by decide +kernel
theorem dX6_putsBack_2 : decode cX6_putsBack 2 = .ok (.iload_n 1, 1) := by decide +kernel
theorem dX6_putsBack_3 : decode cX6_putsBack 3 = .ok (.aload_n 0, 1) := by decide +kernel
theorem dX6_putsBack_4 : decode cX6_putsBack 4 = .ok (.getfield 44, 3) := by decide +kernel
theorem dX6_putsBack_7 : decode cX6_putsBack 7 = .ok (.arraylength, 1) := by decide +kernel
theorem dX6_putsBack_8 : decode cX6_putsBack 8 = .ok (.if_icmp .ge 21, 3) := by decide +kernel
theorem dX6_putsBack_11 : decode cX6_putsBack 11 = .ok (.aload_n 0, 1) := by decide +kernel
theorem dX6_putsBack_12 : decode cX6_putsBack 12 = .ok (.getfield 41, 3) := by decide +kernel
theorem dX6_putsBack_15 : decode cX6_putsBack 15 = .ok (.iload_n 1, 1) := by decide +kernel
theorem dX6_putsBack_16 : decode cX6_putsBack 16 = .ok (.aload_n 0, 1) := by decide +kernel
theorem dX6_putsBack_17 : decode cX6_putsBack 17 = .ok (.getfield 44, 3) := by decide +kernel
theorem dX6_putsBack_20 : decode cX6_putsBack 20 = .ok (.iload_n 1, 1) := by decide +kernel
theorem dX6_putsBack_21 : decode cX6_putsBack 21 = .ok (.iaload, 1) := by decide +kernel
theorem dX6_putsBack_22 : decode cX6_putsBack 22 = .ok (.iastore, 1) := by decide +kernel
theorem dX6_putsBack_23 : decode cX6_putsBack 23 = .ok (.iinc 1 1, 3) := by decide +kernel
theorem dX6_putsBack_26 : decode cX6_putsBack 26 = .ok (.goto (-24), 3) := by decide +kernel
theorem dX6_putsBack_29 : decode cX6_putsBack 29 = .ok (.aload_n 0, 1) := by decide +kernel
theorem dX6_putsBack_30 : decode cX6_putsBack 30 = .ok (.iconst 0, 1) := by decide +kernel
theorem dX6_putsBack_31 : decode cX6_putsBack 31 = .ok (.putfield 100, 3) := by decide +kernel
theorem dX6_putsBack_34 : decode cX6_putsBack 34 = .ok (.return_, 1) := by decide +kernel
set_option maxRecDepth 20000 in
theorem ggX6_leavesIn_X6_isCar : GoodIn wsX6_leavesIn wsX6_isCar := goodIn_r _ [7, 8, 9, 10, 6, 11, 70, 71, 72, 73, 74, 75, 76, 77, 78, 79, 80, 81, 82, 83, 84, 85, 86, 87, 88, 89] (by decide +kernel) (by decide +kernel)
set_option maxRecDepth 20000 in
theorem gX6_leavesIn_X6_isCar : GoodIn wsX6_leavesIn (wsV RX6 87 RX6 yX6_isCar wsX6_isCar) := goodIn_app (goodIn_of _ (by decide +kernel)) ggX6_leavesIn_X6_isCar
set_option maxRecDepth 20000 in
theorem ggX6_leavesIn_X6_keeps : GoodIn wsX6_leavesIn wsX6_keeps := goodIn_ca (goodIn_r _ [15, 16, 1, 17, 70, 71, 72, 73, 74, 75, 76, 77, 78, 79, 80, 81, 82, 83, 84, 85, 86, 87, 88, 89] (by decide +kernel) (by decide +kernel)) (goodIn_sub (fun _ h => List.mem_cons_of_mem _ (List.mem_append_left _ (List.mem_append_right _ h))) (by decide +kernel))
set_option maxRecDepth 20000 in
theorem gX6_leavesIn_X6_keeps : GoodIn wsX6_leavesIn (wsV RX6 148 RX6 yX6_keeps wsX6_keeps) := goodIn_app (goodIn_of _ (by decide +kernel)) ggX6_leavesIn_X6_keeps
set_option maxRecDepth 20000 in
theorem ggX6_leavesIn_X6_ticks : GoodIn wsX6_leavesIn wsX6_ticks := goodIn_ca (goodIn_ca (goodIn_r _ [21, 1, 22, 23, 24, 25, 26, 6, 27, 28, 29, 30, 31, 32, 33, 34, 35, 36, 37, 17, 38, 39, 40, 41, 42, 43, 44, 45, 46, 47, 48, 49, 50, 51, 52, 53, 54, 55, 56, 57, 58, 59, 60, 61, 62, 63, 64, 65, 70, 71, 72, 73, 74, 75, 76, 77, 78, 79, 80, 81, 82, 83, 84, 85, 86, 87, 88, 89] (by decide +kernel) (by decide +kernel)) (goodIn_sub (fun _ h => List.mem_cons_of_mem _ (List.mem_append_left _ (List.mem_append_right _ h))) (by decide +kernel))) (goodIn_sub (fun _ h => List.mem_cons_of_mem _ (List.mem_append_right _ h)) (by decide +kernel))
set_option maxRecDepth 20000 in
theorem gX6_leavesIn_X6_ticks : GoodIn wsX6_leavesIn (wsV RX6 135 RX6 yX6_ticks wsX6_ticks) := goodIn_app (goodIn_of _ (by decide +kernel)) ggX6_leavesIn_X6_ticks
set_option maxRecDepth 20000 in
theorem ggX6_leavesIn_X6_putsBack : GoodIn wsX6_leavesIn wsX6_putsBack := goodIn_ca (goodIn_r _ [69, 16, 1, 17, 70, 71, 72, 73, 74, 75, 76, 77, 78, 79, 80, 81, 82, 83, 84, 85, 86, 87, 88, 89] (by decide +kernel) (by decide +kernel)) (goodIn_sub (fun _ h => List.mem_cons_of_mem _ (List.mem_append_left _ (List.mem_append_right _ h))) (by decide +kernel))
set_option maxRecDepth 20000 in
theorem gX6_leavesIn_X6_putsBack : GoodIn wsX6_leavesIn (wsV RX6 151 RX6 yX6_putsBack wsX6_putsBack) := goodIn_app (goodIn_of _ (by decide +kernel)) ggX6_leavesIn_X6_putsBack
theorem dX6_leavesIn_0 : decode cX6_leavesIn 0 = .ok (.aload_n 0, 1) := by decide +kernel
theorem dX6_leavesIn_1 : decode cX6_leavesIn 1 = .ok (.aload_n 0, 1) := by decide +kernel
theorem dX6_leavesIn_2 : decode cX6_leavesIn 2 = .ok (.iload_n 1, 1) := by decide +kernel
theorem dX6_leavesIn_3 : decode cX6_leavesIn 3 = .ok (.invokevirtual 87, 3) := by decide +kernel
theorem dX6_leavesIn_6 : decode cX6_leavesIn 6 = .ok (.ifCond .ne 7, 3) := by decide +kernel
theorem dX6_leavesIn_9 : decode cX6_leavesIn 9 = .ok (.iconst 1, 1) := by decide +kernel
theorem dX6_leavesIn_10 : decode cX6_leavesIn 10 = .ok (.goto 22, 3) := by decide +kernel
theorem dX6_leavesIn_13 : decode cX6_leavesIn 13 = .ok (.aload_n 0, 1) := by decide +kernel
theorem dX6_leavesIn_14 : decode cX6_leavesIn 14 = .ok (.getfield 41, 3) := by decide +kernel
theorem dX6_leavesIn_17 : decode cX6_leavesIn 17 = .ok (.bipush 82, 2) := by decide +kernel
theorem dX6_leavesIn_19 : decode cX6_leavesIn 19 = .ok (.iload_n 1, 1) := by decide +kernel
theorem dX6_leavesIn_20 : decode cX6_leavesIn 20 = .ok (.iadd, 1) := by decide +kernel
theorem dX6_leavesIn_21 : decode cX6_leavesIn 21 = .ok (.iaload, 1) := by decide +kernel
theorem dX6_leavesIn_22 : decode cX6_leavesIn 22 = .ok (.bipush 100, 2) := by decide +kernel
theorem dX6_leavesIn_24 : decode cX6_leavesIn 24 = .ok (.if_icmp .ne 7, 3) := by decide +kernel
theorem dX6_leavesIn_27 : decode cX6_leavesIn 27 = .ok (.iconst 2, 1) := by decide +kernel
theorem dX6_leavesIn_28 : decode cX6_leavesIn 28 = .ok (.goto 4, 3) := by decide +kernel
theorem dX6_leavesIn_31 : decode cX6_leavesIn 31 = .ok (.iconst 0, 1) := by decide +kernel
theorem dX6_leavesIn_32 : decode cX6_leavesIn 32 = .ok (.putfield 54, 3) := by decide +kernel
theorem dX6_leavesIn_35 : decode cX6_leavesIn 35 = .ok (.aload_n 0, 1) := by decide +kernel
theorem dX6_leavesIn_36 : decode cX6_leavesIn 36 = .ok (.getfield 54, 3) := by decide +kernel
theorem dX6_leavesIn_39 : decode cX6_leavesIn 39 = .ok (.ifCond .le 5, 3) := by decide +kernel
theorem dX6_leavesIn_42 : decode cX6_leavesIn 42 = .ok (.iconst (-1), 1) := by decide +kernel
theorem dX6_leavesIn_43 : decode cX6_leavesIn 43 = .ok (.ireturn, 1) := by decide +kernel
theorem dX6_leavesIn_44 : decode cX6_leavesIn 44 = .ok (.aload_n 0, 1) := by decide +kernel
theorem dX6_leavesIn_45 : decode cX6_leavesIn 45 = .ok (.invokevirtual 148, 3) := by decide +kernel
theorem dX6_leavesIn_48 : decode cX6_leavesIn 48 = .ok (.iconst 0, 1) := by decide +kernel
theorem dX6_leavesIn_49 : decode cX6_leavesIn 49 = .ok (.istore_n 2, 1) := by decide +kernel
theorem dX6_leavesIn_50 : decode cX6_leavesIn 50 = .ok (.iload_n 2, 1) := by decide +kernel
theorem dX6_leavesIn_51 : decode cX6_leavesIn 51 = .ok (.sipush 300, 3) := by decide +kernel
theorem dX6_leavesIn_54 : decode cX6_leavesIn 54 = .ok (.if_icmp .ge 27, 3) := by decide +kernel
theorem dX6_leavesIn_57 : decode cX6_leavesIn 57 = .ok (.aload_n 0, 1) := by decide +kernel
theorem dX6_leavesIn_58 : decode cX6_leavesIn 58 = .ok (.getfield 41, 3) := by decide +kernel
theorem dX6_leavesIn_61 : decode cX6_leavesIn 61 = .ok (.bipush 82, 2) := by decide +kernel
theorem dX6_leavesIn_63 : decode cX6_leavesIn 63 = .ok (.iload_n 1, 1) := by decide +kernel
theorem dX6_leavesIn_64 : decode cX6_leavesIn 64 = .ok (.iadd, 1) := by decide +kernel
theorem dX6_leavesIn_65 : decode cX6_leavesIn 65 = .ok (.iaload, 1) := by decide +kernel
theorem dX6_leavesIn_66 : decode cX6_leavesIn 66 = .ok (.bipush 100, 2) := by decide +kernel
theorem dX6_leavesIn_68 : decode cX6_leavesIn 68 = .ok (.if_icmp .eq 13, 3) := by decide +kernel
theorem dX6_leavesIn_71 : decode cX6_leavesIn 71 = .ok (.aload_n 0, 1) := by decide +kernel
theorem dX6_leavesIn_72 : decode cX6_leavesIn 72 = .ok (.invokevirtual 135, 3) := by decide +kernel
theorem dX6_leavesIn_75 : decode cX6_leavesIn 75 = .ok (.iinc 2 1, 3) := by decide +kernel
theorem dX6_leavesIn_78 : decode cX6_leavesIn 78 = .ok (.goto (-28), 3) := by decide +kernel
theorem dX6_leavesIn_81 : decode cX6_leavesIn 81 = .ok (.aload_n 0, 1) := by decide +kernel
theorem dX6_leavesIn_82 : decode cX6_leavesIn 82 = .ok (.getfield 41, 3) := by decide +kernel
theorem dX6_leavesIn_85 : decode cX6_leavesIn 85 = .ok (.bipush 82, 2) := by decide +kernel
theorem dX6_leavesIn_87 : decode cX6_leavesIn 87 = .ok (.iload_n 1, 1) := by decide +kernel
theorem dX6_leavesIn_88 : decode cX6_leavesIn 88 = .ok (.iadd, 1) := by decide +kernel
theorem dX6_leavesIn_89 : decode cX6_leavesIn 89 = .ok (.iaload, 1) := by decide +kernel
theorem dX6_leavesIn_90 : decode cX6_leavesIn 90 = .ok (.bipush 100, 2) := by decide +kernel
theorem dX6_leavesIn_92 : decode cX6_leavesIn 92 = .ok (.if_icmp .ne 7, 3) := by decide +kernel
theorem dX6_leavesIn_95 : decode cX6_leavesIn 95 = .ok (.iconst 1, 1) := by decide +kernel
theorem dX6_leavesIn_96 : decode cX6_leavesIn 96 = .ok (.goto 4, 3) := by decide +kernel
theorem dX6_leavesIn_99 : decode cX6_leavesIn 99 = .ok (.iconst 0, 1) := by decide +kernel
theorem dX6_leavesIn_100 : decode cX6_leavesIn 100 = .ok (.istore_n 3, 1) := by decide +kernel
theorem dX6_leavesIn_101 : decode cX6_leavesIn 101 = .ok (.aload_n 0, 1) := by decide +kernel
theorem dX6_leavesIn_102 : decode cX6_leavesIn 102 = .ok (.invokevirtual 151, 3) := by decide +kernel
theorem dX6_leavesIn_105 : decode cX6_leavesIn 105 = .ok (.aload_n 0, 1) := by decide +kernel
theorem dX6_leavesIn_106 : decode cX6_leavesIn 106 = .ok (.iload_n 3, 1) := by decide +kernel
theorem dX6_leavesIn_107 : decode cX6_leavesIn 107 = .ok (.ifCond .eq 7, 3) := by decide +kernel
theorem dX6_leavesIn_110 : decode cX6_leavesIn 110 = .ok (.iconst 0, 1) := by decide +kernel
theorem dX6_leavesIn_111 : decode cX6_leavesIn 111 = .ok (.goto 4, 3) := by decide +kernel
theorem dX6_leavesIn_114 : decode cX6_leavesIn 114 = .ok (.iconst 3, 1) := by decide +kernel
theorem dX6_leavesIn_115 : decode cX6_leavesIn 115 = .ok (.putfield 54, 3) := by decide +kernel
theorem dX6_leavesIn_118 : decode cX6_leavesIn 118 = .ok (.iload_n 3, 1) := by decide +kernel
theorem dX6_leavesIn_119 : decode cX6_leavesIn 119 = .ok (.ifCond .eq 7, 3) := by decide +kernel
theorem dX6_leavesIn_122 : decode cX6_leavesIn 122 = .ok (.iload_n 2, 1) := by decide +kernel
theorem dX6_leavesIn_123 : decode cX6_leavesIn 123 = .ok (.goto 4, 3) := by decide +kernel
theorem dX6_leavesIn_126 : decode cX6_leavesIn 126 = .ok (.iconst (-1), 1) := by decide +kernel
theorem dX6_leavesIn_127 : decode cX6_leavesIn 127 = .ok (.ireturn, 1) := by decide +kernel
set_option maxRecDepth 20000 in
theorem ggX6_leavesByTicks_X6_leavesIn : GoodIn wsX6_leavesByTicks wsX6_leavesIn := goodIn_ca (goodIn_ca (goodIn_r _ [5, 6, 7, 8, 9, 10, 4, 11, 12, 13, 14, 15, 16, 17, 18, 19, 20, 21, 22, 23, 24, 25, 26, 27, 28, 29, 30, 31, 32, 33, 34, 35, 36, 37, 38, 39, 40, 41, 42, 43, 44, 45, 46, 47, 48, 49, 50, 51, 52, 53, 54, 55, 56, 57, 58, 59, 60, 61, 62, 63, 64, 65, 66, 67, 68, 69, 70, 71, 72, 73, 74, 75, 76, 77, 78, 79, 80, 81, 82, 83, 84, 85, 86, 87, 88, 89, 90, 91, 92, 93] (by decide +kernel) (by decide +kernel)) (goodIn_sub (fun _ h => List.mem_cons_of_mem _ (List.mem_append_left _ (List.mem_append_right _ h))) (by decide +kernel))) (goodIn_sub (fun _ h => List.mem_cons_of_mem _ (List.mem_append_right _ h)) (by decide +kernel))
set_option maxRecDepth 20000 in
theorem gX6_leavesByTicks_X6_leavesIn : GoodIn wsX6_leavesByTicks (wsV RX6 154 RX6 yX6_leavesIn wsX6_leavesIn) := goodIn_app (goodIn_of _ (by decide +kernel)) ggX6_leavesByTicks_X6_leavesIn
theorem dX6_leavesByTicks_0 : decode cX6_leavesByTicks 0 = .ok (.aload_n 0, 1) := by decide +kernel
theorem dX6_leavesByTicks_1 : decode cX6_leavesByTicks 1 = .ok (.iload_n 1, 1) := by decide +kernel
theorem dX6_leavesByTicks_2 : decode cX6_leavesByTicks 2 = .ok (.invokevirtual 154, 3) := by decide +kernel
theorem dX6_leavesByTicks_5 : decode cX6_leavesByTicks 5 = .ok (.ireturn, 1) := by decide +kernel
set_option maxRecDepth 20000 in
theorem ggX6_nextToLeave_X6_keeps : GoodIn wsX6_nextToLeave wsX6_keeps := goodIn_ca (goodIn_r _ [8, 9, 1, 10, 62, 63, 64, 65, 66, 67, 68, 69, 70, 71, 72, 73, 74, 75, 76, 77, 78, 79, 80, 81] (by decide +kernel) (by decide +kernel)) (goodIn_sub (fun _ h => List.mem_cons_of_mem _ (List.mem_append_left _ (List.mem_append_right _ h))) (by decide +kernel))
set_option maxRecDepth 20000 in
theorem gX6_nextToLeave_X6_keeps : GoodIn wsX6_nextToLeave (wsV RX6 148 RX6 yX6_keeps wsX6_keeps) := goodIn_app (goodIn_of _ (by decide +kernel)) ggX6_nextToLeave_X6_keeps
set_option maxRecDepth 20000 in
theorem ggX6_nextToLeave_X6_ticks : GoodIn wsX6_nextToLeave wsX6_ticks := goodIn_ca (goodIn_ca (goodIn_r _ [14, 1, 15, 2, 16, 17, 18, 7, 19, 20, 21, 22, 23, 24, 25, 26, 27, 28, 29, 10, 30, 31, 32, 33, 34, 35, 36, 37, 38, 39, 40, 41, 42, 43, 44, 45, 46, 47, 48, 49, 50, 51, 52, 53, 54, 55, 56, 57, 62, 63, 64, 65, 66, 67, 68, 69, 70, 71, 72, 73, 74, 75, 76, 77, 78, 79, 80, 81] (by decide +kernel) (by decide +kernel)) (goodIn_sub (fun _ h => List.mem_cons_of_mem _ (List.mem_append_left _ (List.mem_append_right _ h))) (by decide +kernel))) (goodIn_sub (fun _ h => List.mem_cons_of_mem _ (List.mem_append_right _ h)) (by decide +kernel))
set_option maxRecDepth 20000 in
theorem gX6_nextToLeave_X6_ticks : GoodIn wsX6_nextToLeave (wsV RX6 135 RX6 yX6_ticks wsX6_ticks) := goodIn_app (goodIn_of _ (by decide +kernel)) ggX6_nextToLeave_X6_ticks
set_option maxRecDepth 20000 in
theorem ggX6_nextToLeave_X6_putsBack : GoodIn wsX6_nextToLeave wsX6_putsBack := goodIn_ca (goodIn_r _ [61, 9, 1, 10, 62, 63, 64, 65, 66, 67, 68, 69, 70, 71, 72, 73, 74, 75, 76, 77, 78, 79, 80, 81] (by decide +kernel) (by decide +kernel)) (goodIn_sub (fun _ h => List.mem_cons_of_mem _ (List.mem_append_left _ (List.mem_append_right _ h))) (by decide +kernel))
set_option maxRecDepth 20000 in
theorem gX6_nextToLeave_X6_putsBack : GoodIn wsX6_nextToLeave (wsV RX6 151 RX6 yX6_putsBack wsX6_putsBack) := goodIn_app (goodIn_of _ (by decide +kernel)) ggX6_nextToLeave_X6_putsBack
theorem dX6_nextToLeave_0 : decode cX6_nextToLeave 0 = .ok (.aload_n 0, 1) := by decide +kernel
theorem dX6_nextToLeave_1 : decode cX6_nextToLeave 1 = .ok (.invokevirtual 148, 3) := by decide +kernel
theorem dX6_nextToLeave_4 : decode cX6_nextToLeave 4 = .ok (.aload_n 0, 1) := by decide +kernel
theorem dX6_nextToLeave_5 : decode cX6_nextToLeave 5 = .ok (.getfield 41, 3) := by decide +kernel
theorem dX6_nextToLeave_8 : decode cX6_nextToLeave 8 = .ok (.sipush 235, 3) := by decide +kernel
theorem dX6_nextToLeave_11 : decode cX6_nextToLeave 11 = .ok (.iaload, 1) := by decide +kernel
theorem dX6_nextToLeave_12 : decode cX6_nextToLeave 12 = .ok (.istore_n 1, 1) := by decide +kernel
theorem dX6_nextToLeave_13 : decode cX6_nextToLeave 13 = .ok (.iconst 0, 1) := by decide +kernel
theorem dX6_nextToLeave_14 : decode cX6_nextToLeave 14 = .ok (.istore_n 2, 1) := by decide +kernel
theorem dX6_nextToLeave_15 : decode cX6_nextToLeave 15 = .ok (.iload_n 2, 1) := by decide +kernel
theorem dX6_nextToLeave_16 : decode cX6_nextToLeave 16 = .ok (.sipush 300, 3) := by decide +kernel
theorem dX6_nextToLeave_19 : decode cX6_nextToLeave 19 = .ok (.if_icmp .ge 32, 3) := by decide +kernel
theorem dX6_nextToLeave_22 : decode cX6_nextToLeave 22 = .ok (.aload_n 0, 1) := by decide +kernel
theorem dX6_nextToLeave_23 : decode cX6_nextToLeave 23 = .ok (.getfield 41, 3) := by decide +kernel
theorem dX6_nextToLeave_26 : decode cX6_nextToLeave 26 = .ok (.sipush 235, 3) := by decide +kernel
theorem dX6_nextToLeave_29 : decode cX6_nextToLeave 29 = .ok (.iaload, 1) := by decide +kernel
theorem dX6_nextToLeave_30 : decode cX6_nextToLeave 30 = .ok (.iload_n 1, 1) := by decide +kernel
theorem dX6_nextToLeave_31 : decode cX6_nextToLeave 31 = .ok (.if_icmp .ne 20, 3) := by decide +kernel
theorem dX6_nextToLeave_34 : decode cX6_nextToLeave 34 = .ok (.aload_n 0, 1) := by decide +kernel
theorem dX6_nextToLeave_35 : decode cX6_nextToLeave 35 = .ok (.getfield 71, 3) := by decide +kernel
theorem dX6_nextToLeave_38 : decode cX6_nextToLeave 38 = .ok (.ifCond .le 13, 3) := by decide +kernel
theorem dX6_nextToLeave_41 : decode cX6_nextToLeave 41 = .ok (.aload_n 0, 1) := by decide +kernel
theorem dX6_nextToLeave_42 : decode cX6_nextToLeave 42 = .ok (.invokevirtual 135, 3) := by decide +kernel
theorem dX6_nextToLeave_45 : decode cX6_nextToLeave 45 = .ok (.iinc 2 1, 3) := by decide +kernel
theorem dX6_nextToLeave_48 : decode cX6_nextToLeave 48 = .ok (.goto (-33), 3) := by decide +kernel
theorem dX6_nextToLeave_51 : decode cX6_nextToLeave 51 = .ok (.aload_n 0, 1) := by decide +kernel
theorem dX6_nextToLeave_52 : decode cX6_nextToLeave 52 = .ok (.getfield 41, 3) := by decide +kernel
theorem dX6_nextToLeave_55 : decode cX6_nextToLeave 55 = .ok (.sipush 235, 3) := by decide +kernel
theorem dX6_nextToLeave_58 : decode cX6_nextToLeave 58 = .ok (.iaload, 1) := by decide +kernel
theorem dX6_nextToLeave_59 : decode cX6_nextToLeave 59 = .ok (.iload_n 1, 1) := by decide +kernel
theorem dX6_nextToLeave_60 : decode cX6_nextToLeave 60 = .ok (.if_icmp .le 16, 3) := by decide +kernel
theorem dX6_nextToLeave_63 : decode cX6_nextToLeave 63 = .ok (.aload_n 0, 1) := by decide +kernel
theorem dX6_nextToLeave_64 : decode cX6_nextToLeave 64 = .ok (.getfield 41, 3) := by decide +kernel
theorem dX6_nextToLeave_67 : decode cX6_nextToLeave 67 = .ok (.sipush 202, 3) := by decide +kernel
theorem dX6_nextToLeave_70 : decode cX6_nextToLeave 70 = .ok (.iload_n 1, 1) := by decide +kernel
theorem dX6_nextToLeave_71 : decode cX6_nextToLeave 71 = .ok (.iadd, 1) := by decide +kernel
theorem dX6_nextToLeave_72 : decode cX6_nextToLeave 72 = .ok (.iaload, 1) := by decide +kernel
theorem dX6_nextToLeave_73 : decode cX6_nextToLeave 73 = .ok (.goto 4, 3) := by decide +kernel
theorem dX6_nextToLeave_76 : decode cX6_nextToLeave 76 = .ok (.iconst (-1), 1) := by decide +kernel
theorem dX6_nextToLeave_77 : decode cX6_nextToLeave 77 = .ok (.istore_n 2, 1) := by decide +kernel
theorem dX6_nextToLeave_78 : decode cX6_nextToLeave 78 = .ok (.aload_n 0, 1) := by decide +kernel
theorem dX6_nextToLeave_79 : decode cX6_nextToLeave 79 = .ok (.invokevirtual 151, 3) := by decide +kernel
theorem dX6_nextToLeave_82 : decode cX6_nextToLeave 82 = .ok (.aload_n 0, 1) := by decide +kernel
theorem dX6_nextToLeave_83 : decode cX6_nextToLeave 83 = .ok (.iload_n 2, 1) := by decide +kernel
theorem dX6_nextToLeave_84 : decode cX6_nextToLeave 84 = .ok (.iconst (-1), 1) := by decide +kernel
theorem dX6_nextToLeave_85 : decode cX6_nextToLeave 85 = .ok (.if_icmp .ne 7, 3) := by decide +kernel
theorem dX6_nextToLeave_88 : decode cX6_nextToLeave 88 = .ok (.iconst 1, 1) := by decide +kernel
theorem dX6_nextToLeave_89 : decode cX6_nextToLeave 89 = .ok (.goto 4, 3) := by decide +kernel
theorem dX6_nextToLeave_92 : decode cX6_nextToLeave 92 = .ok (.iconst 0, 1) := by decide +kernel
theorem dX6_nextToLeave_93 : decode cX6_nextToLeave 93 = .ok (.putfield 54, 3) := by decide +kernel
theorem dX6_nextToLeave_96 : decode cX6_nextToLeave 96 = .ok (.iload_n 2, 1) := by decide +kernel
theorem dX6_nextToLeave_97 : decode cX6_nextToLeave 97 = .ok (.ireturn, 1) := by decide +kernel
set_option maxRecDepth 20000 in
theorem ggX6_traceLength_X6_isAsked : GoodIn wsX6_traceLength wsX6_isAsked := goodIn_r _ [8, 2, 9, 10, 11, 7, 12, 13, 14, 15, 16, 17, 18, 19, 20, 21, 22, 23, 24, 25, 26, 27, 28, 29, 30, 31, 32, 33, 34, 35, 36] (by decide +kernel) (by decide +kernel)
set_option maxRecDepth 20000 in
theorem gX6_traceLength_X6_isAsked : GoodIn wsX6_traceLength (wsV RX6 138 RX6 yX6_isAsked wsX6_isAsked) := goodIn_app (goodIn_of _ (by decide +kernel)) ggX6_traceLength_X6_isAsked
theorem dX6_traceLength_0 : decode cX6_traceLength 0 = .ok (.aload_n 0, 1) := by decide +kernel
theorem dX6_traceLength_1 : decode cX6_traceLength 1 = .ok (.iload_n 1, 1) := by decide +kernel
theorem dX6_traceLength_2 : decode cX6_traceLength 2 = .ok (.invokevirtual 138, 3) := by decide +kernel
theorem dX6_traceLength_5 : decode cX6_traceLength 5 = .ok (.ifCond .eq 7, 3) := by decide +kernel
theorem dX6_traceLength_8 : decode cX6_traceLength 8 = .ok (.iconst 0, 1) := by decide +kernel
theorem dX6_traceLength_9 : decode cX6_traceLength 9 = .ok (.goto 4, 3) := by decide +kernel
theorem dX6_traceLength_12 : decode cX6_traceLength 12 = .ok (.iconst (-1), 1) := by decide +kernel
theorem dX6_traceLength_13 : decode cX6_traceLength 13 = .ok (.istore_n 2, 1) := by decide +kernel
theorem dX6_traceLength_14 : decode cX6_traceLength 14 = .ok (.iconst 0, 1) := by decide +kernel
theorem dX6_traceLength_15 : decode cX6_traceLength 15 = .ok (.istore_n 3, 1) := by decide +kernel
theorem dX6_traceLength_16 : decode cX6_traceLength 16 = .ok (.iload_n 3, 1) := by decide +kernel
theorem dX6_traceLength_17 : decode cX6_traceLength 17 = .ok (.aload_n 0, 1) := by decide +kernel
theorem dX6_traceLength_18 : decode cX6_traceLength 18 = .ok (.getfield 104, 3) := by decide +kernel
theorem dX6_traceLength_21 : decode cX6_traceLength 21 = .ok (.if_icmp .ge 34, 3) := by decide +kernel
theorem dX6_traceLength_24 : decode cX6_traceLength 24 = .ok (.aload_n 0, 1) := by decide +kernel
theorem dX6_traceLength_25 : decode cX6_traceLength 25 = .ok (.getfield 54, 3) := by decide +kernel
theorem dX6_traceLength_28 : decode cX6_traceLength 28 = .ok (.ifCond .ne 27, 3) := by decide +kernel
theorem dX6_traceLength_31 : decode cX6_traceLength 31 = .ok (.iload_n 2, 1) := by decide +kernel
theorem dX6_traceLength_32 : decode cX6_traceLength 32 = .ok (.aload_n 0, 1) := by decide +kernel
theorem dX6_traceLength_33 : decode cX6_traceLength 33 = .ok (.getfield 51, 3) := by decide +kernel
theorem dX6_traceLength_36 : decode cX6_traceLength 36 = .ok (.iload_n 3, 1) := by decide +kernel
theorem dX6_traceLength_37 : decode cX6_traceLength 37 = .ok (.iaload, 1) := by decide +kernel
theorem dX6_traceLength_38 : decode cX6_traceLength 38 = .ok (.iload_n 1, 1) := by decide +kernel
theorem dX6_traceLength_39 : decode cX6_traceLength 39 = .ok (.if_icmp .ne 7, 3) := by decide +kernel
theorem dX6_traceLength_42 : decode cX6_traceLength 42 = .ok (.iconst 1, 1) := by decide +kernel
theorem dX6_traceLength_43 : decode cX6_traceLength 43 = .ok (.goto 4, 3) := by decide +kernel
theorem dX6_traceLength_46 : decode cX6_traceLength 46 = .ok (.iconst 0, 1) := by decide +kernel
theorem dX6_traceLength_47 : decode cX6_traceLength 47 = .ok (.iadd, 1) := by decide +kernel
theorem dX6_traceLength_48 : decode cX6_traceLength 48 = .ok (.istore_n 2, 1) := by decide +kernel
theorem dX6_traceLength_49 : decode cX6_traceLength 49 = .ok (.iinc 3 1, 3) := by decide +kernel
theorem dX6_traceLength_52 : decode cX6_traceLength 52 = .ok (.goto (-36), 3) := by decide +kernel
theorem dX6_traceLength_55 : decode cX6_traceLength 55 = .ok (.iload_n 2, 1) := by decide +kernel
theorem dX6_traceLength_56 : decode cX6_traceLength 56 = .ok (.ireturn, 1) := by decide +kernel
set_option maxRecDepth 20000 in
theorem ggX6_traceAt_X6_isAsked : GoodIn wsX6_traceAt wsX6_isAsked := goodIn_r _ [9, 4, 10, 11, 12, 8, 13, 14, 15, 16, 17, 18, 19, 20, 21, 22, 23, 24, 25, 26, 27, 28, 29, 30, 31, 32, 33, 34, 35, 36, 37] (by decide +kernel) (by decide +kernel)
set_option maxRecDepth 20000 in
theorem gX6_traceAt_X6_isAsked : GoodIn wsX6_traceAt (wsV RX6 138 RX6 yX6_isAsked wsX6_isAsked) := goodIn_app (goodIn_of _ (by decide +kernel)) ggX6_traceAt_X6_isAsked
theorem dX6_traceAt_0 : decode cX6_traceAt 0 = .ok (.aload_n 0, 1) := by decide +kernel
theorem dX6_traceAt_1 : decode cX6_traceAt 1 = .ok (.iload_n 1, 1) := by decide +kernel
theorem dX6_traceAt_2 : decode cX6_traceAt 2 = .ok (.invokevirtual 138, 3) := by decide +kernel
theorem dX6_traceAt_5 : decode cX6_traceAt 5 = .ok (.ifCond .ne 6, 3) := by decide +kernel
theorem dX6_traceAt_8 : decode cX6_traceAt 8 = .ok (.bipush 32, 2) := by decide +kernel
theorem dX6_traceAt_10 : decode cX6_traceAt 10 = .ok (.ireturn, 1) := by decide +kernel
theorem dX6_traceAt_11 : decode cX6_traceAt 11 = .ok (.iconst 0, 1) := by decide +kernel
theorem dX6_traceAt_12 : decode cX6_traceAt 12 = .ok (.istore_n 3, 1) := by decide +kernel
theorem dX6_traceAt_13 : decode cX6_traceAt 13 = .ok (.iconst 0, 1) := by decide +kernel
theorem dX6_traceAt_14 : decode cX6_traceAt 14 = .ok (.istore 4, 2) := by decide +kernel
theorem dX6_traceAt_16 : decode cX6_traceAt 16 = .ok (.iload 4, 2) := by decide +kernel
theorem dX6_traceAt_18 : decode cX6_traceAt 18 = .ok (.aload_n 0, 1) := by decide +kernel
theorem dX6_traceAt_19 : decode cX6_traceAt 19 = .ok (.getfield 104, 3) := by decide +kernel
theorem dX6_traceAt_22 : decode cX6_traceAt 22 = .ok (.if_icmp .ge 52, 3) := by decide +kernel
theorem dX6_traceAt_25 : decode cX6_traceAt 25 = .ok (.aload_n 0, 1) := by decide +kernel
theorem dX6_traceAt_26 : decode cX6_traceAt 26 = .ok (.getfield 51, 3) := by decide +kernel
theorem dX6_traceAt_29 : decode cX6_traceAt 29 = .ok (.iload 4, 2) := by decide +kernel
theorem dX6_traceAt_31 : decode cX6_traceAt 31 = .ok (.iaload, 1) := by decide +kernel
theorem dX6_traceAt_32 : decode cX6_traceAt 32 = .ok (.iload_n 1, 1) := by decide +kernel
theorem dX6_traceAt_33 : decode cX6_traceAt 33 = .ok (.if_icmp .ne 16, 3) := by decide +kernel
theorem dX6_traceAt_36 : decode cX6_traceAt 36 = .ok (.iload_n 3, 1) := by decide +kernel
theorem dX6_traceAt_37 : decode cX6_traceAt 37 = .ok (.iload_n 2, 1) := by decide +kernel
theorem dX6_traceAt_38 : decode cX6_traceAt 38 = .ok (.if_icmp .ne 11, 3) := by decide +kernel
theorem dX6_traceAt_41 : decode cX6_traceAt 41 = .ok (.aload_n 0, 1) := by decide +kernel
theorem dX6_traceAt_42 : decode cX6_traceAt 42 = .ok (.getfield 47, 3) := by decide +kernel
theorem dX6_traceAt_45 : decode cX6_traceAt 45 = .ok (.iload 4, 2) := by decide +kernel
theorem dX6_traceAt_47 : decode cX6_traceAt 47 = .ok (.caload, 1) := by decide +kernel
theorem dX6_traceAt_48 : decode cX6_traceAt 48 = .ok (.ireturn, 1) := by decide +kernel
theorem dX6_traceAt_49 : decode cX6_traceAt 49 = .ok (.iload_n 3, 1) := by decide +kernel
theorem dX6_traceAt_50 : decode cX6_traceAt 50 = .ok (.aload_n 0, 1) := by decide +kernel
theorem dX6_traceAt_51 : decode cX6_traceAt 51 = .ok (.getfield 51, 3) := by decide +kernel
theorem dX6_traceAt_54 : decode cX6_traceAt 54 = .ok (.iload 4, 2) := by decide +kernel
theorem dX6_traceAt_56 : decode cX6_traceAt 56 = .ok (.iaload, 1) := by decide +kernel
theorem dX6_traceAt_57 : decode cX6_traceAt 57 = .ok (.iload_n 1, 1) := by decide +kernel
theorem dX6_traceAt_58 : decode cX6_traceAt 58 = .ok (.if_icmp .ne 7, 3) := by decide +kernel
theorem dX6_traceAt_61 : decode cX6_traceAt 61 = .ok (.iconst 1, 1) := by decide +kernel
theorem dX6_traceAt_62 : decode cX6_traceAt 62 = .ok (.goto 4, 3) := by decide +kernel
theorem dX6_traceAt_65 : decode cX6_traceAt 65 = .ok (.iconst 0, 1) := by decide +kernel
theorem dX6_traceAt_66 : decode cX6_traceAt 66 = .ok (.iadd, 1) := by decide +kernel
theorem dX6_traceAt_67 : decode cX6_traceAt 67 = .ok (.istore_n 3, 1) := by decide +kernel
theorem dX6_traceAt_68 : decode cX6_traceAt 68 = .ok (.iinc 4 1, 3) := by decide +kernel
theorem dX6_traceAt_71 : decode cX6_traceAt 71 = .ok (.goto (-55), 3) := by decide +kernel
theorem dX6_traceAt_74 : decode cX6_traceAt 74 = .ok (.aload_n 0, 1) := by decide +kernel
theorem dX6_traceAt_75 : decode cX6_traceAt 75 = .ok (.iconst 2, 1) := by decide +kernel
theorem dX6_traceAt_76 : decode cX6_traceAt 76 = .ok (.putfield 54, 3) := by decide +kernel
theorem dX6_traceAt_79 : decode cX6_traceAt 79 = .ok (.bipush 32, 2) := by decide +kernel
theorem dX6_traceAt_81 : decode cX6_traceAt 81 = .ok (.ireturn, 1) := by decide +kernel
theorem dX6_count_0 : decode cX6_count 0 = .ok (.iconst 0, 1) := by decide +kernel
theorem dX6_count_1 : decode cX6_count 1 = .ok (.istore_n 2, 1) := by decide +kernel
theorem dX6_count_2 : decode cX6_count 2 = .ok (.iconst 0, 1) := by decide +kernel
theorem dX6_count_3 : decode cX6_count 3 = .ok (.istore_n 3, 1) := by decide +kernel
theorem dX6_count_4 : decode cX6_count 4 = .ok (.iload_n 3, 1) := by decide +kernel
theorem dX6_count_5 : decode cX6_count 5 = .ok (.aload_n 0, 1) := by decide +kernel
theorem dX6_count_6 : decode cX6_count 6 = .ok (.getfield 104, 3) := by decide +kernel
theorem dX6_count_9 : decode cX6_count 9 = .ok (.if_icmp .ge 27, 3) := by decide +kernel
theorem dX6_count_12 : decode cX6_count 12 = .ok (.iload_n 2, 1) := by decide +kernel
theorem dX6_count_13 : decode cX6_count 13 = .ok (.aload_n 0, 1) := by decide +kernel
theorem dX6_count_14 : decode cX6_count 14 = .ok (.getfield 47, 3) := by decide +kernel
theorem dX6_count_17 : decode cX6_count 17 = .ok (.iload_n 3, 1) := by decide +kernel
theorem dX6_count_18 : decode cX6_count 18 = .ok (.caload, 1) := by decide +kernel
theorem dX6_count_19 : decode cX6_count 19 = .ok (.iload_n 1, 1) := by decide +kernel
theorem dX6_count_20 : decode cX6_count 20 = .ok (.if_icmp .ne 7, 3) := by decide +kernel
theorem dX6_count_23 : decode cX6_count 23 = .ok (.iconst 1, 1) := by decide +kernel
theorem dX6_count_24 : decode cX6_count 24 = .ok (.goto 4, 3) := by decide +kernel
theorem dX6_count_27 : decode cX6_count 27 = .ok (.iconst 0, 1) := by decide +kernel
theorem dX6_count_28 : decode cX6_count 28 = .ok (.iadd, 1) := by decide +kernel
theorem dX6_count_29 : decode cX6_count 29 = .ok (.istore_n 2, 1) := by decide +kernel
theorem dX6_count_30 : decode cX6_count 30 = .ok (.iinc 3 1, 3) := by decide +kernel
theorem dX6_count_33 : decode cX6_count 33 = .ok (.goto (-29), 3) := by decide +kernel
theorem dX6_count_36 : decode cX6_count 36 = .ok (.iload_n 2, 1) := by decide +kernel
theorem dX6_count_37 : decode cX6_count 37 = .ok (.ireturn, 1) := by decide +kernel
set_option maxRecDepth 20000 in
theorem ggX6_countOf_X6_count : GoodIn wsX6_countOf wsX6_count := goodIn_ca (goodIn_r _ [6, 7, 8, 9, 10, 11, 12, 13, 14, 15, 16, 17, 18, 19, 20, 21, 22, 23, 24, 25, 26, 27, 28] (by decide +kernel) (by decide +kernel)) (goodIn_sub (fun _ h => List.mem_cons_of_mem _ (List.mem_append_right _ h)) (by decide +kernel))
set_option maxRecDepth 20000 in
theorem gX6_countOf_X6_count : GoodIn wsX6_countOf (wsV RX6 157 RX6 yX6_count wsX6_count) := goodIn_app (goodIn_of _ (by decide +kernel)) ggX6_countOf_X6_count
theorem dX6_countOf_0 : decode cX6_countOf 0 = .ok (.iload_n 1, 1) := by decide +kernel
theorem dX6_countOf_1 : decode cX6_countOf 1 = .ok (.bipush 43, 2) := by decide +kernel
theorem dX6_countOf_3 : decode cX6_countOf 3 = .ok (.if_icmp .eq 27, 3) := by decide +kernel
theorem dX6_countOf_6 : decode cX6_countOf 6 = .ok (.iload_n 1, 1) := by decide +kernel
theorem dX6_countOf_7 : decode cX6_countOf 7 = .ok (.bipush 45, 2) := by decide +kernel
theorem dX6_countOf_9 : decode cX6_countOf 9 = .ok (.if_icmp .eq 21, 3) := by decide +kernel
theorem dX6_countOf_12 : decode cX6_countOf 12 = .ok (.iload_n 1, 1) := by decide +kernel
theorem dX6_countOf_13 : decode cX6_countOf 13 = .ok (.bipush 46, 2) := by decide +kernel
theorem dX6_countOf_15 : decode cX6_countOf 15 = .ok (.if_icmp .eq 15, 3) := by decide +kernel
theorem dX6_countOf_18 : decode cX6_countOf 18 = .ok (.iload_n 1, 1) := by decide +kernel
theorem dX6_countOf_19 : decode cX6_countOf 19 = .ok (.bipush 76, 2) := by decide +kernel
theorem dX6_countOf_21 : decode cX6_countOf 21 = .ok (.if_icmp .eq 9, 3) := by decide +kernel
theorem dX6_countOf_24 : decode cX6_countOf 24 = .ok (.iload_n 1, 1) := by decide +kernel
theorem dX6_countOf_25 : decode cX6_countOf 25 = .ok (.bipush 120, 2) := by decide +kernel
theorem dX6_countOf_27 : decode cX6_countOf 27 = .ok (.if_icmp .ne 7, 3) := by decide +kernel
theorem dX6_countOf_30 : decode cX6_countOf 30 = .ok (.iconst 1, 1) := by decide +kernel
theorem dX6_countOf_31 : decode cX6_countOf 31 = .ok (.goto 4, 3) := by decide +kernel
theorem dX6_countOf_34 : decode cX6_countOf 34 = .ok (.iconst 0, 1) := by decide +kernel
theorem dX6_countOf_35 : decode cX6_countOf 35 = .ok (.istore_n 2, 1) := by decide +kernel
theorem dX6_countOf_36 : decode cX6_countOf 36 = .ok (.aload_n 0, 1) := by decide +kernel
theorem dX6_countOf_37 : decode cX6_countOf 37 = .ok (.iload_n 2, 1) := by decide +kernel
theorem dX6_countOf_38 : decode cX6_countOf 38 = .ok (.ifCond .eq 7, 3) := by decide +kernel
theorem dX6_countOf_41 : decode cX6_countOf 41 = .ok (.iconst 0, 1) := by decide +kernel
theorem dX6_countOf_42 : decode cX6_countOf 42 = .ok (.goto 4, 3) := by decide +kernel
theorem dX6_countOf_45 : decode cX6_countOf 45 = .ok (.iconst 1, 1) := by decide +kernel
theorem dX6_countOf_46 : decode cX6_countOf 46 = .ok (.putfield 54, 3) := by decide +kernel
theorem dX6_countOf_49 : decode cX6_countOf 49 = .ok (.iload_n 2, 1) := by decide +kernel
theorem dX6_countOf_50 : decode cX6_countOf 50 = .ok (.ifCond .eq 11, 3) := by decide +kernel
theorem dX6_countOf_53 : decode cX6_countOf 53 = .ok (.aload_n 0, 1) := by decide +kernel
theorem dX6_countOf_54 : decode cX6_countOf 54 = .ok (.iload_n 1, 1) := by decide +kernel
theorem dX6_countOf_55 : decode cX6_countOf 55 = .ok (.invokevirtual 157, 3) := by decide +kernel
theorem dX6_countOf_58 : decode cX6_countOf 58 = .ok (.goto 4, 3) := by decide +kernel
theorem dX6_countOf_61 : decode cX6_countOf 61 = .ok (.iconst (-1), 1) := by decide +kernel
theorem dX6_countOf_62 : decode cX6_countOf 62 = .ok (.ireturn, 1) := by decide +kernel
theorem dX6_fitted_0 : decode cX6_fitted 0 = .ok (.aload_n 0, 1) := by decide +kernel
theorem dX6_fitted_1 : decode cX6_fitted 1 = .ok (.iconst 0, 1) := by decide +kernel
theorem dX6_fitted_2 : decode cX6_fitted 2 = .ok (.putfield 54, 3) := by decide +kernel
theorem dX6_fitted_5 : decode cX6_fitted 5 = .ok (.aload_n 0, 1) := by decide +kernel
theorem dX6_fitted_6 : decode cX6_fitted 6 = .ok (.getfield 111, 3) := by decide +kernel
theorem dX6_fitted_9 : decode cX6_fitted 9 = .ok (.lreturn, 1) := by decide +kernel
set_option maxRecDepth 20000 in
theorem ggX6_lackShare_X6_count : GoodIn wsX6_lackShare wsX6_count := goodIn_ca (goodIn_r _ [6, 7, 8, 9, 10, 11, 12, 13, 14, 15, 16, 17, 18, 19, 20, 21, 22, 23, 24, 25, 26, 27, 28] (by decide +kernel) (by decide +kernel)) (goodIn_sub (fun _ h => List.mem_cons_of_mem _ (List.mem_append_right _ h)) (by decide +kernel))
set_option maxRecDepth 20000 in
theorem gX6_lackShare_X6_count : GoodIn wsX6_lackShare (wsV RX6 157 RX6 yX6_count wsX6_count) := goodIn_app (goodIn_of _ (by decide +kernel)) ggX6_lackShare_X6_count
theorem dX6_lackShare_0 : decode cX6_lackShare 0 = .ok (.aload_n 0, 1) := by decide +kernel
theorem dX6_lackShare_1 : decode cX6_lackShare 1 = .ok (.bipush 45, 2) := by decide +kernel
theorem dX6_lackShare_3 : decode cX6_lackShare 3 = .ok (.invokevirtual 157, 3) := by decide +kernel
theorem dX6_lackShare_6 : decode cX6_lackShare 6 = .ok (.istore_n 1, 1) := by decide +kernel
theorem dX6_lackShare_7 : decode cX6_lackShare 7 = .ok (.iload_n 1, 1) := by decide +kernel
theorem dX6_lackShare_8 : decode cX6_lackShare 8 = .ok (.aload_n 0, 1) := by decide +kernel
theorem dX6_lackShare_9 : decode cX6_lackShare 9 = .ok (.bipush 43, 2) := by decide +kernel
theorem dX6_lackShare_11 : decode cX6_lackShare 11 = .ok (.invokevirtual 157, 3) := by decide +kernel
theorem dX6_lackShare_14 : decode cX6_lackShare 14 = .ok (.iadd, 1) := by decide +kernel
theorem dX6_lackShare_15 : decode cX6_lackShare 15 = .ok (.aload_n 0, 1) := by decide +kernel
theorem dX6_lackShare_16 : decode cX6_lackShare 16 = .ok (.bipush 46, 2) := by decide +kernel
theorem dX6_lackShare_18 : decode cX6_lackShare 18 = .ok (.invokevirtual 157, 3) := by decide +kernel
theorem dX6_lackShare_21 : decode cX6_lackShare 21 = .ok (.iadd, 1) := by decide +kernel
theorem dX6_lackShare_22 : decode cX6_lackShare 22 = .ok (.istore_n 2, 1) := by decide +kernel
theorem dX6_lackShare_23 : decode cX6_lackShare 23 = .ok (.aload_n 0, 1) := by decide +kernel
theorem dX6_lackShare_24 : decode cX6_lackShare 24 = .ok (.iload_n 2, 1) := by decide +kernel
theorem dX6_lackShare_25 : decode cX6_lackShare 25 = .ok (.ifCond .ne 7, 3) := by decide +kernel
theorem dX6_lackShare_28 : decode cX6_lackShare 28 = .ok (.iconst 1, 1) := by decide +kernel
theorem dX6_lackShare_29 : decode cX6_lackShare 29 = .ok (.goto 4, 3) := by decide +kernel
theorem dX6_lackShare_32 : decode cX6_lackShare 32 = .ok (.iconst 0, 1) := by decide +kernel
theorem dX6_lackShare_33 : decode cX6_lackShare 33 = .ok (.putfield 54, 3) := by decide +kernel
theorem dX6_lackShare_36 : decode cX6_lackShare 36 = .ok (.iload_n 2, 1) := by decide +kernel
theorem dX6_lackShare_37 : decode cX6_lackShare 37 = .ok (.ifCond .ne 7, 3) := by decide +kernel
theorem dX6_lackShare_40 : decode cX6_lackShare 40 = .ok (.fconst 0, 1) := by decide +kernel
theorem dX6_lackShare_41 : decode cX6_lackShare 41 = .ok (.goto 8, 3) := by decide +kernel
theorem dX6_lackShare_44 : decode cX6_lackShare 44 = .ok (.iload_n 1, 1) := by decide +kernel
theorem dX6_lackShare_45 : decode cX6_lackShare 45 = .ok (.i2f, 1) := by decide +kernel
theorem dX6_lackShare_46 : decode cX6_lackShare 46 = .ok (.iload_n 2, 1) := by decide +kernel
theorem dX6_lackShare_47 : decode cX6_lackShare 47 = .ok (.i2f, 1) := by decide +kernel
theorem dX6_lackShare_48 : decode cX6_lackShare 48 = .ok (.fdiv, 1) := by decide +kernel
theorem dX6_lackShare_49 : decode cX6_lackShare 49 = .ok (.freturn, 1) := by decide +kernel
theorem dX6_meanTime_0 : decode cX6_meanTime 0 = .ok (.iconst 0, 1) := by decide +kernel
theorem dX6_meanTime_1 : decode cX6_meanTime 1 = .ok (.istore_n 1, 1) := by decide +kernel
theorem dX6_meanTime_2 : decode cX6_meanTime 2 = .ok (.iconst 0, 1) := by decide +kernel
theorem dX6_meanTime_3 : decode cX6_meanTime 3 = .ok (.istore_n 2, 1) := by decide +kernel
theorem dX6_meanTime_4 : decode cX6_meanTime 4 = .ok (.iload_n 2, 1) := by decide +kernel
theorem dX6_meanTime_5 : decode cX6_meanTime 5 = .ok (.aload_n 0, 1) := by decide +kernel
theorem dX6_meanTime_6 : decode cX6_meanTime 6 = .ok (.getfield 41, 3) := by decide +kernel
theorem dX6_meanTime_9 : decode cX6_meanTime 9 = .ok (.sipush 235, 3) := by decide +kernel
theorem dX6_meanTime_12 : decode cX6_meanTime 12 = .ok (.iaload, 1) := by decide +kernel
theorem dX6_meanTime_13 : decode cX6_meanTime 13 = .ok (.if_icmp .ge 36, 3) := by decide +kernel
theorem dX6_meanTime_16 : decode cX6_meanTime 16 = .ok (.aload_n 0, 1) := by decide +kernel
theorem dX6_meanTime_17 : decode cX6_meanTime 17 = .ok (.getfield 41, 3) := by decide +kernel
theorem dX6_meanTime_20 : decode cX6_meanTime 20 = .ok (.sipush 202, 3) := by decide +kernel
theorem dX6_meanTime_23 : decode cX6_meanTime 23 = .ok (.iload_n 2, 1) := by decide +kernel
theorem dX6_meanTime_24 : decode cX6_meanTime 24 = .ok (.iadd, 1) := by decide +kernel
theorem dX6_meanTime_25 : decode cX6_meanTime 25 = .ok (.iaload, 1) := by decide +kernel
theorem dX6_meanTime_26 : decode cX6_meanTime 26 = .ok (.istore_n 3, 1) := by decide +kernel
theorem dX6_meanTime_27 : decode cX6_meanTime 27 = .ok (.iload_n 1, 1) := by decide +kernel
theorem dX6_meanTime_28 : decode cX6_meanTime 28 = .ok (.aload_n 0, 1) := by decide +kernel
theorem dX6_meanTime_29 : decode cX6_meanTime 29 = .ok (.getfield 35, 3) := by decide +kernel
theorem dX6_meanTime_32 : decode cX6_meanTime 32 = .ok (.iload_n 3, 1) := by decide +kernel
theorem dX6_meanTime_33 : decode cX6_meanTime 33 = .ok (.iaload, 1) := by decide +kernel
theorem dX6_meanTime_34 : decode cX6_meanTime 34 = .ok (.aload_n 0, 1) := by decide +kernel
theorem dX6_meanTime_35 : decode cX6_meanTime 35 = .ok (.getfield 32, 3) := by decide +kernel
theorem dX6_meanTime_38 : decode cX6_meanTime 38 = .ok (.iload_n 3, 1) := by decide +kernel
theorem dX6_meanTime_39 : decode cX6_meanTime 39 = .ok (.iaload, 1) := by decide +kernel
theorem dX6_meanTime_40 : decode cX6_meanTime 40 = .ok (.isub, 1) := by decide +kernel
theorem dX6_meanTime_41 : decode cX6_meanTime 41 = .ok (.iadd, 1) := by decide +kernel
theorem dX6_meanTime_42 : decode cX6_meanTime 42 = .ok (.istore_n 1, 1) := by decide +kernel
theorem dX6_meanTime_43 : decode cX6_meanTime 43 = .ok (.iinc 2 1, 3) := by decide +kernel
theorem dX6_meanTime_46 : decode cX6_meanTime 46 = .ok (.goto (-42), 3) := by decide +kernel
theorem dX6_meanTime_49 : decode cX6_meanTime 49 = .ok (.aload_n 0, 1) := by decide +kernel
theorem dX6_meanTime_50 : decode cX6_meanTime 50 = .ok (.aload_n 0, 1) := by decide +kernel
theorem dX6_meanTime_51 : decode cX6_meanTime 51 = .ok (.getfield 41, 3) := by decide +kernel
theorem dX6_meanTime_54 : decode cX6_meanTime 54 = .ok (.sipush 235, 3) := by decide +kernel
theorem dX6_meanTime_57 : decode cX6_meanTime 57 = .ok (.iaload, 1) := by decide +kernel
theorem dX6_meanTime_58 : decode cX6_meanTime 58 = .ok (.ifCond .ne 7, 3) := by decide +kernel
theorem dX6_meanTime_61 : decode cX6_meanTime 61 = .ok (.iconst 1, 1) := by decide +kernel
theorem dX6_meanTime_62 : decode cX6_meanTime 62 = .ok (.goto 4, 3) := by decide +kernel
theorem dX6_meanTime_65 : decode cX6_meanTime 65 = .ok (.iconst 0, 1) := by decide +kernel
theorem dX6_meanTime_66 : decode cX6_meanTime 66 = .ok (.putfield 54, 3) := by decide +kernel
theorem dX6_meanTime_69 : decode cX6_meanTime 69 = .ok (.aload_n 0, 1) := by decide +kernel
theorem dX6_meanTime_70 : decode cX6_meanTime 70 = .ok (.getfield 54, 3) := by decide +kernel
theorem dX6_meanTime_73 : decode cX6_meanTime 73 = .ok (.ifCond .ne 18, 3) := by decide +kernel
theorem dX6_meanTime_76 : decode cX6_meanTime 76 = .ok (.iload_n 1, 1) := by decide +kernel
theorem dX6_meanTime_77 : decode cX6_meanTime 77 = .ok (.i2d, 1) := by decide +kernel
theorem dX6_meanTime_78 : decode cX6_meanTime 78 = .ok (.aload_n 0, 1) := by decide +kernel
theorem dX6_meanTime_79 : decode cX6_meanTime 79 = .ok (.getfield 41, 3) := by decide +kernel
theorem dX6_meanTime_82 : decode cX6_meanTime 82 = .ok (.sipush 235, 3) := by decide +kernel
theorem dX6_meanTime_85 : decode cX6_meanTime 85 = .ok (.iaload, 1) := by decide +kernel
theorem dX6_meanTime_86 : decode cX6_meanTime 86 = .ok (.i2d, 1) := by decide +kernel
theorem dX6_meanTime_87 : decode cX6_meanTime 87 = .ok (.ddiv, 1) := by decide +kernel
theorem dX6_meanTime_88 : decode cX6_meanTime 88 = .ok (.goto 4, 3) := by decide +kernel
theorem dX6_meanTime_91 : decode cX6_meanTime 91 = .ok (.dconst 0, 1) := by decide +kernel
theorem dX6_meanTime_92 : decode cX6_meanTime 92 = .ok (.dreturn, 1) := by decide +kernel
theorem dJx00060_init_a7421_0 : decode cJx00060_init_a7421 0 = .ok (.aload_n 0, 1) := by decide +kernel
theorem dJx00060_init_a7421_1 : decode cJx00060_init_a7421 1 = .ok (.aload_n 1, 1) := by decide +kernel
theorem dJx00060_init_a7421_2 : decode cJx00060_init_a7421 2 = .ok (.invokespecial 7, 3) := by decide +kernel
theorem dJx00060_init_a7421_5 : decode cJx00060_init_a7421 5 = .ok (.return_, 1) := by decide +kernel
theorem dJ11_isValidCodePoint_9a6ad_0 : decode cJ11_isValidCodePoint_9a6ad 0 = .ok (.iload_n 0, 1) := by decide +kernel
theorem dJ11_isValidCodePoint_9a6ad_1 : decode cJ11_isValidCodePoint_9a6ad 1 = .ok (.bipush 16, 2) := by decide +kernel
theorem dJ11_isValidCodePoint_9a6ad_3 : decode cJ11_isValidCodePoint_9a6ad 3 = .ok (.iushr, 1) := by decide +kernel
theorem dJ11_isValidCodePoint_9a6ad_4 : decode cJ11_isValidCodePoint_9a6ad 4 = .ok (.istore_n 1, 1) := by decide +kernel
theorem dJ11_isValidCodePoint_9a6ad_5 : decode cJ11_isValidCodePoint_9a6ad 5 = .ok (.iload_n 1, 1) := by decide +kernel
theorem dJ11_isValidCodePoint_9a6ad_6 : decode cJ11_isValidCodePoint_9a6ad 6 = .ok (.bipush 17, 2) := by decide +kernel
theorem dJ11_isValidCodePoint_9a6ad_8 : decode cJ11_isValidCodePoint_9a6ad 8 = .ok (.if_icmp .ge 7, 3) := by decide +kernel
theorem dJ11_isValidCodePoint_9a6ad_11 : decode cJ11_isValidCodePoint_9a6ad 11 = .ok (.iconst 1, 1) := by decide +kernel
theorem dJ11_isValidCodePoint_9a6ad_12 : decode cJ11_isValidCodePoint_9a6ad 12 = .ok (.goto 4, 3) := by decide +kernel
theorem dJ11_isValidCodePoint_9a6ad_15 : decode cJ11_isValidCodePoint_9a6ad 15 = .ok (.iconst 0, 1) := by decide +kernel
theorem dJ11_isValidCodePoint_9a6ad_16 : decode cJ11_isValidCodePoint_9a6ad 16 = .ok (.ireturn, 1) := by decide +kernel
theorem dJ11_highSurrogate_5068e_0 : decode cJ11_highSurrogate_5068e 0 = .ok (.iload_n 0, 1) := by decide +kernel
theorem dJ11_highSurrogate_5068e_1 : decode cJ11_highSurrogate_5068e 1 = .ok (.bipush 10, 2) := by decide +kernel
theorem dJ11_highSurrogate_5068e_3 : decode cJ11_highSurrogate_5068e 3 = .ok (.iushr, 1) := by decide +kernel
theorem dJ11_highSurrogate_5068e_4 : decode cJ11_highSurrogate_5068e 4 = .ok (.ldc 110, 2) := by decide +kernel
theorem dJ11_highSurrogate_5068e_6 : decode cJ11_highSurrogate_5068e 6 = .ok (.iadd, 1) := by decide +kernel
theorem dJ11_highSurrogate_5068e_7 : decode cJ11_highSurrogate_5068e 7 = .ok (.i2c, 1) := by decide +kernel
theorem dJ11_highSurrogate_5068e_8 : decode cJ11_highSurrogate_5068e 8 = .ok (.ireturn, 1) := by decide +kernel
theorem dJ11_lowSurrogate_5068e_0 : decode cJ11_lowSurrogate_5068e 0 = .ok (.iload_n 0, 1) := by decide +kernel
theorem dJ11_lowSurrogate_5068e_1 : decode cJ11_lowSurrogate_5068e 1 = .ok (.sipush 1023, 3) := by decide +kernel
theorem dJ11_lowSurrogate_5068e_4 : decode cJ11_lowSurrogate_5068e 4 = .ok (.iand, 1) := by decide +kernel
theorem dJ11_lowSurrogate_5068e_5 : decode cJ11_lowSurrogate_5068e 5 = .ok (.ldc 76, 2) := by decide +kernel
theorem dJ11_lowSurrogate_5068e_7 : decode cJ11_lowSurrogate_5068e 7 = .ok (.iadd, 1) := by decide +kernel
theorem dJ11_lowSurrogate_5068e_8 : decode cJ11_lowSurrogate_5068e 8 = .ok (.i2c, 1) := by decide +kernel
theorem dJ11_lowSurrogate_5068e_9 : decode cJ11_lowSurrogate_5068e 9 = .ok (.ireturn, 1) := by decide +kernel
theorem dJ6_bitCount_0f7a4_0 : decode cJ6_bitCount_0f7a4 0 = .ok (.iload_n 0, 1) := by decide +kernel
theorem dJ6_bitCount_0f7a4_1 : decode cJ6_bitCount_0f7a4 1 = .ok (.iload_n 0, 1) := by decide +kernel
theorem dJ6_bitCount_0f7a4_2 : decode cJ6_bitCount_0f7a4 2 = .ok (.iconst 1, 1) := by decide +kernel
theorem dJ6_bitCount_0f7a4_3 : decode cJ6_bitCount_0f7a4 3 = .ok (.iushr, 1) := by decide +kernel
theorem dJ6_bitCount_0f7a4_4 : decode cJ6_bitCount_0f7a4 4 = .ok (.ldc_w 265, 3) := by decide +kernel
theorem dJ6_bitCount_0f7a4_7 : decode cJ6_bitCount_0f7a4 7 = .ok (.iand, 1) := by decide +kernel
theorem dJ6_bitCount_0f7a4_8 : decode cJ6_bitCount_0f7a4 8 = .ok (.isub, 1) := by decide +kernel
theorem dJ6_bitCount_0f7a4_9 : decode cJ6_bitCount_0f7a4 9 = .ok (.istore_n 0, 1) := by decide +kernel
theorem dJ6_bitCount_0f7a4_10 : decode cJ6_bitCount_0f7a4 10 = .ok (.iload_n 0, 1) := by decide +kernel
theorem dJ6_bitCount_0f7a4_11 : decode cJ6_bitCount_0f7a4 11 = .ok (.ldc_w 266, 3) := by decide +kernel
theorem dJ6_bitCount_0f7a4_14 : decode cJ6_bitCount_0f7a4 14 = .ok (.iand, 1) := by decide +kernel
theorem dJ6_bitCount_0f7a4_15 : decode cJ6_bitCount_0f7a4 15 = .ok (.iload_n 0, 1) := by decide +kernel
theorem dJ6_bitCount_0f7a4_16 : decode cJ6_bitCount_0f7a4 16 = .ok (.iconst 2, 1) := by decide +kernel
theorem dJ6_bitCount_0f7a4_17 : decode cJ6_bitCount_0f7a4 17 = .ok (.iushr, 1) := by decide +kernel
theorem dJ6_bitCount_0f7a4_18 : decode cJ6_bitCount_0f7a4 18 = .ok (.ldc_w 266, 3) := by decide +kernel
theorem dJ6_bitCount_0f7a4_21 : decode cJ6_bitCount_0f7a4 21 = .ok (.iand, 1) := by decide +kernel
theorem dJ6_bitCount_0f7a4_22 : decode cJ6_bitCount_0f7a4 22 = .ok (.iadd, 1) := by decide +kernel
theorem dJ6_bitCount_0f7a4_23 : decode cJ6_bitCount_0f7a4 23 = .ok (.istore_n 0, 1) := by decide +kernel
theorem dJ6_bitCount_0f7a4_24 : decode cJ6_bitCount_0f7a4 24 = .ok (.iload_n 0, 1) := by decide +kernel
theorem dJ6_bitCount_0f7a4_25 : decode cJ6_bitCount_0f7a4 25 = .ok (.iload_n 0, 1) := by decide +kernel
theorem dJ6_bitCount_0f7a4_26 : decode cJ6_bitCount_0f7a4 26 = .ok (.iconst 4, 1) := by decide +kernel
theorem dJ6_bitCount_0f7a4_27 : decode cJ6_bitCount_0f7a4 27 = .ok (.iushr, 1) := by decide +kernel
theorem dJ6_bitCount_0f7a4_28 : decode cJ6_bitCount_0f7a4 28 = .ok (.iadd, 1) := by decide +kernel
theorem dJ6_bitCount_0f7a4_29 : decode cJ6_bitCount_0f7a4 29 = .ok (.ldc_w 267, 3) := by decide +kernel
theorem dJ6_bitCount_0f7a4_32 : decode cJ6_bitCount_0f7a4 32 = .ok (.iand, 1) := by decide +kernel
theorem dJ6_bitCount_0f7a4_33 : decode cJ6_bitCount_0f7a4 33 = .ok (.istore_n 0, 1) := by decide +kernel
theorem dJ6_bitCount_0f7a4_34 : decode cJ6_bitCount_0f7a4 34 = .ok (.iload_n 0, 1) := by decide +kernel
theorem dJ6_bitCount_0f7a4_35 : decode cJ6_bitCount_0f7a4 35 = .ok (.iload_n 0, 1) := by decide +kernel
theorem dJ6_bitCount_0f7a4_36 : decode cJ6_bitCount_0f7a4 36 = .ok (.bipush 8, 2) := by decide +kernel
theorem dJ6_bitCount_0f7a4_38 : decode cJ6_bitCount_0f7a4 38 = .ok (.iushr, 1) := by decide +kernel
theorem dJ6_bitCount_0f7a4_39 : decode cJ6_bitCount_0f7a4 39 = .ok (.iadd, 1) := by decide +kernel
theorem dJ6_bitCount_0f7a4_40 : decode cJ6_bitCount_0f7a4 40 = .ok (.istore_n 0, 1) := by decide +kernel
theorem dJ6_bitCount_0f7a4_41 : decode cJ6_bitCount_0f7a4 41 = .ok (.iload_n 0, 1) := by decide +kernel
theorem dJ6_bitCount_0f7a4_42 : decode cJ6_bitCount_0f7a4 42 = .ok (.iload_n 0, 1) := by decide +kernel
theorem dJ6_bitCount_0f7a4_43 : decode cJ6_bitCount_0f7a4 43 = .ok (.bipush 16, 2) := by decide +kernel
theorem dJ6_bitCount_0f7a4_45 : decode cJ6_bitCount_0f7a4 45 = .ok (.iushr, 1) := by decide +kernel
theorem dJ6_bitCount_0f7a4_46 : decode cJ6_bitCount_0f7a4 46 = .ok (.iadd, 1) := by decide +kernel
theorem dJ6_bitCount_0f7a4_47 : decode cJ6_bitCount_0f7a4 47 = .ok (.istore_n 0, 1) := by decide +kernel
theorem dJ6_bitCount_0f7a4_48 : decode cJ6_bitCount_0f7a4 48 = .ok (.iload_n 0, 1) := by decide +kernel
theorem dJ6_bitCount_0f7a4_49 : decode cJ6_bitCount_0f7a4 49 = .ok (.bipush 63, 2) := by decide +kernel
theorem dJ6_bitCount_0f7a4_51 : decode cJ6_bitCount_0f7a4 51 = .ok (.iand, 1) := by decide +kernel
theorem dJ6_bitCount_0f7a4_52 : decode cJ6_bitCount_0f7a4 52 = .ok (.ireturn, 1) := by decide +kernel
theorem dJ9_max_7cf53_0 : decode cJ9_max_7cf53 0 = .ok (.iload_n 0, 1) := by decide +kernel
theorem dJ9_max_7cf53_1 : decode cJ9_max_7cf53 1 = .ok (.iload_n 1, 1) := by decide +kernel
theorem dJ9_max_7cf53_2 : decode cJ9_max_7cf53 2 = .ok (.if_icmp .lt 7, 3) := by decide +kernel
theorem dJ9_max_7cf53_5 : decode cJ9_max_7cf53 5 = .ok (.iload_n 0, 1) := by decide +kernel
theorem dJ9_max_7cf53_6 : decode cJ9_max_7cf53 6 = .ok (.goto 4, 3) := by decide +kernel
theorem dJ9_max_7cf53_9 : decode cJ9_max_7cf53 9 = .ok (.iload_n 1, 1) := by decide +kernel
theorem dJ9_max_7cf53_10 : decode cJ9_max_7cf53 10 = .ok (.ireturn, 1) := by decide +kernel
theorem dJ9_min_7cf53_0 : decode cJ9_min_7cf53 0 = .ok (.iload_n 0, 1) := by decide +kernel
theorem dJ9_min_7cf53_1 : decode cJ9_min_7cf53 1 = .ok (.iload_n 1, 1) := by decide +kernel
theorem dJ9_min_7cf53_2 : decode cJ9_min_7cf53 2 = .ok (.if_icmp .gt 7, 3) := by decide +kernel
theorem dJ9_min_7cf53_5 : decode cJ9_min_7cf53 5 = .ok (.iload_n 0, 1) := by decide +kernel
theorem dJ9_min_7cf53_6 : decode cJ9_min_7cf53 6 = .ok (.goto 4, 3) := by decide +kernel
theorem dJ9_min_7cf53_9 : decode cJ9_min_7cf53 9 = .ok (.iload_n 1, 1) := by decide +kernel
theorem dJ9_min_7cf53_10 : decode cJ9_min_7cf53 10 = .ok (.ireturn, 1) := by decide +kernel
set_option maxRecDepth 20000 in
theorem ggJ0_length_8abf5_J0_coder_7d493 : GoodIn wsJ0_length_8abf5 wsJ0_coder_7d493 := goodIn_r _ [6, 7, 8, 9, 10] (by decide +kernel) (by decide +kernel)
set_option maxRecDepth 20000 in
theorem gJ0_length_8abf5_J0_coder_7d493 : GoodIn wsJ0_length_8abf5 (wsV RJ0 335 RJ0 yJ0_coder_7d493 wsJ0_coder_7d493) := goodIn_app (goodIn_of _ (by decide +kernel)) ggJ0_length_8abf5_J0_coder_7d493
theorem dJ0_length_8abf5_0 : decode cJ0_length_8abf5 0 = .ok (.aload_n 0, 1) := by decide +kernel
theorem dJ0_length_8abf5_1 : decode cJ0_length_8abf5 1 = .ok (.getfield 9, 3) := by decide +kernel
theorem dJ0_length_8abf5_4 : decode cJ0_length_8abf5 4 = .ok (.arraylength, 1) := by decide +kernel
theorem dJ0_length_8abf5_5 : decode cJ0_length_8abf5 5 = .ok (.aload_n 0, 1) := by decide +kernel
theorem dJ0_length_8abf5_6 : decode cJ0_length_8abf5 6 = .ok (.invokevirtual 335, 3) := by decide +kernel
theorem dJ0_length_8abf5_9 : decode cJ0_length_8abf5 9 = .ok (.ishr, 1) := by decide +kernel
theorem dJ0_length_8abf5_10 : decode cJ0_length_8abf5 10 = .ok (.ireturn, 1) := by decide +kernel
set_option maxRecDepth 20000 in
theorem ggJ0_indexOf_0f7a4_J0_indexOf_7cf53 : GoodIn wsJ0_indexOf_0f7a4 wsJ0_indexOf_7cf53 := goodIn_r _ [5, 6, 7, 8, 9, 4, 10, 11, 12, 13, 14, 15, 16, 17, 18, 19, 20, 21, 22, 23, 24, 25, 26, 27, 28, 29, 30, 31, 32, 33, 34, 35, 36, 37, 38, 39, 40, 41, 42, 43, 44, 45, 46, 47, 48, 49, 50, 51, 52, 53, 54, 55, 56, 57, 58, 59, 60, 61, 62, 63, 64, 65, 66, 67, 68, 69, 70, 71, 72, 73, 74, 75, 76, 77, 78, 79, 80, 81, 82, 83, 84, 85, 86, 87] (by decide +kernel) (by decide +kernel)
set_option maxRecDepth 20000 in
theorem gJ0_indexOf_0f7a4_J0_indexOf_7cf53 : GoodIn wsJ0_indexOf_0f7a4 (wsV RJ0 633 RJ0 yJ0_indexOf_7cf53 wsJ0_indexOf_7cf53) := goodIn_app (goodIn_of _ (by decide +kernel)) ggJ0_indexOf_0f7a4_J0_indexOf_7cf53
theorem dJ0_indexOf_0f7a4_0 : decode cJ0_indexOf_0f7a4 0 = .ok (.aload_n 0, 1) := by decide +kernel
theorem dJ0_indexOf_0f7a4_1 : decode cJ0_indexOf_0f7a4 1 = .ok (.iload_n 1, 1) := by decide +kernel
theorem dJ0_indexOf_0f7a4_2 : decode cJ0_indexOf_0f7a4 2 = .ok (.iconst 0, 1) := by decide +kernel
theorem dJ0_indexOf_0f7a4_3 : decode cJ0_indexOf_0f7a4 3 = .ok (.invokevirtual 633, 3) := by decide +kernel
theorem dJ0_indexOf_0f7a4_6 : decode cJ0_indexOf_0f7a4 6 = .ok (.ireturn, 1) := by decide +kernel
set_option maxRecDepth 20000 in
theorem ggJ0_indexOf_7cf53_J0_isLatin1_aae02 : GoodIn wsJ0_indexOf_7cf53 wsJ0_isLatin1_aae02 := goodIn_r _ [6, 7, 8, 82, 83] (by decide +kernel) (by decide +kernel)
set_option maxRecDepth 20000 in
theorem gJ0_indexOf_7cf53_J0_isLatin1_aae02 : GoodIn wsJ0_indexOf_7cf53 (wsV RJ0 492 RJ0 yJ0_isLatin1_aae02 wsJ0_isLatin1_aae02) := goodIn_app (goodIn_of _ (by decide +kernel)) ggJ0_indexOf_7cf53_J0_isLatin1_aae02
set_option maxRecDepth 20000 in
theorem ggJ0_indexOf_7cf53_J0_length_8abf5 : GoodIn wsJ0_indexOf_7cf53 wsJ0_length_8abf5 := goodIn_r _ [12, 1, 13, 14, 15, 5, 16, 7, 8, 82, 83] (by decide +kernel) (by decide +kernel)
set_option maxRecDepth 20000 in
theorem gJ0_indexOf_7cf53_J0_length_8abf5 : GoodIn wsJ0_indexOf_7cf53 (wsV RJ0 505 RJ0 yJ0_length_8abf5 wsJ0_length_8abf5) := goodIn_app (goodIn_of _ (by decide +kernel)) ggJ0_indexOf_7cf53_J0_length_8abf5
set_option maxRecDepth 20000 in
theorem ggJ0_indexOf_7cf53_J1_indexOf_4cfef : GoodIn wsJ0_indexOf_7cf53 wsJ1_indexOf_4cfef := goodIn_r _ [20, 21, 22, 23, 24, 25, 26, 27, 28, 29, 19, 30, 31, 32, 33] (by decide +kernel) (by decide +kernel)
set_option maxRecDepth 20000 in
theorem gJ0_indexOf_7cf53_J1_indexOf_4cfef : GoodIn wsJ0_indexOf_7cf53 (va_wsS RJ0 637 yJ1_indexOf_4cfef wsJ1_indexOf_4cfef) := goodIn_app (goodIn_of _ (by decide +kernel)) ggJ0_indexOf_7cf53_J1_indexOf_4cfef
set_option maxRecDepth 20000 in
theorem ggJ0_indexOf_7cf53_J2_indexOf_4cfef : GoodIn wsJ0_indexOf_7cf53 wsJ2_indexOf_4cfef := goodIn_r _ [37, 38, 22, 23, 24, 39, 26, 27, 40, 41, 42, 36, 43, 44, 45, 46, 47, 48, 49, 50, 51, 5, 52, 53, 54, 55, 56, 57, 58, 59, 60, 61, 62, 63, 64, 65, 66, 67, 68, 69, 70, 71, 72, 73, 74, 75, 76, 77, 78, 79, 80, 81] (by decide +kernel) (by decide +kernel)
set_option maxRecDepth 20000 in
theorem gJ0_indexOf_7cf53_J2_indexOf_4cfef : GoodIn wsJ0_indexOf_7cf53 (va_wsS RJ0 640 yJ2_indexOf_4cfef wsJ2_indexOf_4cfef) := goodIn_app (goodIn_of _ (by decide +kernel)) ggJ0_indexOf_7cf53_J2_indexOf_4cfef
theorem dJ0_indexOf_7cf53_0 : decode cJ0_indexOf_7cf53 0 = .ok (.aload_n 0, 1) := by decide +kernel
theorem dJ0_indexOf_7cf53_1 : decode cJ0_indexOf_7cf53 1 = .ok (.invokevirtual 492, 3) := by decide +kernel
theorem dJ0_indexOf_7cf53_4 : decode cJ0_indexOf_7cf53 4 = .ok (.ifCond .eq 19, 3) := by decide +kernel
theorem dJ0_indexOf_7cf53_7 : decode cJ0_indexOf_7cf53 7 = .ok (.aload_n 0, 1) := by decide +kernel
theorem dJ0_indexOf_7cf53_8 : decode cJ0_indexOf_7cf53 8 = .ok (.getfield 9, 3) := by decide +kernel
theorem dJ0_indexOf_7cf53_11 : decode cJ0_indexOf_7cf53 11 = .ok (.iload_n 1, 1) := by decide +kernel
theorem dJ0_indexOf_7cf53_12 : decode cJ0_indexOf_7cf53 12 = .ok (.iload_n 2, 1) := by decide +kernel
theorem dJ0_indexOf_7cf53_13 : decode cJ0_indexOf_7cf53 13 = .ok (.aload_n 0, 1) := by decide +kernel
theorem dJ0_indexOf_7cf53_14 : decode cJ0_indexOf_7cf53 14 = .ok (.invokevirtual 505, 3) := by decide +kernel
theorem dJ0_indexOf_7cf53_17 : decode cJ0_indexOf_7cf53 17 = .ok (.invokestatic 637, 3) := by decide +kernel
theorem dJ0_indexOf_7cf53_20 : decode cJ0_indexOf_7cf53 20 = .ok (.goto 16, 3) := by decide +kernel
theorem dJ0_indexOf_7cf53_23 : decode cJ0_indexOf_7cf53 23 = .ok (.aload_n 0, 1) := by decide +kernel
theorem dJ0_indexOf_7cf53_24 : decode cJ0_indexOf_7cf53 24 = .ok (.getfield 9, 3) := by decide +kernel
theorem dJ0_indexOf_7cf53_27 : decode cJ0_indexOf_7cf53 27 = .ok (.iload_n 1, 1) := by decide +kernel
theorem dJ0_indexOf_7cf53_28 : decode cJ0_indexOf_7cf53 28 = .ok (.iload_n 2, 1) := by decide +kernel
theorem dJ0_indexOf_7cf53_29 : decode cJ0_indexOf_7cf53 29 = .ok (.aload_n 0, 1) := by decide +kernel
theorem dJ0_indexOf_7cf53_30 : decode cJ0_indexOf_7cf53 30 = .ok (.invokevirtual 505, 3) := by decide +kernel
theorem dJ0_indexOf_7cf53_33 : decode cJ0_indexOf_7cf53 33 = .ok (.invokestatic 640, 3) := by decide +kernel
theorem dJ0_indexOf_7cf53_36 : decode cJ0_indexOf_7cf53 36 = .ok (.ireturn, 1) := by decide +kernel
theorem dJ0_coder_7d493_0 : decode cJ0_coder_7d493 0 = .ok (.getstatic 38, 3) := by decide +kernel
theorem dJ0_coder_7d493_3 : decode cJ0_coder_7d493 3 = .ok (.ifCond .eq 10, 3) := by decide +kernel
theorem dJ0_coder_7d493_6 : decode cJ0_coder_7d493 6 = .ok (.aload_n 0, 1) := by decide +kernel
theorem dJ0_coder_7d493_7 : decode cJ0_coder_7d493 7 = .ok (.getfield 15, 3) := by decide +kernel
theorem dJ0_coder_7d493_10 : decode cJ0_coder_7d493 10 = .ok (.goto 4, 3) := by decide +kernel
theorem dJ0_coder_7d493_13 : decode cJ0_coder_7d493 13 = .ok (.iconst 1, 1) := by decide +kernel
theorem dJ0_coder_7d493_14 : decode cJ0_coder_7d493 14 = .ok (.ireturn, 1) := by decide +kernel
theorem dJ0_isLatin1_aae02_0 : decode cJ0_isLatin1_aae02 0 = .ok (.getstatic 38, 3) := by decide +kernel
theorem dJ0_isLatin1_aae02_3 : decode cJ0_isLatin1_aae02 3 = .ok (.ifCond .eq 14, 3) := by decide +kernel
theorem dJ0_isLatin1_aae02_6 : decode cJ0_isLatin1_aae02 6 = .ok (.aload_n 0, 1) := by decide +kernel
theorem dJ0_isLatin1_aae02_7 : decode cJ0_isLatin1_aae02 7 = .ok (.getfield 15, 3) := by decide +kernel
theorem dJ0_isLatin1_aae02_10 : decode cJ0_isLatin1_aae02 10 = .ok (.ifCond .ne 7, 3) := by decide +kernel
theorem dJ0_isLatin1_aae02_13 : decode cJ0_isLatin1_aae02 13 = .ok (.iconst 1, 1) := by decide +kernel
theorem dJ0_isLatin1_aae02_14 : decode cJ0_isLatin1_aae02 14 = .ok (.goto 4, 3) := by decide +kernel
theorem dJ0_isLatin1_aae02_17 : decode cJ0_isLatin1_aae02 17 = .ok (.iconst 0, 1) := by decide +kernel
theorem dJ0_isLatin1_aae02_18 : decode cJ0_isLatin1_aae02 18 = .ok (.ireturn, 1) := by decide +kernel
set_option maxRecDepth 20000 in
theorem ggJ0_checkBoundsBeginEnd_23922_J3_checkFromToIndex_8c36e : GoodIn wsJ0_checkBoundsBeginEnd_23922 wsJ3_checkFromToIndex_8c36e := goodIn_r _ [5] (by decide +kernel) (by decide +kernel)
set_option maxRecDepth 20000 in
theorem gJ0_checkBoundsBeginEnd_23922_J3_checkFromToIndex_8c36e : GoodIn wsJ0_checkBoundsBeginEnd_23922 (va_wsS RJ0 1062 yJ3_checkFromToIndex_8c36e wsJ3_checkFromToIndex_8c36e) := goodIn_app (goodIn_of _ (by decide +kernel)) ggJ0_checkBoundsBeginEnd_23922_J3_checkFromToIndex_8c36e
theorem dJ0_checkBoundsBeginEnd_23922_0 : decode cJ0_checkBoundsBeginEnd_23922 0 = .ok (.iload_n 0, 1) := by decide +kernel
theorem dJ0_checkBoundsBeginEnd_23922_1 : decode cJ0_checkBoundsBeginEnd_23922 1 = .ok (.iload_n 1, 1) := by decide +kernel
theorem dJ0_checkBoundsBeginEnd_23922_2 : decode cJ0_checkBoundsBeginEnd_23922 2 = .ok (.iload_n 2, 1) := by decide +kernel
theorem dJ0_checkBoundsBeginEnd_23922_3 : decode cJ0_checkBoundsBeginEnd_23922 3 = .ok (.getstatic 1053, 3) := by decide +kernel
theorem dJ0_checkBoundsBeginEnd_23922_6 : decode cJ0_checkBoundsBeginEnd_23922 6 = .ok (.invokestatic 1062, 3) := by decide +kernel
theorem dJ0_checkBoundsBeginEnd_23922_9 : decode cJ0_checkBoundsBeginEnd_23922 9 = .ok (.pop, 1) := by decide +kernel
theorem dJ0_checkBoundsBeginEnd_23922_10 : decode cJ0_checkBoundsBeginEnd_23922 10 = .ok (.return_, 1) := by decide +kernel
theorem dJ1_canEncode_9a6ad_0 : decode cJ1_canEncode_9a6ad 0 = .ok (.iload_n 0, 1) := by decide +kernel
theorem dJ1_canEncode_9a6ad_1 : decode cJ1_canEncode_9a6ad 1 = .ok (.ifCond .lt 14, 3) := by decide +kernel
theorem dJ1_canEncode_9a6ad_4 : decode cJ1_canEncode_9a6ad 4 = .ok (.iload_n 0, 1) := by decide +kernel
theorem dJ1_canEncode_9a6ad_5 : decode cJ1_canEncode_9a6ad 5 = .ok (.sipush 255, 3) := by decide +kernel
theorem dJ1_canEncode_9a6ad_8 : decode cJ1_canEncode_9a6ad 8 = .ok (.if_icmp .gt 7, 3) := by decide +kernel
theorem dJ1_canEncode_9a6ad_11 : decode cJ1_canEncode_9a6ad 11 = .ok (.iconst 1, 1) := by decide +kernel
theorem dJ1_canEncode_9a6ad_12 : decode cJ1_canEncode_9a6ad 12 = .ok (.goto 4, 3) := by decide +kernel
theorem dJ1_canEncode_9a6ad_15 : decode cJ1_canEncode_9a6ad 15 = .ok (.iconst 0, 1) := by decide +kernel
theorem dJ1_canEncode_9a6ad_16 : decode cJ1_canEncode_9a6ad 16 = .ok (.ireturn, 1) := by decide +kernel
set_option maxRecDepth 20000 in
theorem ggJ1_indexOf_4cfef_J1_canEncode_9a6ad : GoodIn wsJ1_indexOf_4cfef wsJ1_canEncode_9a6ad := goodIn_r _ [11] (by decide +kernel) (by decide +kernel)
set_option maxRecDepth 20000 in
theorem gJ1_indexOf_4cfef_J1_canEncode_9a6ad : GoodIn wsJ1_indexOf_4cfef (va_wsS RJ1 88 yJ1_canEncode_9a6ad wsJ1_canEncode_9a6ad) := goodIn_app (goodIn_of _ (by decide +kernel)) ggJ1_indexOf_4cfef_J1_canEncode_9a6ad
set_option maxRecDepth 20000 in
theorem ggJ1_indexOf_4cfef_J1_indexOfChar_4cfef : GoodIn wsJ1_indexOf_4cfef wsJ1_indexOfChar_4cfef := goodIn_r _ [14] (by decide +kernel) (by decide +kernel)
set_option maxRecDepth 20000 in
theorem gJ1_indexOf_4cfef_J1_indexOfChar_4cfef : GoodIn wsJ1_indexOf_4cfef (va_wsS RJ1 95 yJ1_indexOfChar_4cfef wsJ1_indexOfChar_4cfef) := goodIn_app (goodIn_of _ (by decide +kernel)) ggJ1_indexOf_4cfef_J1_indexOfChar_4cfef
theorem dJ1_indexOf_4cfef_0 : decode cJ1_indexOf_4cfef 0 = .ok (.iload_n 1, 1) := by decide +kernel
theorem dJ1_indexOf_4cfef_1 : decode cJ1_indexOf_4cfef 1 = .ok (.invokestatic 88, 3) := by decide +kernel
theorem dJ1_indexOf_4cfef_4 : decode cJ1_indexOf_4cfef 4 = .ok (.ifCond .ne 5, 3) := by decide +kernel
theorem dJ1_indexOf_4cfef_7 : decode cJ1_indexOf_4cfef 7 = .ok (.iconst (-1), 1) := by decide +kernel
theorem dJ1_indexOf_4cfef_8 : decode cJ1_indexOf_4cfef 8 = .ok (.ireturn, 1) := by decide +kernel
theorem dJ1_indexOf_4cfef_9 : decode cJ1_indexOf_4cfef 9 = .ok (.iload_n 2, 1) := by decide +kernel
theorem dJ1_indexOf_4cfef_10 : decode cJ1_indexOf_4cfef 10 = .ok (.iconst 0, 1) := by decide +kernel
theorem dJ1_indexOf_4cfef_11 : decode cJ1_indexOf_4cfef 11 = .ok (.invokestatic 92, 3) := by decide +kernel
theorem dJ1_indexOf_4cfef_14 : decode cJ1_indexOf_4cfef 14 = .ok (.istore_n 2, 1) := by decide +kernel
theorem dJ1_indexOf_4cfef_15 : decode cJ1_indexOf_4cfef 15 = .ok (.iload_n 3, 1) := by decide +kernel
theorem dJ1_indexOf_4cfef_16 : decode cJ1_indexOf_4cfef 16 = .ok (.aload_n 0, 1) := by decide +kernel
theorem dJ1_indexOf_4cfef_17 : decode cJ1_indexOf_4cfef 17 = .ok (.arraylength, 1) := by decide +kernel
theorem dJ1_indexOf_4cfef_18 : decode cJ1_indexOf_4cfef 18 = .ok (.invokestatic 38, 3) := by decide +kernel
theorem dJ1_indexOf_4cfef_21 : decode cJ1_indexOf_4cfef 21 = .ok (.istore_n 3, 1) := by decide +kernel
theorem dJ1_indexOf_4cfef_22 : decode cJ1_indexOf_4cfef 22 = .ok (.iload_n 2, 1) := by decide +kernel
theorem dJ1_indexOf_4cfef_23 : decode cJ1_indexOf_4cfef 23 = .ok (.iload_n 3, 1) := by decide +kernel
theorem dJ1_indexOf_4cfef_24 : decode cJ1_indexOf_4cfef 24 = .ok (.if_icmp .lt 5, 3) := by decide +kernel
theorem dJ1_indexOf_4cfef_27 : decode cJ1_indexOf_4cfef 27 = .ok (.iconst (-1), 1) := by decide +kernel
theorem dJ1_indexOf_4cfef_28 : decode cJ1_indexOf_4cfef 28 = .ok (.ireturn, 1) := by decide +kernel
theorem dJ1_indexOf_4cfef_29 : decode cJ1_indexOf_4cfef 29 = .ok (.aload_n 0, 1) := by decide +kernel
theorem dJ1_indexOf_4cfef_30 : decode cJ1_indexOf_4cfef 30 = .ok (.iload_n 1, 1) := by decide +kernel
theorem dJ1_indexOf_4cfef_31 : decode cJ1_indexOf_4cfef 31 = .ok (.iload_n 2, 1) := by decide +kernel
theorem dJ1_indexOf_4cfef_32 : decode cJ1_indexOf_4cfef 32 = .ok (.iload_n 3, 1) := by decide +kernel
theorem dJ1_indexOf_4cfef_33 : decode cJ1_indexOf_4cfef 33 = .ok (.invokestatic 95, 3) := by decide +kernel
theorem dJ1_indexOf_4cfef_36 : decode cJ1_indexOf_4cfef 36 = .ok (.ireturn, 1) := by decide +kernel
theorem dJ1_indexOfChar_4cfef_0 : decode cJ1_indexOfChar_4cfef 0 = .ok (.iload_n 1, 1) := by decide +kernel
theorem dJ1_indexOfChar_4cfef_1 : decode cJ1_indexOfChar_4cfef 1 = .ok (.i2b, 1) := by decide +kernel
theorem dJ1_indexOfChar_4cfef_2 : decode cJ1_indexOfChar_4cfef 2 = .ok (.istore 4, 2) := by decide +kernel
theorem dJ1_indexOfChar_4cfef_4 : decode cJ1_indexOfChar_4cfef 4 = .ok (.iload_n 2, 1) := by decide +kernel
theorem dJ1_indexOfChar_4cfef_5 : decode cJ1_indexOfChar_4cfef 5 = .ok (.istore 5, 2) := by decide +kernel
theorem dJ1_indexOfChar_4cfef_7 : decode cJ1_indexOfChar_4cfef 7 = .ok (.iload 5, 2) := by decide +kernel
theorem dJ1_indexOfChar_4cfef_9 : decode cJ1_indexOfChar_4cfef 9 = .ok (.iload_n 3, 1) := by decide +kernel
theorem dJ1_indexOfChar_4cfef_10 : decode cJ1_indexOfChar_4cfef 10 = .ok (.if_icmp .ge 21, 3) := by decide +kernel
theorem dJ1_indexOfChar_4cfef_13 : decode cJ1_indexOfChar_4cfef 13 = .ok (.aload_n 0, 1) := by decide +kernel
theorem dJ1_indexOfChar_4cfef_14 : decode cJ1_indexOfChar_4cfef 14 = .ok (.iload 5, 2) := by decide +kernel
theorem dJ1_indexOfChar_4cfef_16 : decode cJ1_indexOfChar_4cfef 16 = .ok (.baload, 1) := by decide +kernel
theorem dJ1_indexOfChar_4cfef_17 : decode cJ1_indexOfChar_4cfef 17 = .ok (.iload 4, 2) := by decide +kernel
theorem dJ1_indexOfChar_4cfef_19 : decode cJ1_indexOfChar_4cfef 19 = .ok (.if_icmp .ne 6, 3) := by decide +kernel
theorem dJ1_indexOfChar_4cfef_22 : decode cJ1_indexOfChar_4cfef 22 = .ok (.iload 5, 2) := by decide +kernel
theorem dJ1_indexOfChar_4cfef_24 : decode cJ1_indexOfChar_4cfef 24 = .ok (.ireturn, 1) := by decide +kernel
theorem dJ1_indexOfChar_4cfef_25 : decode cJ1_indexOfChar_4cfef 25 = .ok (.iinc 5 1, 3) := by decide +kernel
theorem dJ1_indexOfChar_4cfef_28 : decode cJ1_indexOfChar_4cfef 28 = .ok (.goto (-21), 3) := by decide +kernel
theorem dJ1_indexOfChar_4cfef_31 : decode cJ1_indexOfChar_4cfef 31 = .ok (.iconst (-1), 1) := by decide +kernel
theorem dJ1_indexOfChar_4cfef_32 : decode cJ1_indexOfChar_4cfef 32 = .ok (.ireturn, 1) := by decide +kernel
set_option maxRecDepth 20000 in
theorem ggJ2_getChar_3b067_J2_length_9d52b : GoodIn wsJ2_getChar_3b067 wsJ2_length_9d52b := goodIn_r _ [7] (by decide +kernel) (by decide +kernel)
set_option maxRecDepth 20000 in
theorem gJ2_getChar_3b067_J2_length_9d52b : GoodIn wsJ2_getChar_3b067 (va_wsS RJ2 48 yJ2_length_9d52b wsJ2_length_9d52b) := goodIn_app (goodIn_of _ (by decide +kernel)) ggJ2_getChar_3b067_J2_length_9d52b
theorem dJ2_getChar_3b067_0 : decode cJ2_getChar_3b067 0 = .ok (.getstatic 44, 3) := by decide +kernel
theorem dJ2_getChar_3b067_3 : decode cJ2_getChar_3b067 3 = .ok (.ifCond .ne 25, 3) := by decide +kernel
theorem dJ2_getChar_3b067_6 : decode cJ2_getChar_3b067 6 = .ok (.iload_n 1, 1) := by decide +kernel
theorem dJ2_getChar_3b067_7 : decode cJ2_getChar_3b067 7 = .ok (.ifCond .lt 11, 3) := by decide +kernel
theorem dJ2_getChar_3b067_10 : decode cJ2_getChar_3b067 10 = .ok (.iload_n 1, 1) := by decide +kernel
theorem dJ2_getChar_3b067_11 : decode cJ2_getChar_3b067 11 = .ok (.aload_n 0, 1) := by decide +kernel
theorem dJ2_getChar_3b067_12 : decode cJ2_getChar_3b067 12 = .ok (.invokestatic 48, 3) := by decide +kernel
theorem dJ2_getChar_3b067_15 : decode cJ2_getChar_3b067 15 = .ok (.if_icmp .lt 13, 3) := by decide +kernel
theorem dJ2_getChar_3b067_18 : decode cJ2_getChar_3b067 18 = .ok (.new 52, 3) := by decide +kernel
theorem dJ2_getChar_3b067_21 : decode cJ2_getChar_3b067 21 = .ok (.dup, 1) := by decide +kernel
theorem dJ2_getChar_3b067_22 : decode cJ2_getChar_3b067 22 = .ok (.ldc 54, 2) := by decide +kernel
theorem dJ2_getChar_3b067_24 : decode cJ2_getChar_3b067 24 = .ok (.invokespecial 56, 3) := by decide +kernel
theorem dJ2_getChar_3b067_27 : decode cJ2_getChar_3b067 27 = .ok (.athrow, 1) := by decide +kernel
theorem dJ2_getChar_3b067_28 : decode cJ2_getChar_3b067 28 = .ok (.iload_n 1, 1) := by decide +kernel
theorem dJ2_getChar_3b067_29 : decode cJ2_getChar_3b067 29 = .ok (.iconst 1, 1) := by decide +kernel
theorem dJ2_getChar_3b067_30 : decode cJ2_getChar_3b067 30 = .ok (.ishl, 1) := by decide +kernel
theorem dJ2_getChar_3b067_31 : decode cJ2_getChar_3b067 31 = .ok (.istore_n 1, 1) := by decide +kernel
theorem dJ2_getChar_3b067_32 : decode cJ2_getChar_3b067 32 = .ok (.aload_n 0, 1) := by decide +kernel
theorem dJ2_getChar_3b067_33 : decode cJ2_getChar_3b067 33 = .ok (.iload_n 1, 1) := by decide +kernel
theorem dJ2_getChar_3b067_34 : decode cJ2_getChar_3b067 34 = .ok (.iinc 1 1, 3) := by decide +kernel
theorem dJ2_getChar_3b067_37 : decode cJ2_getChar_3b067 37 = .ok (.baload, 1) := by decide +kernel
theorem dJ2_getChar_3b067_38 : decode cJ2_getChar_3b067 38 = .ok (.sipush 255, 3) := by decide +kernel
theorem dJ2_getChar_3b067_41 : decode cJ2_getChar_3b067 41 = .ok (.iand, 1) := by decide +kernel
theorem dJ2_getChar_3b067_42 : decode cJ2_getChar_3b067 42 = .ok (.getstatic 59, 3) := by decide +kernel
theorem dJ2_getChar_3b067_45 : decode cJ2_getChar_3b067 45 = .ok (.ishl, 1) := by decide +kernel
theorem dJ2_getChar_3b067_46 : decode cJ2_getChar_3b067 46 = .ok (.aload_n 0, 1) := by decide +kernel
theorem dJ2_getChar_3b067_47 : decode cJ2_getChar_3b067 47 = .ok (.iload_n 1, 1) := by decide +kernel
theorem dJ2_getChar_3b067_48 : decode cJ2_getChar_3b067 48 = .ok (.baload, 1) := by decide +kernel
theorem dJ2_getChar_3b067_49 : decode cJ2_getChar_3b067 49 = .ok (.sipush 255, 3) := by decide +kernel
theorem dJ2_getChar_3b067_52 : decode cJ2_getChar_3b067 52 = .ok (.iand, 1) := by decide +kernel
theorem dJ2_getChar_3b067_53 : decode cJ2_getChar_3b067 53 = .ok (.getstatic 63, 3) := by decide +kernel
theorem dJ2_getChar_3b067_56 : decode cJ2_getChar_3b067 56 = .ok (.ishl, 1) := by decide +kernel
theorem dJ2_getChar_3b067_57 : decode cJ2_getChar_3b067 57 = .ok (.ior, 1) := by decide +kernel
theorem dJ2_getChar_3b067_58 : decode cJ2_getChar_3b067 58 = .ok (.i2c, 1) := by decide +kernel
theorem dJ2_getChar_3b067_59 : decode cJ2_getChar_3b067 59 = .ok (.ireturn, 1) := by decide +kernel
theorem dJ2_length_9d52b_0 : decode cJ2_length_9d52b 0 = .ok (.aload_n 0, 1) := by decide +kernel
theorem dJ2_length_9d52b_1 : decode cJ2_length_9d52b 1 = .ok (.arraylength, 1) := by decide +kernel
theorem dJ2_length_9d52b_2 : decode cJ2_length_9d52b 2 = .ok (.iconst 1, 1) := by decide +kernel
theorem dJ2_length_9d52b_3 : decode cJ2_length_9d52b 3 = .ok (.ishr, 1) := by decide +kernel
theorem dJ2_length_9d52b_4 : decode cJ2_length_9d52b 4 = .ok (.ireturn, 1) := by decide +kernel
set_option maxRecDepth 20000 in
theorem ggJ2_indexOf_4cfef_J2_indexOfChar_4cfef : GoodIn wsJ2_indexOf_4cfef wsJ2_indexOfChar_4cfef := goodIn_r _ [12, 13, 14, 11, 15, 16, 17, 18, 19, 20, 21, 22, 23, 24, 25, 26, 27, 28, 29, 30, 31, 32, 33, 34, 35, 36] (by decide +kernel) (by decide +kernel)
set_option maxRecDepth 20000 in
theorem gJ2_indexOf_4cfef_J2_indexOfChar_4cfef : GoodIn wsJ2_indexOf_4cfef (va_wsS RJ2 228 yJ2_indexOfChar_4cfef wsJ2_indexOfChar_4cfef) := goodIn_app (goodIn_of _ (by decide +kernel)) ggJ2_indexOf_4cfef_J2_indexOfChar_4cfef
set_option maxRecDepth 20000 in
theorem ggJ2_indexOf_4cfef_J2_indexOfSupplementary_4cfef : GoodIn wsJ2_indexOf_4cfef wsJ2_indexOfSupplementary_4cfef := goodIn_r _ [39, 40, 41, 42, 43, 44, 45, 46, 47, 48, 49, 50, 51, 13, 14, 11, 15, 16, 17, 18, 19, 20, 21, 22, 23, 24, 25, 26, 27, 31, 32, 33, 34, 35, 36] (by decide +kernel) (by decide +kernel)
set_option maxRecDepth 20000 in
theorem gJ2_indexOf_4cfef_J2_indexOfSupplementary_4cfef : GoodIn wsJ2_indexOf_4cfef (va_wsS RJ2 232 yJ2_indexOfSupplementary_4cfef wsJ2_indexOfSupplementary_4cfef) := goodIn_app (goodIn_of _ (by decide +kernel)) ggJ2_indexOf_4cfef_J2_indexOfSupplementary_4cfef
theorem dJ2_indexOf_4cfef_0 : decode cJ2_indexOf_4cfef 0 = .ok (.iload_n 2, 1) := by decide +kernel
theorem dJ2_indexOf_4cfef_1 : decode cJ2_indexOf_4cfef 1 = .ok (.iconst 0, 1) := by decide +kernel
theorem dJ2_indexOf_4cfef_2 : decode cJ2_indexOf_4cfef 2 = .ok (.invokestatic 224, 3) := by decide +kernel
theorem dJ2_indexOf_4cfef_5 : decode cJ2_indexOf_4cfef 5 = .ok (.istore_n 2, 1) := by decide +kernel
theorem dJ2_indexOf_4cfef_6 : decode cJ2_indexOf_4cfef 6 = .ok (.iload_n 3, 1) := by decide +kernel
theorem dJ2_indexOf_4cfef_7 : decode cJ2_indexOf_4cfef 7 = .ok (.aload_n 0, 1) := by decide +kernel
theorem dJ2_indexOf_4cfef_8 : decode cJ2_indexOf_4cfef 8 = .ok (.arraylength, 1) := by decide +kernel
theorem dJ2_indexOf_4cfef_9 : decode cJ2_indexOf_4cfef 9 = .ok (.iconst 1, 1) := by decide +kernel
