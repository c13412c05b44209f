/-! KeccakLanesModel: the names that the printed ones leave out; Long.rotateLeft -/
abbrev cX1_permute : ByteArray := prog_3_method_2_code
def yX1_permute : MethodName := ⟨RX1, "permute", "()V"⟩
abbrev cX1_fail : ByteArray := prog_3_method_5_code
def yX1_fail : MethodName := ⟨RX1, "fail", "(I)I"⟩
abbrev cX1_out : ByteArray := prog_3_method_6_code
def yX1_out : MethodName := ⟨RX1, "out", "(I)Z"⟩
abbrev cX1_get : ByteArray := prog_3_method_7_code
def yX1_get : MethodName := ⟨RX1, "get", "(I)V"⟩
abbrev cX1_put : ByteArray := prog_3_method_8_code
def yX1_put : MethodName := ⟨RX1, "put", "(I)V"⟩
abbrev cX1_taken : ByteArray := prog_3_method_10_code
def yX1_taken : MethodName := ⟨RX1, "taken", "(II)V"⟩
abbrev cX1_take : ByteArray := prog_3_method_11_code
def yX1_take : MethodName := ⟨RX1, "take", "(IJI)I"⟩
abbrev cX1_fill : ByteArray := prog_3_method_12_code
def yX1_fill : MethodName := ⟨RX1, "fill", "(IIII)I"⟩
abbrev cX1_copy : ByteArray := prog_3_method_13_code
def yX1_copy : MethodName := ⟨RX1, "copy", "(II)V"⟩
abbrev cX1_mix : ByteArray := prog_3_method_14_code
def yX1_mix : MethodName := ⟨RX1, "mix", "(I)V"⟩
abbrev cX1_lane : ByteArray := prog_3_method_15_code
def yX1_lane : MethodName := ⟨RX1, "lane", "(II)J"⟩
abbrev cX1_digest : ByteArray := prog_3_method_16_code
def yX1_digest : MethodName := ⟨RX1, "digest", "(II)J"⟩
abbrev cJ_rot : ByteArray := prog_6_method_51_code
def yJ_rot : MethodName := ⟨RJ13, "rotateLeft", "(JI)J"⟩
def wsJ_rot : List Cond := [.code yJ_rot cJ_rot 3 (some .long)]
def kM_all : List Cond := [.initialized RX1, .initialized RJ13, .fieldLink RX1 43 "KeccakLanesModel" "failed" "I", .fieldLink RX1 32 "KeccakLanesModel" "states" "[[J", .fieldLink RX1 35 "KeccakLanesModel" "places" "[I", .fieldLink RX1 7 "KeccakLanesModel" "lanes" "[J", .fieldLink RX1 1 "KeccakLanesModel" "column" "[J", .fieldLink RX1 16 "KeccakLanesModel" "moved" "[J", .fieldLink RX1 21 "KeccakLanesModel" "constants" "[J", .constantLong RX1 19 (-1), .constantLong RX1 69 (-9223372036854775808), .constantLong RX1 71 255, .methodLink RX1 47 yX1_out, .instanceMethod yX1_out, .selects RX1 yX1_out yX1_out, .code yX1_out cX1_out 2 (some .boolean), .methodLink RX1 54 yX1_fail, .instanceMethod yX1_fail, .selects RX1 yX1_fail yX1_fail, .code yX1_fail cX1_fail 2 (some .int), .methodLink RX1 58 yX1_get, .instanceMethod yX1_get, .selects RX1 yX1_get yX1_get, .code yX1_get cX1_get 3 none, .methodLink RX1 62 yX1_taken, .instanceMethod yX1_taken, .selects RX1 yX1_taken yX1_taken, .code yX1_taken cX1_taken 4 none, .methodLink RX1 51 yX1_permute, .instanceMethod yX1_permute, .selects RX1 yX1_permute yX1_permute, .code yX1_permute cX1_permute 6 none, .methodLink RX1 66 yX1_put, .instanceMethod yX1_put, .selects RX1 yX1_put yX1_put, .code yX1_put cX1_put 3 none, .methodLink RX1 10 yJ_rot, .static yJ_rot, .code yJ_rot cJ_rot 3 (some .long)] ++ wsX10
theorem kM_good : kM_all.all goodWord = true := by decide +kernel
theorem kM_in : ∀ w ∈ u_ws RX1 TX1 7, w ∈ kM_all := fun _ h => List.mem_append_right _ h
theorem kM_gv {c0 c1 : Cond} {i : Nat} {y : MethodName} (h : ∀ w ∈ [Cond.methodLink RX1 i y, .instanceMethod y, .selects RX1 y y, .initialized RX1, c1], w ∈ kM_all) : GoodIn (c0 :: kM_all) (wsV RX1 i RX1 y (c1 :: kM_all)) := by
  intro w hw
  have hm : w ∈ kM_all := by
    unfold wsV at hw
    rcases List.mem_append.mp hw with h1 | h1
    · exact h w (List.mem_append_left [c1] h1)
    · rcases List.mem_cons.mp h1 with h2 | h2
      · rw [h2]
        exact h c1 (by simp)
      · exact h2
  exact ⟨List.mem_cons_of_mem _ hm, good_of_word (List.all_eq_true.mp kM_good w hm)⟩
theorem kM_gr {c0 : Cond} : GoodIn (c0 :: kM_all) (va_wsS RX1 10 yJ_rot wsJ_rot) := by
  intro w hw
  have hm : w ∈ kM_all := (by decide +kernel : ∀ w ∈ va_wsS RX1 10 yJ_rot wsJ_rot, w ∈ kM_all) w hw
  exact ⟨List.mem_cons_of_mem _ hm, good_of_word (List.all_eq_true.mp kM_good w hm)⟩
def wsM_permute : List Cond := .code yX1_permute cX1_permute 6 none :: kM_all
def wsM_thrown : List Cond := .code yX1_thrown cX1_thrown 1 (some .int) :: kM_all
def wsM_fail : List Cond := .code yX1_fail cX1_fail 2 (some .int) :: kM_all
def wsM_out : List Cond := .code yX1_out cX1_out 2 (some .boolean) :: kM_all
def wsM_get : List Cond := .code yX1_get cX1_get 3 none :: kM_all
def wsM_put : List Cond := .code yX1_put cX1_put 3 none :: kM_all
def wsM_clear : List Cond := .code yX1_clear cX1_clear 3 none :: kM_all
def wsM_taken : List Cond := .code yX1_taken cX1_taken 4 none :: kM_all
def wsM_take : List Cond := .code yX1_take cX1_take 6 (some .int) :: kM_all
def wsM_fill : List Cond := .code yX1_fill cX1_fill 6 (some .int) :: kM_all
def wsM_copy : List Cond := .code yX1_copy cX1_copy 3 none :: kM_all
def wsM_mix : List Cond := .code yX1_mix cX1_mix 2 none :: kM_all
def wsM_lane : List Cond := .code yX1_lane cX1_lane 3 (some .long) :: kM_all
def wsM_digest : List Cond := .code yX1_digest cX1_digest 7 (some .long) :: kM_all
theorem gM_clear_out : GoodIn wsM_clear (wsV RX1 47 RX1 yX1_out wsM_out) := kM_gv (by decide +kernel)
theorem gM_taken_permute : GoodIn wsM_taken (wsV RX1 51 RX1 yX1_permute wsM_permute) := kM_gv (by decide +kernel)
theorem gM_take_out : GoodIn wsM_take (wsV RX1 47 RX1 yX1_out wsM_out) := kM_gv (by decide +kernel)
theorem gM_take_fail : GoodIn wsM_take (wsV RX1 54 RX1 yX1_fail wsM_fail) := kM_gv (by decide +kernel)
theorem gM_take_get : GoodIn wsM_take (wsV RX1 58 RX1 yX1_get wsM_get) := kM_gv (by decide +kernel)
theorem gM_take_taken : GoodIn wsM_take (wsV RX1 62 RX1 yX1_taken wsM_taken) := kM_gv (by decide +kernel)
theorem gM_take_put : GoodIn wsM_take (wsV RX1 66 RX1 yX1_put wsM_put) := kM_gv (by decide +kernel)
theorem gM_fill_out : GoodIn wsM_fill (wsV RX1 47 RX1 yX1_out wsM_out) := kM_gv (by decide +kernel)
theorem gM_fill_fail : GoodIn wsM_fill (wsV RX1 54 RX1 yX1_fail wsM_fail) := kM_gv (by decide +kernel)
theorem gM_fill_get : GoodIn wsM_fill (wsV RX1 58 RX1 yX1_get wsM_get) := kM_gv (by decide +kernel)
theorem gM_fill_taken : GoodIn wsM_fill (wsV RX1 62 RX1 yX1_taken wsM_taken) := kM_gv (by decide +kernel)
theorem gM_fill_put : GoodIn wsM_fill (wsV RX1 66 RX1 yX1_put wsM_put) := kM_gv (by decide +kernel)
theorem gM_copy_out : GoodIn wsM_copy (wsV RX1 47 RX1 yX1_out wsM_out) := kM_gv (by decide +kernel)
theorem gM_copy_get : GoodIn wsM_copy (wsV RX1 58 RX1 yX1_get wsM_get) := kM_gv (by decide +kernel)
theorem gM_copy_put : GoodIn wsM_copy (wsV RX1 66 RX1 yX1_put wsM_put) := kM_gv (by decide +kernel)
theorem gM_mix_out : GoodIn wsM_mix (wsV RX1 47 RX1 yX1_out wsM_out) := kM_gv (by decide +kernel)
theorem gM_mix_get : GoodIn wsM_mix (wsV RX1 58 RX1 yX1_get wsM_get) := kM_gv (by decide +kernel)
theorem gM_mix_permute : GoodIn wsM_mix (wsV RX1 51 RX1 yX1_permute wsM_permute) := kM_gv (by decide +kernel)
theorem gM_mix_put : GoodIn wsM_mix (wsV RX1 66 RX1 yX1_put wsM_put) := kM_gv (by decide +kernel)
theorem gM_lane_out : GoodIn wsM_lane (wsV RX1 47 RX1 yX1_out wsM_out) := kM_gv (by decide +kernel)
theorem gM_lane_fail : GoodIn wsM_lane (wsV RX1 54 RX1 yX1_fail wsM_fail) := kM_gv (by decide +kernel)
theorem gM_digest_out : GoodIn wsM_digest (wsV RX1 47 RX1 yX1_out wsM_out) := kM_gv (by decide +kernel)
theorem gM_digest_fail : GoodIn wsM_digest (wsV RX1 54 RX1 yX1_fail wsM_fail) := kM_gv (by decide +kernel)
theorem gM_digest_get : GoodIn wsM_digest (wsV RX1 58 RX1 yX1_get wsM_get) := kM_gv (by decide +kernel)
theorem gM_digest_permute : GoodIn wsM_digest (wsV RX1 51 RX1 yX1_permute wsM_permute) := kM_gv (by decide +kernel)
theorem dX1_permute_0 : decode cX1_permute 0 = .ok (.iconst 0, 1) := by decide +kernel
theorem dX1_permute_1 : decode cX1_permute 1 = .ok (.istore_n 1, 1) := by decide +kernel
theorem dX1_permute_2 : decode cX1_permute 2 = .ok (.iload_n 1, 1) := by decide +kernel
theorem dX1_permute_3 : decode cX1_permute 3 = .ok (.bipush 24, 2) := by decide +kernel
theorem dX1_permute_5 : decode cX1_permute 5 = .ok (.if_icmp .ge 327, 3) := by decide +kernel
theorem dX1_permute_8 : decode cX1_permute 8 = .ok (.iconst 0, 1) := by decide +kernel
theorem dX1_permute_9 : decode cX1_permute 9 = .ok (.istore_n 2, 1) := by decide +kernel
theorem dX1_permute_10 : decode cX1_permute 10 = .ok (.iload_n 2, 1) := by decide +kernel
theorem dX1_permute_11 : decode cX1_permute 11 = .ok (.iconst 5, 1) := by decide +kernel
theorem dX1_permute_12 : decode cX1_permute 12 = .ok (.if_icmp .ge 60, 3) := by decide +kernel
theorem dX1_permute_15 : decode cX1_permute 15 = .ok (.aload_n 0, 1) := by decide +kernel
theorem dX1_permute_16 : decode cX1_permute 16 = .ok (.getfield 1, 3) := by decide +kernel
theorem dX1_permute_19 : decode cX1_permute 19 = .ok (.iload_n 2, 1) := by decide +kernel
theorem dX1_permute_20 : decode cX1_permute 20 = .ok (.aload_n 0, 1) := by decide +kernel
theorem dX1_permute_21 : decode cX1_permute 21 = .ok (.getfield 7, 3) := by decide +kernel
theorem dX1_permute_24 : decode cX1_permute 24 = .ok (.iload_n 2, 1) := by decide +kernel
theorem dX1_permute_25 : decode cX1_permute 25 = .ok (.laload, 1) := by decide +kernel
theorem dX1_permute_26 : decode cX1_permute 26 = .ok (.aload_n 0, 1) := by decide +kernel
theorem dX1_permute_27 : decode cX1_permute 27 = .ok (.getfield 7, 3) := by decide +kernel
theorem dX1_permute_30 : decode cX1_permute 30 = .ok (.iload_n 2, 1) := by decide +kernel
theorem dX1_permute_31 : decode cX1_permute 31 = .ok (.iconst 5, 1) := by decide +kernel
theorem dX1_permute_32 : decode cX1_permute 32 = .ok (.iadd, 1) := by decide +kernel
theorem dX1_permute_33 : decode cX1_permute 33 = .ok (.laload, 1) := by decide +kernel
theorem dX1_permute_34 : decode cX1_permute 34 = .ok (.lxor, 1) := by decide +kernel
theorem dX1_permute_35 : decode cX1_permute 35 = .ok (.aload_n 0, 1) := by decide +kernel
theorem dX1_permute_36 : decode cX1_permute 36 = .ok (.getfield 7, 3) := by decide +kernel
theorem dX1_permute_39 : decode cX1_permute 39 = .ok (.iload_n 2, 1) := by decide +kernel
theorem dX1_permute_40 : decode cX1_permute 40 = .ok (.bipush 10, 2) := by decide +kernel
theorem dX1_permute_42 : decode cX1_permute 42 = .ok (.iadd, 1) := by decide +kernel
theorem dX1_permute_43 : decode cX1_permute 43 = .ok (.laload, 1) := by decide +kernel
theorem dX1_permute_44 : decode cX1_permute 44 = .ok (.lxor, 1) := by decide +kernel
theorem dX1_permute_45 : decode cX1_permute 45 = .ok (.aload_n 0, 1) := by decide +kernel
theorem dX1_permute_46 : decode cX1_permute 46 = .ok (.getfield 7, 3) := by decide +kernel
theorem dX1_permute_49 : decode cX1_permute 49 = .ok (.iload_n 2, 1) := by decide +kernel
theorem dX1_permute_50 : decode cX1_permute 50 = .ok (.bipush 15, 2) := by decide +kernel
theorem dX1_permute_52 : decode cX1_permute 52 = .ok (.iadd, 1) := by decide +kernel
theorem dX1_permute_53 : decode cX1_permute 53 = .ok (.laload, 1) := by decide +kernel
theorem dX1_permute_54 : decode cX1_permute 54 = .ok (.lxor, 1) := by decide +kernel
theorem dX1_permute_55 : decode cX1_permute 55 = .ok (.aload_n 0, 1) := by decide +kernel
theorem dX1_permute_56 : decode cX1_permute 56 = .ok (.getfield 7, 3) := by decide +kernel
theorem dX1_permute_59 : decode cX1_permute 59 = .ok (.iload_n 2, 1) := by decide +kernel
theorem dX1_permute_60 : decode cX1_permute 60 = .ok (.bipush 20, 2) := by decide +kernel
theorem dX1_permute_62 : decode cX1_permute 62 = .ok (.iadd, 1) := by decide +kernel
theorem dX1_permute_63 : decode cX1_permute 63 = .ok (.laload, 1) := by decide +kernel
theorem dX1_permute_64 : decode cX1_permute 64 = .ok (.lxor, 1) := by decide +kernel
theorem dX1_permute_65 : decode cX1_permute 65 = .ok (.lastore, 1) := by decide +kernel
theorem dX1_permute_66 : decode cX1_permute 66 = .ok (.iinc 2 1, 3) := by decide +kernel
theorem dX1_permute_69 : decode cX1_permute 69 = .ok (.goto (-59), 3) := by decide +kernel
theorem dX1_permute_72 : decode cX1_permute 72 = .ok (.iconst 0, 1) := by decide +kernel
theorem dX1_permute_73 : decode cX1_permute 73 = .ok (.istore_n 2, 1) := by decide +kernel
theorem dX1_permute_74 : decode cX1_permute 74 = .ok (.iload_n 2, 1) := by decide +kernel
theorem dX1_permute_75 : decode cX1_permute 75 = .ok (.iconst 5, 1) := by decide +kernel
theorem dX1_permute_76 : decode cX1_permute 76 = .ok (.if_icmp .ge 64, 3) := by decide +kernel
theorem dX1_permute_79 : decode cX1_permute 79 = .ok (.aload_n 0, 1) := by decide +kernel
theorem dX1_permute_80 : decode cX1_permute 80 = .ok (.getfield 1, 3) := by decide +kernel
theorem dX1_permute_83 : decode cX1_permute 83 = .ok (.iload_n 2, 1) := by decide +kernel
theorem dX1_permute_84 : decode cX1_permute 84 = .ok (.iconst 4, 1) := by decide +kernel
theorem dX1_permute_85 : decode cX1_permute 85 = .ok (.iadd, 1) := by decide +kernel
theorem dX1_permute_86 : decode cX1_permute 86 = .ok (.iconst 5, 1) := by decide +kernel
theorem dX1_permute_87 : decode cX1_permute 87 = .ok (.irem, 1) := by decide +kernel
theorem dX1_permute_88 : decode cX1_permute 88 = .ok (.laload, 1) := by decide +kernel
theorem dX1_permute_89 : decode cX1_permute 89 = .ok (.aload_n 0, 1) := by decide +kernel
theorem dX1_permute_90 : decode cX1_permute 90 = .ok (.getfield 1, 3) := by decide +kernel
theorem dX1_permute_93 : decode cX1_permute 93 = .ok (.iload_n 2, 1) := by decide +kernel
theorem dX1_permute_94 : decode cX1_permute 94 = .ok (.iconst 1, 1) := by decide +kernel
theorem dX1_permute_95 : decode cX1_permute 95 = .ok (.iadd, 1) := by decide +kernel
theorem dX1_permute_96 : decode cX1_permute 96 = .ok (.iconst 5, 1) := by decide +kernel
theorem dX1_permute_97 : decode cX1_permute 97 = .ok (.irem, 1) := by decide +kernel
theorem dX1_permute_98 : decode cX1_permute 98 = .ok (.laload, 1) := by decide +kernel
theorem dX1_permute_99 : decode cX1_permute 99 = .ok (.iconst 1, 1) := by decide +kernel
theorem dX1_permute_100 : decode cX1_permute 100 = .ok (.invokestatic 10, 3) := by decide +kernel
theorem dX1_permute_103 : decode cX1_permute 103 = .ok (.lxor, 1) := by decide +kernel
theorem dX1_permute_104 : decode cX1_permute 104 = .ok (.lstore_n 3, 1) := by decide +kernel
theorem dX1_permute_105 : decode cX1_permute 105 = .ok (.iconst 0, 1) := by decide +kernel
theorem dX1_permute_106 : decode cX1_permute 106 = .ok (.istore 5, 2) := by decide +kernel
theorem dX1_permute_108 : decode cX1_permute 108 = .ok (.iload 5, 2) := by decide +kernel
theorem dX1_permute_110 : decode cX1_permute 110 = .ok (.bipush 25, 2) := by decide +kernel
theorem dX1_permute_112 : decode cX1_permute 112 = .ok (.if_icmp .ge 22, 3) := by decide +kernel
theorem dX1_permute_115 : decode cX1_permute 115 = .ok (.aload_n 0, 1) := by decide +kernel
theorem dX1_permute_116 : decode cX1_permute 116 = .ok (.getfield 7, 3) := by decide +kernel
theorem dX1_permute_119 : decode cX1_permute 119 = .ok (.iload 5, 2) := by decide +kernel
theorem dX1_permute_121 : decode cX1_permute 121 = .ok (.iload_n 2, 1) := by decide +kernel
theorem dX1_permute_122 : decode cX1_permute 122 = .ok (.iadd, 1) := by decide +kernel
theorem dX1_permute_123 : decode cX1_permute 123 = .ok (.dup2, 1) := by decide +kernel
theorem dX1_permute_124 : decode cX1_permute 124 = .ok (.laload, 1) := by decide +kernel
theorem dX1_permute_125 : decode cX1_permute 125 = .ok (.lload_n 3, 1) := by decide +kernel
theorem dX1_permute_126 : decode cX1_permute 126 = .ok (.lxor, 1) := by decide +kernel
theorem dX1_permute_127 : decode cX1_permute 127 = .ok (.lastore, 1) := by decide +kernel
theorem dX1_permute_128 : decode cX1_permute 128 = .ok (.iinc 5 5, 3) := by decide +kernel
theorem dX1_permute_131 : decode cX1_permute 131 = .ok (.goto (-23), 3) := by decide +kernel
theorem dX1_permute_134 : decode cX1_permute 134 = .ok (.iinc 2 1, 3) := by decide +kernel
theorem dX1_permute_137 : decode cX1_permute 137 = .ok (.goto (-63), 3) := by decide +kernel
theorem dX1_permute_140 : decode cX1_permute 140 = .ok (.aload_n 0, 1) := by decide +kernel
theorem dX1_permute_141 : decode cX1_permute 141 = .ok (.getfield 16, 3) := by decide +kernel
theorem dX1_permute_144 : decode cX1_permute 144 = .ok (.iconst 0, 1) := by decide +kernel
theorem dX1_permute_145 : decode cX1_permute 145 = .ok (.aload_n 0, 1) := by decide +kernel
theorem dX1_permute_146 : decode cX1_permute 146 = .ok (.getfield 7, 3) := by decide +kernel
theorem dX1_permute_149 : decode cX1_permute 149 = .ok (.iconst 0, 1) := by decide +kernel
theorem dX1_permute_150 : decode cX1_permute 150 = .ok (.laload, 1) := by decide +kernel
theorem dX1_permute_151 : decode cX1_permute 151 = .ok (.lastore, 1) := by decide +kernel
theorem dX1_permute_152 : decode cX1_permute 152 = .ok (.iconst 1, 1) := by decide +kernel
theorem dX1_permute_153 : decode cX1_permute 153 = .ok (.istore_n 2, 1) := by decide +kernel
theorem dX1_permute_154 : decode cX1_permute 154 = .ok (.iconst 0, 1) := by decide +kernel
theorem dX1_permute_155 : decode cX1_permute 155 = .ok (.istore_n 3, 1) := by decide +kernel
theorem dX1_permute_156 : decode cX1_permute 156 = .ok (.iconst 0, 1) := by decide +kernel
theorem dX1_permute_157 : decode cX1_permute 157 = .ok (.istore 4, 2) := by decide +kernel
theorem dX1_permute_159 : decode cX1_permute 159 = .ok (.iload 4, 2) := by decide +kernel
theorem dX1_permute_161 : decode cX1_permute 161 = .ok (.bipush 24, 2) := by decide +kernel
theorem dX1_permute_163 : decode cX1_permute 163 = .ok (.if_icmp .ge 63, 3) := by decide +kernel
theorem dX1_permute_166 : decode cX1_permute 166 = .ok (.iconst 2, 1) := by decide +kernel
theorem dX1_permute_167 : decode cX1_permute 167 = .ok (.iload_n 2, 1) := by decide +kernel
theorem dX1_permute_168 : decode cX1_permute 168 = .ok (.imul, 1) := by decide +kernel
theorem dX1_permute_169 : decode cX1_permute 169 = .ok (.iconst 3, 1) := by decide +kernel
theorem dX1_permute_170 : decode cX1_permute 170 = .ok (.iload_n 3, 1) := by decide +kernel
theorem dX1_permute_171 : decode cX1_permute 171 = .ok (.imul, 1) := by decide +kernel
theorem dX1_permute_172 : decode cX1_permute 172 = .ok (.iadd, 1) := by decide +kernel
theorem dX1_permute_173 : decode cX1_permute 173 = .ok (.iconst 5, 1) := by decide +kernel
theorem dX1_permute_174 : decode cX1_permute 174 = .ok (.irem, 1) := by decide +kernel
theorem dX1_permute_175 : decode cX1_permute 175 = .ok (.istore 5, 2) := by decide +kernel
theorem dX1_permute_177 : decode cX1_permute 177 = .ok (.aload_n 0, 1) := by decide +kernel
theorem dX1_permute_178 : decode cX1_permute 178 = .ok (.getfield 16, 3) := by decide +kernel
theorem dX1_permute_181 : decode cX1_permute 181 = .ok (.iconst 5, 1) := by decide +kernel
theorem dX1_permute_182 : decode cX1_permute 182 = .ok (.iload 5, 2) := by decide +kernel
theorem dX1_permute_184 : decode cX1_permute 184 = .ok (.imul, 1) := by decide +kernel
theorem dX1_permute_185 : decode cX1_permute 185 = .ok (.iload_n 3, 1) := by decide +kernel
theorem dX1_permute_186 : decode cX1_permute 186 = .ok (.iadd, 1) := by decide +kernel
theorem dX1_permute_187 : decode cX1_permute 187 = .ok (.aload_n 0, 1) := by decide +kernel
theorem dX1_permute_188 : decode cX1_permute 188 = .ok (.getfield 7, 3) := by decide +kernel
theorem dX1_permute_191 : decode cX1_permute 191 = .ok (.iconst 5, 1) := by decide +kernel
theorem dX1_permute_192 : decode cX1_permute 192 = .ok (.iload_n 3, 1) := by decide +kernel
theorem dX1_permute_193 : decode cX1_permute 193 = .ok (.imul, 1) := by decide +kernel
theorem dX1_permute_194 : decode cX1_permute 194 = .ok (.iload_n 2, 1) := by decide +kernel
theorem dX1_permute_195 : decode cX1_permute 195 = .ok (.iadd, 1) := by decide +kernel
theorem dX1_permute_196 : decode cX1_permute 196 = .ok (.laload, 1) := by decide +kernel
theorem dX1_permute_197 : decode cX1_permute 197 = .ok (.iload 4, 2) := by decide +kernel
theorem dX1_permute_199 : decode cX1_permute 199 = .ok (.iconst 1, 1) := by decide +kernel
theorem dX1_permute_200 : decode cX1_permute 200 = .ok (.iadd, 1) := by decide +kernel
theorem dX1_permute_201 : decode cX1_permute 201 = .ok (.iload 4, 2) := by decide +kernel
theorem dX1_permute_203 : decode cX1_permute 203 = .ok (.iconst 2, 1) := by decide +kernel
theorem dX1_permute_204 : decode cX1_permute 204 = .ok (.iadd, 1) := by decide +kernel
theorem dX1_permute_205 : decode cX1_permute 205 = .ok (.imul, 1) := by decide +kernel
theorem dX1_permute_206 : decode cX1_permute 206 = .ok (.iconst 2, 1) := by decide +kernel
theorem dX1_permute_207 : decode cX1_permute 207 = .ok (.idiv, 1) := by decide +kernel
theorem dX1_permute_208 : decode cX1_permute 208 = .ok (.bipush 64, 2) := by decide +kernel
theorem dX1_permute_210 : decode cX1_permute 210 = .ok (.irem, 1) := by decide +kernel
theorem dX1_permute_211 : decode cX1_permute 211 = .ok (.invokestatic 10, 3) := by decide +kernel
theorem dX1_permute_214 : decode cX1_permute 214 = .ok (.lastore, 1) := by decide +kernel
theorem dX1_permute_215 : decode cX1_permute 215 = .ok (.iload_n 3, 1) := by decide +kernel
theorem dX1_permute_216 : decode cX1_permute 216 = .ok (.istore_n 2, 1) := by decide +kernel
theorem dX1_permute_217 : decode cX1_permute 217 = .ok (.iload 5, 2) := by decide +kernel
theorem dX1_permute_219 : decode cX1_permute 219 = .ok (.istore_n 3, 1) := by decide +kernel
theorem dX1_permute_220 : decode cX1_permute 220 = .ok (.iinc 4 1, 3) := by decide +kernel
theorem dX1_permute_223 : decode cX1_permute 223 = .ok (.goto (-64), 3) := by decide +kernel
theorem dX1_permute_226 : decode cX1_permute 226 = .ok (.iconst 0, 1) := by decide +kernel
theorem dX1_permute_227 : decode cX1_permute 227 = .ok (.istore 4, 2) := by decide +kernel
theorem dX1_permute_229 : decode cX1_permute 229 = .ok (.iload 4, 2) := by decide +kernel
theorem dX1_permute_231 : decode cX1_permute 231 = .ok (.bipush 25, 2) := by decide +kernel
theorem dX1_permute_233 : decode cX1_permute 233 = .ok (.if_icmp .ge 78, 3) := by decide +kernel
theorem dX1_permute_236 : decode cX1_permute 236 = .ok (.iconst 0, 1) := by decide +kernel
theorem dX1_permute_237 : decode cX1_permute 237 = .ok (.istore 5, 2) := by decide +kernel
theorem dX1_permute_239 : decode cX1_permute 239 = .ok (.iload 5, 2) := by decide +kernel
theorem dX1_permute_241 : decode cX1_permute 241 = .ok (.iconst 5, 1) := by decide +kernel
theorem dX1_permute_242 : decode cX1_permute 242 = .ok (.if_icmp .ge 63, 3) := by decide +kernel
theorem dX1_permute_245 : decode cX1_permute 245 = .ok (.aload_n 0, 1) := by decide +kernel
theorem dX1_permute_246 : decode cX1_permute 246 = .ok (.getfield 7, 3) := by decide +kernel
theorem dX1_permute_249 : decode cX1_permute 249 = .ok (.iload 4, 2) := by decide +kernel
theorem dX1_permute_251 : decode cX1_permute 251 = .ok (.iload 5, 2) := by decide +kernel
theorem dX1_permute_253 : decode cX1_permute 253 = .ok (.iadd, 1) := by decide +kernel
theorem dX1_permute_254 : decode cX1_permute 254 = .ok (.aload_n 0, 1) := by decide +kernel
theorem dX1_permute_255 : decode cX1_permute 255 = .ok (.getfield 16, 3) := by decide +kernel
theorem dX1_permute_258 : decode cX1_permute 258 = .ok (.iload 4, 2) := by decide +kernel
theorem dX1_permute_260 : decode cX1_permute 260 = .ok (.iload 5, 2) := by decide +kernel
theorem dX1_permute_262 : decode cX1_permute 262 = .ok (.iadd, 1) := by decide +kernel
theorem dX1_permute_263 : decode cX1_permute 263 = .ok (.laload, 1) := by decide +kernel
theorem dX1_permute_264 : decode cX1_permute 264 = .ok (.aload_n 0, 1) := by decide +kernel
theorem dX1_permute_265 : decode cX1_permute 265 = .ok (.getfield 16, 3) := by decide +kernel
theorem dX1_permute_268 : decode cX1_permute 268 = .ok (.iload 4, 2) := by decide +kernel
theorem dX1_permute_270 : decode cX1_permute 270 = .ok (.iload 5, 2) := by decide +kernel
theorem dX1_permute_272 : decode cX1_permute 272 = .ok (.iconst 1, 1) := by decide +kernel
theorem dX1_permute_273 : decode cX1_permute 273 = .ok (.iadd, 1) := by decide +kernel
theorem dX1_permute_274 : decode cX1_permute 274 = .ok (.iconst 5, 1) := by decide +kernel
theorem dX1_permute_275 : decode cX1_permute 275 = .ok (.irem, 1) := by decide +kernel
theorem dX1_permute_276 : decode cX1_permute 276 = .ok (.iadd, 1) := by decide +kernel
theorem dX1_permute_277 : decode cX1_permute 277 = .ok (.laload, 1) := by decide +kernel
theorem dX1_permute_278 : decode cX1_permute 278 = .ok (.ldc2_w 19, 3) := by decide +kernel
theorem dX1_permute_281 : decode cX1_permute 281 = .ok (.lxor, 1) := by decide +kernel
theorem dX1_permute_282 : decode cX1_permute 282 = .ok (.aload_n 0, 1) := by decide +kernel
theorem dX1_permute_283 : decode cX1_permute 283 = .ok (.getfield 16, 3) := by decide +kernel
theorem dX1_permute_286 : decode cX1_permute 286 = .ok (.iload 4, 2) := by decide +kernel
theorem dX1_permute_288 : decode cX1_permute 288 = .ok (.iload 5, 2) := by decide +kernel
theorem dX1_permute_290 : decode cX1_permute 290 = .ok (.iconst 2, 1) := by decide +kernel
theorem dX1_permute_291 : decode cX1_permute 291 = .ok (.iadd, 1) := by decide +kernel
theorem dX1_permute_292 : decode cX1_permute 292 = .ok (.iconst 5, 1) := by decide +kernel
theorem dX1_permute_293 : decode cX1_permute 293 = .ok (.irem, 1) := by decide +kernel
theorem dX1_permute_294 : decode cX1_permute 294 = .ok (.iadd, 1) := by decide +kernel
theorem dX1_permute_295 : decode cX1_permute 295 = .ok (.laload, 1) := by decide +kernel
theorem dX1_permute_296 : decode cX1_permute 296 = .ok (.land, 1) := by decide +kernel
theorem dX1_permute_297 : decode cX1_permute 297 = .ok (.lxor, 1) := by decide +kernel
theorem dX1_permute_298 : decode cX1_permute 298 = .ok (.lastore, 1) := by decide +kernel
theorem dX1_permute_299 : decode cX1_permute 299 = .ok (.iinc 5 1, 3) := by decide +kernel
theorem dX1_permute_302 : decode cX1_permute 302 = .ok (.goto (-63), 3) := by decide +kernel
theorem dX1_permute_305 : decode cX1_permute 305 = .ok (.iinc 4 5, 3) := by decide +kernel
theorem dX1_permute_308 : decode cX1_permute 308 = .ok (.goto (-79), 3) := by decide +kernel
theorem dX1_permute_311 : decode cX1_permute 311 = .ok (.aload_n 0, 1) := by decide +kernel
theorem dX1_permute_312 : decode cX1_permute 312 = .ok (.getfield 7, 3) := by decide +kernel
theorem dX1_permute_315 : decode cX1_permute 315 = .ok (.iconst 0, 1) := by decide +kernel
theorem dX1_permute_316 : decode cX1_permute 316 = .ok (.dup2, 1) := by decide +kernel
theorem dX1_permute_317 : decode cX1_permute 317 = .ok (.laload, 1) := by decide +kernel
theorem dX1_permute_318 : decode cX1_permute 318 = .ok (.aload_n 0, 1) := by decide +kernel
theorem dX1_permute_319 : decode cX1_permute 319 = .ok (.getfield 21, 3) := by decide +kernel
theorem dX1_permute_322 : decode cX1_permute 322 = .ok (.iload_n 1, 1) := by decide +kernel
theorem dX1_permute_323 : decode cX1_permute 323 = .ok (.laload, 1) := by decide +kernel
theorem dX1_permute_324 : decode cX1_permute 324 = .ok (.lxor, 1) := by decide +kernel
theorem dX1_permute_325 : decode cX1_permute 325 = .ok (.lastore, 1) := by decide +kernel
theorem dX1_permute_326 : decode cX1_permute 326 = .ok (.iinc 1 1, 3) := by decide +kernel
theorem dX1_permute_329 : decode cX1_permute 329 = .ok (.goto (-327), 3) := by decide +kernel
theorem dX1_permute_332 : decode cX1_permute 332 = .ok (.return_, 1) := by decide +kernel
theorem dX1_fail_0 : decode cX1_fail 0 = .ok (.aload_n 0, 1) := by decide +kernel
theorem dX1_fail_1 : decode cX1_fail 1 = .ok (.iload_n 1, 1) := by decide +kernel
theorem dX1_fail_2 : decode cX1_fail 2 = .ok (.putfield 43, 3) := by decide +kernel
theorem dX1_fail_5 : decode cX1_fail 5 = .ok (.iconst 0, 1) := by decide +kernel
theorem dX1_fail_6 : decode cX1_fail 6 = .ok (.ireturn, 1) := by decide +kernel
theorem dX1_out_0 : decode cX1_out 0 = .ok (.iload_n 1, 1) := by decide +kernel
theorem dX1_out_1 : decode cX1_out 1 = .ok (.ifCond .lt 9, 3) := by decide +kernel
theorem dX1_out_4 : decode cX1_out 4 = .ok (.iload_n 1, 1) := by decide +kernel
theorem dX1_out_5 : decode cX1_out 5 = .ok (.bipush 7, 2) := by decide +kernel
theorem dX1_out_7 : decode cX1_out 7 = .ok (.if_icmp .le 7, 3) := by decide +kernel
theorem dX1_out_10 : decode cX1_out 10 = .ok (.iconst 1, 1) := by decide +kernel
theorem dX1_out_11 : decode cX1_out 11 = .ok (.goto 4, 3) := by decide +kernel
theorem dX1_out_14 : decode cX1_out 14 = .ok (.iconst 0, 1) := by decide +kernel
theorem dX1_out_15 : decode cX1_out 15 = .ok (.ireturn, 1) := by decide +kernel
theorem dX1_get_0 : decode cX1_get 0 = .ok (.iconst 0, 1) := by decide +kernel
theorem dX1_get_1 : decode cX1_get 1 = .ok (.istore_n 2, 1) := by decide +kernel
theorem dX1_get_2 : decode cX1_get 2 = .ok (.iload_n 2, 1) := by decide +kernel
theorem dX1_get_3 : decode cX1_get 3 = .ok (.bipush 25, 2) := by decide +kernel
theorem dX1_get_5 : decode cX1_get 5 = .ok (.if_icmp .ge 23, 3) := by decide +kernel
theorem dX1_get_8 : decode cX1_get 8 = .ok (.aload_n 0, 1) := by decide +kernel
theorem dX1_get_9 : decode cX1_get 9 = .ok (.getfield 7, 3) := by decide +kernel
theorem dX1_get_12 : decode cX1_get 12 = .ok (.iload_n 2, 1) := by decide +kernel
theorem dX1_get_13 : decode cX1_get 13 = .ok (.aload_n 0, 1) := by decide +kernel
theorem dX1_get_14 : decode cX1_get 14 = .ok (.getfield 32, 3) := by decide +kernel
theorem dX1_get_17 : decode cX1_get 17 = .ok (.iload_n 1, 1) := by decide +kernel
theorem dX1_get_18 : decode cX1_get 18 = .ok (.aaload, 1) := by decide +kernel
theorem dX1_get_19 : decode cX1_get 19 = .ok (.iload_n 2, 1) := by decide +kernel
theorem dX1_get_20 : decode cX1_get 20 = .ok (.laload, 1) := by decide +kernel
theorem dX1_get_21 : decode cX1_get 21 = .ok (.lastore, 1) := by decide +kernel
theorem dX1_get_22 : decode cX1_get 22 = .ok (.iinc 2 1, 3) := by decide +kernel
theorem dX1_get_25 : decode cX1_get 25 = .ok (.goto (-23), 3) := by decide +kernel
theorem dX1_get_28 : decode cX1_get 28 = .ok (.return_, 1) := by decide +kernel
theorem dX1_put_0 : decode cX1_put 0 = .ok (.iconst 0, 1) := by decide +kernel
theorem dX1_put_1 : decode cX1_put 1 = .ok (.istore_n 2, 1) := by decide +kernel
theorem dX1_put_2 : decode cX1_put 2 = .ok (.iload_n 2, 1) := by decide +kernel
theorem dX1_put_3 : decode cX1_put 3 = .ok (.bipush 25, 2) := by decide +kernel
theorem dX1_put_5 : decode cX1_put 5 = .ok (.if_icmp .ge 23, 3) := by decide +kernel
theorem dX1_put_8 : decode cX1_put 8 = .ok (.aload_n 0, 1) := by decide +kernel
theorem dX1_put_9 : decode cX1_put 9 = .ok (.getfield 32, 3) := by decide +kernel
theorem dX1_put_12 : decode cX1_put 12 = .ok (.iload_n 1, 1) := by decide +kernel
theorem dX1_put_13 : decode cX1_put 13 = .ok (.aaload, 1) := by decide +kernel
theorem dX1_put_14 : decode cX1_put 14 = .ok (.iload_n 2, 1) := by decide +kernel
theorem dX1_put_15 : decode cX1_put 15 = .ok (.aload_n 0, 1) := by decide +kernel
theorem dX1_put_16 : decode cX1_put 16 = .ok (.getfield 7, 3) := by decide +kernel
theorem dX1_put_19 : decode cX1_put 19 = .ok (.iload_n 2, 1) := by decide +kernel
theorem dX1_put_20 : decode cX1_put 20 = .ok (.laload, 1) := by decide +kernel
theorem dX1_put_21 : decode cX1_put 21 = .ok (.lastore, 1) := by decide +kernel
theorem dX1_put_22 : decode cX1_put 22 = .ok (.iinc 2 1, 3) := by decide +kernel
theorem dX1_put_25 : decode cX1_put 25 = .ok (.goto (-23), 3) := by decide +kernel
theorem dX1_put_28 : decode cX1_put 28 = .ok (.return_, 1) := by decide +kernel
theorem dX1_taken_0 : decode cX1_taken 0 = .ok (.aload_n 0, 1) := by decide +kernel
theorem dX1_taken_1 : decode cX1_taken 1 = .ok (.getfield 35, 3) := by decide +kernel
theorem dX1_taken_4 : decode cX1_taken 4 = .ok (.iload_n 1, 1) := by decide +kernel
theorem dX1_taken_5 : decode cX1_taken 5 = .ok (.iaload, 1) := by decide +kernel
theorem dX1_taken_6 : decode cX1_taken 6 = .ok (.istore_n 3, 1) := by decide +kernel
theorem dX1_taken_7 : decode cX1_taken 7 = .ok (.aload_n 0, 1) := by decide +kernel
theorem dX1_taken_8 : decode cX1_taken 8 = .ok (.getfield 7, 3) := by decide +kernel
theorem dX1_taken_11 : decode cX1_taken 11 = .ok (.iload_n 3, 1) := by decide +kernel
theorem dX1_taken_12 : decode cX1_taken 12 = .ok (.bipush 8, 2) := by decide +kernel
theorem dX1_taken_14 : decode cX1_taken 14 = .ok (.idiv, 1) := by decide +kernel
theorem dX1_taken_15 : decode cX1_taken 15 = .ok (.dup2, 1) := by decide +kernel
theorem dX1_taken_16 : decode cX1_taken 16 = .ok (.laload, 1) := by decide +kernel
theorem dX1_taken_17 : decode cX1_taken 17 = .ok (.iload_n 2, 1) := by decide +kernel
theorem dX1_taken_18 : decode cX1_taken 18 = .ok (.sipush 255, 3) := by decide +kernel
theorem dX1_taken_21 : decode cX1_taken 21 = .ok (.iand, 1) := by decide +kernel
theorem dX1_taken_22 : decode cX1_taken 22 = .ok (.i2l, 1) := by decide +kernel
theorem dX1_taken_23 : decode cX1_taken 23 = .ok (.bipush 8, 2) := by decide +kernel
theorem dX1_taken_25 : decode cX1_taken 25 = .ok (.iload_n 3, 1) := by decide +kernel
theorem dX1_taken_26 : decode cX1_taken 26 = .ok (.bipush 8, 2) := by decide +kernel
theorem dX1_taken_28 : decode cX1_taken 28 = .ok (.irem, 1) := by decide +kernel
theorem dX1_taken_29 : decode cX1_taken 29 = .ok (.imul, 1) := by decide +kernel
theorem dX1_taken_30 : decode cX1_taken 30 = .ok (.lshl, 1) := by decide +kernel
theorem dX1_taken_31 : decode cX1_taken 31 = .ok (.lxor, 1) := by decide +kernel
theorem dX1_taken_32 : decode cX1_taken 32 = .ok (.lastore, 1) := by decide +kernel
theorem dX1_taken_33 : decode cX1_taken 33 = .ok (.aload_n 0, 1) := by decide +kernel
theorem dX1_taken_34 : decode cX1_taken 34 = .ok (.getfield 35, 3) := by decide +kernel
theorem dX1_taken_37 : decode cX1_taken 37 = .ok (.iload_n 1, 1) := by decide +kernel
theorem dX1_taken_38 : decode cX1_taken 38 = .ok (.dup2, 1) := by decide +kernel
theorem dX1_taken_39 : decode cX1_taken 39 = .ok (.iaload, 1) := by decide +kernel
theorem dX1_taken_40 : decode cX1_taken 40 = .ok (.iconst 1, 1) := by decide +kernel
theorem dX1_taken_41 : decode cX1_taken 41 = .ok (.iadd, 1) := by decide +kernel
theorem dX1_taken_42 : decode cX1_taken 42 = .ok (.iastore, 1) := by decide +kernel
theorem dX1_taken_43 : decode cX1_taken 43 = .ok (.aload_n 0, 1) := by decide +kernel
theorem dX1_taken_44 : decode cX1_taken 44 = .ok (.getfield 35, 3) := by decide +kernel
theorem dX1_taken_47 : decode cX1_taken 47 = .ok (.iload_n 1, 1) := by decide +kernel
theorem dX1_taken_48 : decode cX1_taken 48 = .ok (.iaload, 1) := by decide +kernel
theorem dX1_taken_49 : decode cX1_taken 49 = .ok (.sipush 136, 3) := by decide +kernel
theorem dX1_taken_52 : decode cX1_taken 52 = .ok (.if_icmp .ge 4, 3) := by decide +kernel
theorem dX1_taken_55 : decode cX1_taken 55 = .ok (.return_, 1) := by decide +kernel
theorem dX1_taken_56 : decode cX1_taken 56 = .ok (.aload_n 0, 1) := by decide +kernel
theorem dX1_taken_57 : decode cX1_taken 57 = .ok (.invokevirtual 51, 3) := by decide +kernel
theorem dX1_taken_60 : decode cX1_taken 60 = .ok (.aload_n 0, 1) := by decide +kernel
theorem dX1_taken_61 : decode cX1_taken 61 = .ok (.getfield 35, 3) := by decide +kernel
theorem dX1_taken_64 : decode cX1_taken 64 = .ok (.iload_n 1, 1) := by decide +kernel
theorem dX1_taken_65 : decode cX1_taken 65 = .ok (.iconst 0, 1) := by decide +kernel
theorem dX1_taken_66 : decode cX1_taken 66 = .ok (.iastore, 1) := by decide +kernel
theorem dX1_taken_67 : decode cX1_taken 67 = .ok (.return_, 1) := by decide +kernel
theorem dX1_take_0 : decode cX1_take 0 = .ok (.aload_n 0, 1) := by decide +kernel
theorem dX1_take_1 : decode cX1_take 1 = .ok (.iconst 0, 1) := by decide +kernel
theorem dX1_take_2 : decode cX1_take 2 = .ok (.putfield 43, 3) := by decide +kernel
theorem dX1_take_5 : decode cX1_take 5 = .ok (.aload_n 0, 1) := by decide +kernel
theorem dX1_take_6 : decode cX1_take 6 = .ok (.iload_n 1, 1) := by decide +kernel
theorem dX1_take_7 : decode cX1_take 7 = .ok (.invokevirtual 47, 3) := by decide +kernel
theorem dX1_take_10 : decode cX1_take 10 = .ok (.ifCond .ne 15, 3) := by decide +kernel
theorem dX1_take_13 : decode cX1_take 13 = .ok (.iload 4, 2) := by decide +kernel
theorem dX1_take_15 : decode cX1_take 15 = .ok (.ifCond .lt 10, 3) := by decide +kernel
theorem dX1_take_18 : decode cX1_take 18 = .ok (.iload 4, 2) := by decide +kernel
theorem dX1_take_20 : decode cX1_take 20 = .ok (.bipush 8, 2) := by decide +kernel
theorem dX1_take_22 : decode cX1_take 22 = .ok (.if_icmp .le 9, 3) := by decide +kernel
theorem dX1_take_25 : decode cX1_take 25 = .ok (.aload_n 0, 1) := by decide +kernel
theorem dX1_take_26 : decode cX1_take 26 = .ok (.iconst 1, 1) := by decide +kernel
theorem dX1_take_27 : decode cX1_take 27 = .ok (.invokevirtual 54, 3) := by decide +kernel
theorem dX1_take_30 : decode cX1_take 30 = .ok (.ireturn, 1) := by decide +kernel
theorem dX1_take_31 : decode cX1_take 31 = .ok (.aload_n 0, 1) := by decide +kernel
theorem dX1_take_32 : decode cX1_take 32 = .ok (.iload_n 1, 1) := by decide +kernel
theorem dX1_take_33 : decode cX1_take 33 = .ok (.invokevirtual 58, 3) := by decide +kernel
theorem dX1_take_36 : decode cX1_take 36 = .ok (.iconst 0, 1) := by decide +kernel
theorem dX1_take_37 : decode cX1_take 37 = .ok (.istore 5, 2) := by decide +kernel
theorem dX1_take_39 : decode cX1_take 39 = .ok (.iload 5, 2) := by decide +kernel
theorem dX1_take_41 : decode cX1_take 41 = .ok (.iload 4, 2) := by decide +kernel
theorem dX1_take_43 : decode cX1_take 43 = .ok (.if_icmp .ge 22, 3) := by decide +kernel
theorem dX1_take_46 : decode cX1_take 46 = .ok (.aload_n 0, 1) := by decide +kernel
theorem dX1_take_47 : decode cX1_take 47 = .ok (.iload_n 1, 1) := by decide +kernel
theorem dX1_take_48 : decode cX1_take 48 = .ok (.lload_n 2, 1) := by decide +kernel
theorem dX1_take_49 : decode cX1_take 49 = .ok (.bipush 8, 2) := by decide +kernel
theorem dX1_take_51 : decode cX1_take 51 = .ok (.iload 5, 2) := by decide +kernel
theorem dX1_take_53 : decode cX1_take 53 = .ok (.imul, 1) := by decide +kernel
theorem dX1_take_54 : decode cX1_take 54 = .ok (.lushr, 1) := by decide +kernel
theorem dX1_take_55 : decode cX1_take 55 = .ok (.l2i, 1) := by decide +kernel
theorem dX1_take_56 : decode cX1_take 56 = .ok (.invokevirtual 62, 3) := by decide +kernel
theorem dX1_take_59 : decode cX1_take 59 = .ok (.iinc 5 1, 3) := by decide +kernel
theorem dX1_take_62 : decode cX1_take 62 = .ok (.goto (-23), 3) := by decide +kernel
theorem dX1_take_65 : decode cX1_take 65 = .ok (.aload_n 0, 1) := by decide +kernel
theorem dX1_take_66 : decode cX1_take 66 = .ok (.iload_n 1, 1) := by decide +kernel
theorem dX1_take_67 : decode cX1_take 67 = .ok (.invokevirtual 66, 3) := by decide +kernel
theorem dX1_take_70 : decode cX1_take 70 = .ok (.aload_n 0, 1) := by decide +kernel
theorem dX1_take_71 : decode cX1_take 71 = .ok (.getfield 35, 3) := by decide +kernel
theorem dX1_take_74 : decode cX1_take 74 = .ok (.iload_n 1, 1) := by decide +kernel
theorem dX1_take_75 : decode cX1_take 75 = .ok (.iaload, 1) := by decide +kernel
theorem dX1_take_76 : decode cX1_take 76 = .ok (.ireturn, 1) := by decide +kernel
theorem dX1_fill_0 : decode cX1_fill 0 = .ok (.aload_n 0, 1) := by decide +kernel
theorem dX1_fill_1 : decode cX1_fill 1 = .ok (.iconst 0, 1) := by decide +kernel
theorem dX1_fill_2 : decode cX1_fill 2 = .ok (.putfield 43, 3) := by decide +kernel
theorem dX1_fill_5 : decode cX1_fill 5 = .ok (.aload_n 0, 1) := by decide +kernel
theorem dX1_fill_6 : decode cX1_fill 6 = .ok (.iload_n 1, 1) := by decide +kernel
theorem dX1_fill_7 : decode cX1_fill 7 = .ok (.invokevirtual 47, 3) := by decide +kernel
theorem dX1_fill_10 : decode cX1_fill 10 = .ok (.ifCond .ne 16, 3) := by decide +kernel
theorem dX1_fill_13 : decode cX1_fill 13 = .ok (.iload 4, 2) := by decide +kernel
theorem dX1_fill_15 : decode cX1_fill 15 = .ok (.ifCond .lt 11, 3) := by decide +kernel
theorem dX1_fill_18 : decode cX1_fill 18 = .ok (.iload 4, 2) := by decide +kernel
theorem dX1_fill_20 : decode cX1_fill 20 = .ok (.sipush 2000, 3) := by decide +kernel
theorem dX1_fill_23 : decode cX1_fill 23 = .ok (.if_icmp .le 9, 3) := by decide +kernel
theorem dX1_fill_26 : decode cX1_fill 26 = .ok (.aload_n 0, 1) := by decide +kernel
theorem dX1_fill_27 : decode cX1_fill 27 = .ok (.iconst 1, 1) := by decide +kernel
theorem dX1_fill_28 : decode cX1_fill 28 = .ok (.invokevirtual 54, 3) := by decide +kernel
theorem dX1_fill_31 : decode cX1_fill 31 = .ok (.ireturn, 1) := by decide +kernel
theorem dX1_fill_32 : decode cX1_fill 32 = .ok (.aload_n 0, 1) := by decide +kernel
theorem dX1_fill_33 : decode cX1_fill 33 = .ok (.iload_n 1, 1) := by decide +kernel
theorem dX1_fill_34 : decode cX1_fill 34 = .ok (.invokevirtual 58, 3) := by decide +kernel
theorem dX1_fill_37 : decode cX1_fill 37 = .ok (.iconst 0, 1) := by decide +kernel
theorem dX1_fill_38 : decode cX1_fill 38 = .ok (.istore 5, 2) := by decide +kernel
theorem dX1_fill_40 : decode cX1_fill 40 = .ok (.iload 5, 2) := by decide +kernel
theorem dX1_fill_42 : decode cX1_fill 42 = .ok (.iload 4, 2) := by decide +kernel
theorem dX1_fill_44 : decode cX1_fill 44 = .ok (.if_icmp .ge 20, 3) := by decide +kernel
theorem dX1_fill_47 : decode cX1_fill 47 = .ok (.aload_n 0, 1) := by decide +kernel
theorem dX1_fill_48 : decode cX1_fill 48 = .ok (.iload_n 1, 1) := by decide +kernel
theorem dX1_fill_49 : decode cX1_fill 49 = .ok (.iload_n 2, 1) := by decide +kernel
theorem dX1_fill_50 : decode cX1_fill 50 = .ok (.iload 5, 2) := by decide +kernel
theorem dX1_fill_52 : decode cX1_fill 52 = .ok (.iload_n 3, 1) := by decide +kernel
theorem dX1_fill_53 : decode cX1_fill 53 = .ok (.imul, 1) := by decide +kernel
theorem dX1_fill_54 : decode cX1_fill 54 = .ok (.iadd, 1) := by decide +kernel
theorem dX1_fill_55 : decode cX1_fill 55 = .ok (.invokevirtual 62, 3) := by decide +kernel
theorem dX1_fill_58 : decode cX1_fill 58 = .ok (.iinc 5 1, 3) := by decide +kernel
theorem dX1_fill_61 : decode cX1_fill 61 = .ok (.goto (-21), 3) := by decide +kernel
theorem dX1_fill_64 : decode cX1_fill 64 = .ok (.aload_n 0, 1) := by decide +kernel
theorem dX1_fill_65 : decode cX1_fill 65 = .ok (.iload_n 1, 1) := by decide +kernel
theorem dX1_fill_66 : decode cX1_fill 66 = .ok (.invokevirtual 66, 3) := by decide +kernel
theorem dX1_fill_69 : decode cX1_fill 69 = .ok (.aload_n 0, 1) := by decide +kernel
theorem dX1_fill_70 : decode cX1_fill 70 = .ok (.getfield 35, 3) := by decide +kernel
theorem dX1_fill_73 : decode cX1_fill 73 = .ok (.iload_n 1, 1) := by decide +kernel
theorem dX1_fill_74 : decode cX1_fill 74 = .ok (.iaload, 1) := by decide +kernel
theorem dX1_fill_75 : decode cX1_fill 75 = .ok (.ireturn, 1) := by decide +kernel
theorem dX1_copy_0 : decode cX1_copy 0 = .ok (.aload_n 0, 1) := by decide +kernel
theorem dX1_copy_1 : decode cX1_copy 1 = .ok (.iconst 0, 1) := by decide +kernel
theorem dX1_copy_2 : decode cX1_copy 2 = .ok (.putfield 43, 3) := by decide +kernel
theorem dX1_copy_5 : decode cX1_copy 5 = .ok (.aload_n 0, 1) := by decide +kernel
theorem dX1_copy_6 : decode cX1_copy 6 = .ok (.iload_n 1, 1) := by decide +kernel
theorem dX1_copy_7 : decode cX1_copy 7 = .ok (.invokevirtual 47, 3) := by decide +kernel
theorem dX1_copy_10 : decode cX1_copy 10 = .ok (.ifCond .ne 11, 3) := by decide +kernel
theorem dX1_copy_13 : decode cX1_copy 13 = .ok (.aload_n 0, 1) := by decide +kernel
theorem dX1_copy_14 : decode cX1_copy 14 = .ok (.iload_n 2, 1) := by decide +kernel
theorem dX1_copy_15 : decode cX1_copy 15 = .ok (.invokevirtual 47, 3) := by decide +kernel
theorem dX1_copy_18 : decode cX1_copy 18 = .ok (.ifCond .eq 11, 3) := by decide +kernel
theorem dX1_copy_21 : decode cX1_copy 21 = .ok (.aload_n 0, 1) := by decide +kernel
theorem dX1_copy_22 : decode cX1_copy 22 = .ok (.iconst 1, 1) := by decide +kernel
theorem dX1_copy_23 : decode cX1_copy 23 = .ok (.putfield 43, 3) := by decide +kernel
theorem dX1_copy_26 : decode cX1_copy 26 = .ok (.goto 25, 3) := by decide +kernel
theorem dX1_copy_29 : decode cX1_copy 29 = .ok (.aload_n 0, 1) := by decide +kernel
theorem dX1_copy_30 : decode cX1_copy 30 = .ok (.iload_n 1, 1) := by decide +kernel
theorem dX1_copy_31 : decode cX1_copy 31 = .ok (.invokevirtual 58, 3) := by decide +kernel
theorem dX1_copy_34 : decode cX1_copy 34 = .ok (.aload_n 0, 1) := by decide +kernel
theorem dX1_copy_35 : decode cX1_copy 35 = .ok (.iload_n 2, 1) := by decide +kernel
theorem dX1_copy_36 : decode cX1_copy 36 = .ok (.invokevirtual 66, 3) := by decide +kernel
theorem dX1_copy_39 : decode cX1_copy 39 = .ok (.aload_n 0, 1) := by decide +kernel
theorem dX1_copy_40 : decode cX1_copy 40 = .ok (.getfield 35, 3) := by decide +kernel
theorem dX1_copy_43 : decode cX1_copy 43 = .ok (.iload_n 2, 1) := by decide +kernel
theorem dX1_copy_44 : decode cX1_copy 44 = .ok (.aload_n 0, 1) := by decide +kernel
theorem dX1_copy_45 : decode cX1_copy 45 = .ok (.getfield 35, 3) := by decide +kernel
theorem dX1_copy_48 : decode cX1_copy 48 = .ok (.iload_n 1, 1) := by decide +kernel
theorem dX1_copy_49 : decode cX1_copy 49 = .ok (.iaload, 1) := by decide +kernel
theorem dX1_copy_50 : decode cX1_copy 50 = .ok (.iastore, 1) := by decide +kernel
theorem dX1_copy_51 : decode cX1_copy 51 = .ok (.return_, 1) := by decide +kernel
theorem dX1_mix_0 : decode cX1_mix 0 = .ok (.aload_n 0, 1) := by decide +kernel
theorem dX1_mix_1 : decode cX1_mix 1 = .ok (.iconst 0, 1) := by decide +kernel
theorem dX1_mix_2 : decode cX1_mix 2 = .ok (.putfield 43, 3) := by decide +kernel
theorem dX1_mix_5 : decode cX1_mix 5 = .ok (.aload_n 0, 1) := by decide +kernel
theorem dX1_mix_6 : decode cX1_mix 6 = .ok (.iload_n 1, 1) := by decide +kernel
theorem dX1_mix_7 : decode cX1_mix 7 = .ok (.invokevirtual 47, 3) := by decide +kernel
theorem dX1_mix_10 : decode cX1_mix 10 = .ok (.ifCond .eq 11, 3) := by decide +kernel
theorem dX1_mix_13 : decode cX1_mix 13 = .ok (.aload_n 0, 1) := by decide +kernel
theorem dX1_mix_14 : decode cX1_mix 14 = .ok (.iconst 1, 1) := by decide +kernel
theorem dX1_mix_15 : decode cX1_mix 15 = .ok (.putfield 43, 3) := by decide +kernel
theorem dX1_mix_18 : decode cX1_mix 18 = .ok (.goto 17, 3) := by decide +kernel
theorem dX1_mix_21 : decode cX1_mix 21 = .ok (.aload_n 0, 1) := by decide +kernel
theorem dX1_mix_22 : decode cX1_mix 22 = .ok (.iload_n 1, 1) := by decide +kernel
theorem dX1_mix_23 : decode cX1_mix 23 = .ok (.invokevirtual 58, 3) := by decide +kernel
theorem dX1_mix_26 : decode cX1_mix 26 = .ok (.aload_n 0, 1) := by decide +kernel
theorem dX1_mix_27 : decode cX1_mix 27 = .ok (.invokevirtual 51, 3) := by decide +kernel
theorem dX1_mix_30 : decode cX1_mix 30 = .ok (.aload_n 0, 1) := by decide +kernel
theorem dX1_mix_31 : decode cX1_mix 31 = .ok (.iload_n 1, 1) := by decide +kernel
theorem dX1_mix_32 : decode cX1_mix 32 = .ok (.invokevirtual 66, 3) := by decide +kernel
theorem dX1_mix_35 : decode cX1_mix 35 = .ok (.return_, 1) := by decide +kernel
theorem dX1_lane_0 : decode cX1_lane 0 = .ok (.aload_n 0, 1) := by decide +kernel
theorem dX1_lane_1 : decode cX1_lane 1 = .ok (.iconst 0, 1) := by decide +kernel
theorem dX1_lane_2 : decode cX1_lane 2 = .ok (.putfield 43, 3) := by decide +kernel
theorem dX1_lane_5 : decode cX1_lane 5 = .ok (.aload_n 0, 1) := by decide +kernel
theorem dX1_lane_6 : decode cX1_lane 6 = .ok (.iload_n 1, 1) := by decide +kernel
theorem dX1_lane_7 : decode cX1_lane 7 = .ok (.invokevirtual 47, 3) := by decide +kernel
theorem dX1_lane_10 : decode cX1_lane 10 = .ok (.ifCond .ne 13, 3) := by decide +kernel
theorem dX1_lane_13 : decode cX1_lane 13 = .ok (.iload_n 2, 1) := by decide +kernel
theorem dX1_lane_14 : decode cX1_lane 14 = .ok (.ifCond .lt 9, 3) := by decide +kernel
theorem dX1_lane_17 : decode cX1_lane 17 = .ok (.iload_n 2, 1) := by decide +kernel
theorem dX1_lane_18 : decode cX1_lane 18 = .ok (.bipush 24, 2) := by decide +kernel
theorem dX1_lane_20 : decode cX1_lane 20 = .ok (.if_icmp .le 12, 3) := by decide +kernel
theorem dX1_lane_23 : decode cX1_lane 23 = .ok (.aload_n 0, 1) := by decide +kernel
theorem dX1_lane_24 : decode cX1_lane 24 = .ok (.iconst 1, 1) := by decide +kernel
theorem dX1_lane_25 : decode cX1_lane 25 = .ok (.invokevirtual 54, 3) := by decide +kernel
theorem dX1_lane_28 : decode cX1_lane 28 = .ok (.i2l, 1) := by decide +kernel
theorem dX1_lane_29 : decode cX1_lane 29 = .ok (.goto 11, 3) := by decide +kernel
theorem dX1_lane_32 : decode cX1_lane 32 = .ok (.aload_n 0, 1) := by decide +kernel
theorem dX1_lane_33 : decode cX1_lane 33 = .ok (.getfield 32, 3) := by decide +kernel
theorem dX1_lane_36 : decode cX1_lane 36 = .ok (.iload_n 1, 1) := by decide +kernel
theorem dX1_lane_37 : decode cX1_lane 37 = .ok (.aaload, 1) := by decide +kernel
theorem dX1_lane_38 : decode cX1_lane 38 = .ok (.iload_n 2, 1) := by decide +kernel
theorem dX1_lane_39 : decode cX1_lane 39 = .ok (.laload, 1) := by decide +kernel
theorem dX1_lane_40 : decode cX1_lane 40 = .ok (.lreturn, 1) := by decide +kernel
theorem dX1_digest_0 : decode cX1_digest 0 = .ok (.aload_n 0, 1) := by decide +kernel
theorem dX1_digest_1 : decode cX1_digest 1 = .ok (.iconst 0, 1) := by decide +kernel
theorem dX1_digest_2 : decode cX1_digest 2 = .ok (.putfield 43, 3) := by decide +kernel
theorem dX1_digest_5 : decode cX1_digest 5 = .ok (.aload_n 0, 1) := by decide +kernel
theorem dX1_digest_6 : decode cX1_digest 6 = .ok (.iload_n 1, 1) := by decide +kernel
theorem dX1_digest_7 : decode cX1_digest 7 = .ok (.invokevirtual 47, 3) := by decide +kernel
theorem dX1_digest_10 : decode cX1_digest 10 = .ok (.ifCond .ne 12, 3) := by decide +kernel
theorem dX1_digest_13 : decode cX1_digest 13 = .ok (.iload_n 2, 1) := by decide +kernel
theorem dX1_digest_14 : decode cX1_digest 14 = .ok (.ifCond .lt 8, 3) := by decide +kernel
theorem dX1_digest_17 : decode cX1_digest 17 = .ok (.iload_n 2, 1) := by decide +kernel
theorem dX1_digest_18 : decode cX1_digest 18 = .ok (.iconst 3, 1) := by decide +kernel
theorem dX1_digest_19 : decode cX1_digest 19 = .ok (.if_icmp .le 10, 3) := by decide +kernel
theorem dX1_digest_22 : decode cX1_digest 22 = .ok (.aload_n 0, 1) := by decide +kernel
theorem dX1_digest_23 : decode cX1_digest 23 = .ok (.iconst 1, 1) := by decide +kernel
theorem dX1_digest_24 : decode cX1_digest 24 = .ok (.invokevirtual 54, 3) := by decide +kernel
theorem dX1_digest_27 : decode cX1_digest 27 = .ok (.i2l, 1) := by decide +kernel
theorem dX1_digest_28 : decode cX1_digest 28 = .ok (.lreturn, 1) := by decide +kernel
theorem dX1_digest_29 : decode cX1_digest 29 = .ok (.aload_n 0, 1) := by decide +kernel
theorem dX1_digest_30 : decode cX1_digest 30 = .ok (.iload_n 1, 1) := by decide +kernel
theorem dX1_digest_31 : decode cX1_digest 31 = .ok (.invokevirtual 58, 3) := by decide +kernel
theorem dX1_digest_34 : decode cX1_digest 34 = .ok (.aload_n 0, 1) := by decide +kernel
theorem dX1_digest_35 : decode cX1_digest 35 = .ok (.getfield 35, 3) := by decide +kernel
theorem dX1_digest_38 : decode cX1_digest 38 = .ok (.iload_n 1, 1) := by decide +kernel
theorem dX1_digest_39 : decode cX1_digest 39 = .ok (.iaload, 1) := by decide +kernel
theorem dX1_digest_40 : decode cX1_digest 40 = .ok (.istore_n 3, 1) := by decide +kernel
theorem dX1_digest_41 : decode cX1_digest 41 = .ok (.aload_n 0, 1) := by decide +kernel
theorem dX1_digest_42 : decode cX1_digest 42 = .ok (.getfield 7, 3) := by decide +kernel
theorem dX1_digest_45 : decode cX1_digest 45 = .ok (.iload_n 3, 1) := by decide +kernel
theorem dX1_digest_46 : decode cX1_digest 46 = .ok (.bipush 8, 2) := by decide +kernel
theorem dX1_digest_48 : decode cX1_digest 48 = .ok (.idiv, 1) := by decide +kernel
theorem dX1_digest_49 : decode cX1_digest 49 = .ok (.dup2, 1) := by decide +kernel
theorem dX1_digest_50 : decode cX1_digest 50 = .ok (.laload, 1) := by decide +kernel
theorem dX1_digest_51 : decode cX1_digest 51 = .ok (.lconst 1, 1) := by decide +kernel
theorem dX1_digest_52 : decode cX1_digest 52 = .ok (.bipush 8, 2) := by decide +kernel
theorem dX1_digest_54 : decode cX1_digest 54 = .ok (.iload_n 3, 1) := by decide +kernel
theorem dX1_digest_55 : decode cX1_digest 55 = .ok (.bipush 8, 2) := by decide +kernel
theorem dX1_digest_57 : decode cX1_digest 57 = .ok (.irem, 1) := by decide +kernel
theorem dX1_digest_58 : decode cX1_digest 58 = .ok (.imul, 1) := by decide +kernel
theorem dX1_digest_59 : decode cX1_digest 59 = .ok (.lshl, 1) := by decide +kernel
theorem dX1_digest_60 : decode cX1_digest 60 = .ok (.lxor, 1) := by decide +kernel
theorem dX1_digest_61 : decode cX1_digest 61 = .ok (.lastore, 1) := by decide +kernel
theorem dX1_digest_62 : decode cX1_digest 62 = .ok (.aload_n 0, 1) := by decide +kernel
theorem dX1_digest_63 : decode cX1_digest 63 = .ok (.getfield 7, 3) := by decide +kernel
theorem dX1_digest_66 : decode cX1_digest 66 = .ok (.bipush 16, 2) := by decide +kernel
theorem dX1_digest_68 : decode cX1_digest 68 = .ok (.dup2, 1) := by decide +kernel
theorem dX1_digest_69 : decode cX1_digest 69 = .ok (.laload, 1) := by decide +kernel
theorem dX1_digest_70 : decode cX1_digest 70 = .ok (.ldc2_w 69, 3) := by decide +kernel
theorem dX1_digest_73 : decode cX1_digest 73 = .ok (.lxor, 1) := by decide +kernel
theorem dX1_digest_74 : decode cX1_digest 74 = .ok (.lastore, 1) := by decide +kernel
theorem dX1_digest_75 : decode cX1_digest 75 = .ok (.aload_n 0, 1) := by decide +kernel
theorem dX1_digest_76 : decode cX1_digest 76 = .ok (.invokevirtual 51, 3) := by decide +kernel
theorem dX1_digest_79 : decode cX1_digest 79 = .ok (.lconst 0, 1) := by decide +kernel
theorem dX1_digest_80 : decode cX1_digest 80 = .ok (.lstore 4, 2) := by decide +kernel
theorem dX1_digest_82 : decode cX1_digest 82 = .ok (.iconst 0, 1) := by decide +kernel
theorem dX1_digest_83 : decode cX1_digest 83 = .ok (.istore 6, 2) := by decide +kernel
theorem dX1_digest_85 : decode cX1_digest 85 = .ok (.iload 6, 2) := by decide +kernel
theorem dX1_digest_87 : decode cX1_digest 87 = .ok (.bipush 8, 2) := by decide +kernel
theorem dX1_digest_89 : decode cX1_digest 89 = .ok (.if_icmp .ge 33, 3) := by decide +kernel
theorem dX1_digest_92 : decode cX1_digest 92 = .ok (.lload 4, 2) := by decide +kernel
theorem dX1_digest_94 : decode cX1_digest 94 = .ok (.bipush 8, 2) := by decide +kernel
theorem dX1_digest_96 : decode cX1_digest 96 = .ok (.lshl, 1) := by decide +kernel
theorem dX1_digest_97 : decode cX1_digest 97 = .ok (.aload_n 0, 1) := by decide +kernel
theorem dX1_digest_98 : decode cX1_digest 98 = .ok (.getfield 7, 3) := by decide +kernel
theorem dX1_digest_101 : decode cX1_digest 101 = .ok (.iload_n 2, 1) := by decide +kernel
theorem dX1_digest_102 : decode cX1_digest 102 = .ok (.laload, 1) := by decide +kernel
theorem dX1_digest_103 : decode cX1_digest 103 = .ok (.bipush 8, 2) := by decide +kernel
theorem dX1_digest_105 : decode cX1_digest 105 = .ok (.iload 6, 2) := by decide +kernel
theorem dX1_digest_107 : decode cX1_digest 107 = .ok (.imul, 1) := by decide +kernel
theorem dX1_digest_108 : decode cX1_digest 108 = .ok (.lushr, 1) := by decide +kernel
theorem dX1_digest_109 : decode cX1_digest 109 = .ok (.ldc2_w 71, 3) := by decide +kernel
theorem dX1_digest_112 : decode cX1_digest 112 = .ok (.land, 1) := by decide +kernel
theorem dX1_digest_113 : decode cX1_digest 113 = .ok (.lor, 1) := by decide +kernel
theorem dX1_digest_114 : decode cX1_digest 114 = .ok (.lstore 4, 2) := by decide +kernel
theorem dX1_digest_116 : decode cX1_digest 116 = .ok (.iinc 6 1, 3) := by decide +kernel
theorem dX1_digest_119 : decode cX1_digest 119 = .ok (.goto (-34), 3) := by decide +kernel
theorem dX1_digest_122 : decode cX1_digest 122 = .ok (.lload 4, 2) := by decide +kernel
theorem dX1_digest_124 : decode cX1_digest 124 = .ok (.lreturn, 1) := by decide +kernel
theorem dJ_rot_0 : decode cJ_rot 0 = .ok (.lload_n 0, 1) := by decide +kernel
theorem dJ_rot_1 : decode cJ_rot 1 = .ok (.iload_n 2, 1) := by decide +kernel
theorem dJ_rot_2 : decode cJ_rot 2 = .ok (.lshl, 1) := by decide +kernel
theorem dJ_rot_3 : decode cJ_rot 3 = .ok (.lload_n 0, 1) := by decide +kernel
theorem dJ_rot_4 : decode cJ_rot 4 = .ok (.iload_n 2, 1) := by decide +kernel
theorem dJ_rot_5 : decode cJ_rot 5 = .ok (.ineg, 1) := by decide +kernel
theorem dJ_rot_6 : decode cJ_rot 6 = .ok (.lushr, 1) := by decide +kernel
theorem dJ_rot_7 : decode cJ_rot 7 = .ok (.lor, 1) := by decide +kernel
theorem dJ_rot_8 : decode cJ_rot 8 = .ok (.lreturn, 1) := by decide +kernel
