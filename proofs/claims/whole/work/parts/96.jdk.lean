theorem knJ0 : (.initialized "java/lang/String" : Cond) ∈ TB := TB_mem 95 (by decide +kernel) (by decide +kernel)
theorem knJ1 : (.initialized "java/lang/StringLatin1" : Cond) ∈ TB := TB_mem 100 (by decide +kernel) (by decide +kernel)
theorem knJ3 : (.initialized "jdk/internal/util/Preconditions" : Cond) ∈ TB := TB_mem 102 (by decide +kernel) (by decide +kernel)
def yJ0_length_8abf5 : MethodName := ⟨"java/lang/String", "length", "()I"⟩
abbrev cJ0_length_8abf5 : ByteArray := prog_18_method_54_code
theorem dJ0_length_8abf5_0 : decode cJ0_length_8abf5 0 = .ok (.aload_n 0, 1) := by decide +kernel
theorem dJ0_length_8abf5_1 : decode cJ0_length_8abf5 1 = .ok (.getfield 9, 3) := by decide +kernel
theorem dJ0_length_8abf5_4 : decode cJ0_length_8abf5 4 = .ok (.arraylength, 1) := by decide +kernel
theorem dJ0_length_8abf5_5 : decode cJ0_length_8abf5 5 = .ok (.aload_n 0, 1) := by decide +kernel
theorem dJ0_length_8abf5_6 : decode cJ0_length_8abf5 6 = .ok (.invokevirtual 335, 3) := by decide +kernel
theorem dJ0_length_8abf5_9 : decode cJ0_length_8abf5 9 = .ok (.ishr, 1) := by decide +kernel
theorem dJ0_length_8abf5_10 : decode cJ0_length_8abf5 10 = .ok (.ireturn, 1) := by decide +kernel
theorem kcJ0_length_8abf5 : (.code yJ0_length_8abf5 cJ0_length_8abf5 1 (some .int) : Cond) ∈ TB := TB_mem 357 (by decide +kernel) (by decide +kernel)
theorem kiJ0_length_8abf5 : (.instanceMethod yJ0_length_8abf5 : Cond) ∈ TB := TB_mem 355 (by decide +kernel) (by decide +kernel)
theorem kvJ0_length_8abf5 : (.selects "java/lang/String" yJ0_length_8abf5 yJ0_length_8abf5 : Cond) ∈ TB := TB_mem 356 (by decide +kernel) (by decide +kernel)
def mJ0_length_8abf5 (R : Room) : MI := (yJ0_length_8abf5, cJ0_length_8abf5, 1, (some .int), R)
theorem mvJ0_length_8abf5 (R : Room) : MV (mJ0_length_8abf5 R) 0 := ⟨knJ0, kcJ0_length_8abf5, (by decide +kernel : yJ0_length_8abf5.cls ≠ "java/lang/invoke/MethodHandle" ∧ yJ0_length_8abf5.cls ≠ "java/lang/invoke/VarHandle" ∧ (parseMethodDescriptor yJ0_length_8abf5.desc).map (fun d => d.parameters.length) = some 0)⟩
def yJ0_charAt_5068e : MethodName := ⟨"java/lang/String", "charAt", "(I)C"⟩
abbrev cJ0_charAt_5068e : ByteArray := prog_18_method_56_code
theorem dJ0_charAt_5068e_0 : decode cJ0_charAt_5068e 0 = .ok (.aload_n 0, 1) := by decide +kernel
theorem dJ0_charAt_5068e_1 : decode cJ0_charAt_5068e 1 = .ok (.invokevirtual 492, 3) := by decide +kernel
theorem dJ0_charAt_5068e_4 : decode cJ0_charAt_5068e 4 = .ok (.ifCond .eq 12, 3) := by decide +kernel
theorem dJ0_charAt_5068e_7 : decode cJ0_charAt_5068e 7 = .ok (.aload_n 0, 1) := by decide +kernel
theorem dJ0_charAt_5068e_8 : decode cJ0_charAt_5068e 8 = .ok (.getfield 9, 3) := by decide +kernel
theorem dJ0_charAt_5068e_11 : decode cJ0_charAt_5068e 11 = .ok (.iload_n 1, 1) := by decide +kernel
theorem dJ0_charAt_5068e_12 : decode cJ0_charAt_5068e 12 = .ok (.invokestatic 495, 3) := by decide +kernel
theorem dJ0_charAt_5068e_15 : decode cJ0_charAt_5068e 15 = .ok (.ireturn, 1) := by decide +kernel
theorem dJ0_charAt_5068e_16 : decode cJ0_charAt_5068e 16 = .ok (.aload_n 0, 1) := by decide +kernel
theorem dJ0_charAt_5068e_17 : decode cJ0_charAt_5068e 17 = .ok (.getfield 9, 3) := by decide +kernel
theorem dJ0_charAt_5068e_20 : decode cJ0_charAt_5068e 20 = .ok (.iload_n 1, 1) := by decide +kernel
theorem dJ0_charAt_5068e_21 : decode cJ0_charAt_5068e 21 = .ok (.invokestatic 498, 3) := by decide +kernel
theorem dJ0_charAt_5068e_24 : decode cJ0_charAt_5068e 24 = .ok (.ireturn, 1) := by decide +kernel
theorem kcJ0_charAt_5068e : (.code yJ0_charAt_5068e cJ0_charAt_5068e 2 (some .char) : Cond) ∈ TB := TB_mem 860 (by decide +kernel) (by decide +kernel)
theorem kiJ0_charAt_5068e : (.instanceMethod yJ0_charAt_5068e : Cond) ∈ TB := TB_mem 858 (by decide +kernel) (by decide +kernel)
theorem kvJ0_charAt_5068e : (.selects "java/lang/String" yJ0_charAt_5068e yJ0_charAt_5068e : Cond) ∈ TB := TB_mem 859 (by decide +kernel) (by decide +kernel)
def mJ0_charAt_5068e (R : Room) : MI := (yJ0_charAt_5068e, cJ0_charAt_5068e, 2, (some .char), R)
theorem mvJ0_charAt_5068e (R : Room) : MV (mJ0_charAt_5068e R) 1 := ⟨knJ0, kcJ0_charAt_5068e, (by decide +kernel : yJ0_charAt_5068e.cls ≠ "java/lang/invoke/MethodHandle" ∧ yJ0_charAt_5068e.cls ≠ "java/lang/invoke/VarHandle" ∧ (parseMethodDescriptor yJ0_charAt_5068e.desc).map (fun d => d.parameters.length) = some 1)⟩
def yJ0_indexOf_0f7a4 : MethodName := ⟨"java/lang/String", "indexOf", "(I)I"⟩
abbrev cJ0_indexOf_0f7a4 : ByteArray := prog_18_method_79_code
theorem dJ0_indexOf_0f7a4_0 : decode cJ0_indexOf_0f7a4 0 = .ok (.aload_n 0, 1) := by decide +kernel
theorem dJ0_indexOf_0f7a4_1 : decode cJ0_indexOf_0f7a4 1 = .ok (.iload_n 1, 1) := by decide +kernel
theorem dJ0_indexOf_0f7a4_2 : decode cJ0_indexOf_0f7a4 2 = .ok (.iconst 0, 1) := by decide +kernel
theorem dJ0_indexOf_0f7a4_3 : decode cJ0_indexOf_0f7a4 3 = .ok (.invokevirtual 633, 3) := by decide +kernel
theorem dJ0_indexOf_0f7a4_6 : decode cJ0_indexOf_0f7a4 6 = .ok (.ireturn, 1) := by decide +kernel
theorem kcJ0_indexOf_0f7a4 : (.code yJ0_indexOf_0f7a4 cJ0_indexOf_0f7a4 2 (some .int) : Cond) ∈ TB := TB_mem 586 (by decide +kernel) (by decide +kernel)
theorem kiJ0_indexOf_0f7a4 : (.instanceMethod yJ0_indexOf_0f7a4 : Cond) ∈ TB := TB_mem 584 (by decide +kernel) (by decide +kernel)
theorem kvJ0_indexOf_0f7a4 : (.selects "java/lang/String" yJ0_indexOf_0f7a4 yJ0_indexOf_0f7a4 : Cond) ∈ TB := TB_mem 585 (by decide +kernel) (by decide +kernel)
def mJ0_indexOf_0f7a4 (R : Room) : MI := (yJ0_indexOf_0f7a4, cJ0_indexOf_0f7a4, 2, (some .int), R)
theorem mvJ0_indexOf_0f7a4 (R : Room) : MV (mJ0_indexOf_0f7a4 R) 1 := ⟨knJ0, kcJ0_indexOf_0f7a4, (by decide +kernel : yJ0_indexOf_0f7a4.cls ≠ "java/lang/invoke/MethodHandle" ∧ yJ0_indexOf_0f7a4.cls ≠ "java/lang/invoke/VarHandle" ∧ (parseMethodDescriptor yJ0_indexOf_0f7a4.desc).map (fun d => d.parameters.length) = some 1)⟩
def yJ0_indexOf_7cf53 : MethodName := ⟨"java/lang/String", "indexOf", "(II)I"⟩
abbrev cJ0_indexOf_7cf53 : ByteArray := prog_18_method_80_code
theorem dJ0_indexOf_7cf53_0 : decode cJ0_indexOf_7cf53 0 = .ok (.aload_n 0, 1) := by decide +kernel
theorem dJ0_indexOf_7cf53_1 : decode cJ0_indexOf_7cf53 1 = .ok (.invokevirtual 492, 3) := by decide +kernel
theorem dJ0_indexOf_7cf53_4 : decode cJ0_indexOf_7cf53 4 = .ok (.ifCond .eq 19, 3) := by decide +kernel
theorem dJ0_indexOf_7cf53_7 : decode cJ0_indexOf_7cf53 7 = .ok (.aload_n 0, 1) := by decide +kernel
theorem dJ0_indexOf_7cf53_8 : decode cJ0_indexOf_7cf53 8 = .ok (.getfield 9, 3) := by decide +kernel
theorem dJ0_indexOf_7cf53_11 : decode cJ0_indexOf_7cf53 11 = .ok (.iload_n 1, 1) := by decide +kernel
theorem dJ0_indexOf_7cf53_12 : decode cJ0_indexOf_7cf53 12 = .ok (.iload_n 2, 1) := by decide +kernel
theorem dJ0_indexOf_7cf53_13 : decode cJ0_indexOf_7cf53 13 = .ok (.aload_n 0, 1) := by decide +kernel
theorem dJ0_indexOf_7cf53_14 : decode cJ0_indexOf_7cf53 14 = .ok (.invokevirtual 505, 3) := by decide +kernel
theorem dJ0_indexOf_7cf53_17 : decode cJ0_indexOf_7cf53 17 = .ok (.invokestatic 637, 3) := by decide +kernel
theorem dJ0_indexOf_7cf53_20 : decode cJ0_indexOf_7cf53 20 = .ok (.goto 16, 3) := by decide +kernel
theorem dJ0_indexOf_7cf53_23 : decode cJ0_indexOf_7cf53 23 = .ok (.aload_n 0, 1) := by decide +kernel
theorem dJ0_indexOf_7cf53_24 : decode cJ0_indexOf_7cf53 24 = .ok (.getfield 9, 3) := by decide +kernel
theorem dJ0_indexOf_7cf53_27 : decode cJ0_indexOf_7cf53 27 = .ok (.iload_n 1, 1) := by decide +kernel
theorem dJ0_indexOf_7cf53_28 : decode cJ0_indexOf_7cf53 28 = .ok (.iload_n 2, 1) := by decide +kernel
theorem dJ0_indexOf_7cf53_29 : decode cJ0_indexOf_7cf53 29 = .ok (.aload_n 0, 1) := by decide +kernel
theorem dJ0_indexOf_7cf53_30 : decode cJ0_indexOf_7cf53 30 = .ok (.invokevirtual 505, 3) := by decide +kernel
theorem dJ0_indexOf_7cf53_33 : decode cJ0_indexOf_7cf53 33 = .ok (.invokestatic 640, 3) := by decide +kernel
theorem dJ0_indexOf_7cf53_36 : decode cJ0_indexOf_7cf53 36 = .ok (.ireturn, 1) := by decide +kernel
theorem kcJ0_indexOf_7cf53 : (.code yJ0_indexOf_7cf53 cJ0_indexOf_7cf53 3 (some .int) : Cond) ∈ TB := TB_mem 590 (by decide +kernel) (by decide +kernel)
theorem kiJ0_indexOf_7cf53 : (.instanceMethod yJ0_indexOf_7cf53 : Cond) ∈ TB := TB_mem 588 (by decide +kernel) (by decide +kernel)
theorem kvJ0_indexOf_7cf53 : (.selects "java/lang/String" yJ0_indexOf_7cf53 yJ0_indexOf_7cf53 : Cond) ∈ TB := TB_mem 589 (by decide +kernel) (by decide +kernel)
def mJ0_indexOf_7cf53 (R : Room) : MI := (yJ0_indexOf_7cf53, cJ0_indexOf_7cf53, 3, (some .int), R)
theorem mvJ0_indexOf_7cf53 (R : Room) : MV (mJ0_indexOf_7cf53 R) 2 := ⟨knJ0, kcJ0_indexOf_7cf53, (by decide +kernel : yJ0_indexOf_7cf53.cls ≠ "java/lang/invoke/MethodHandle" ∧ yJ0_indexOf_7cf53.cls ≠ "java/lang/invoke/VarHandle" ∧ (parseMethodDescriptor yJ0_indexOf_7cf53.desc).map (fun d => d.parameters.length) = some 2)⟩
def yJ0_coder_7d493 : MethodName := ⟨"java/lang/String", "coder", "()B"⟩
abbrev cJ0_coder_7d493 : ByteArray := prog_18_method_152_code
theorem dJ0_coder_7d493_0 : decode cJ0_coder_7d493 0 = .ok (.getstatic 38, 3) := by decide +kernel
theorem dJ0_coder_7d493_3 : decode cJ0_coder_7d493 3 = .ok (.ifCond .eq 10, 3) := by decide +kernel
theorem dJ0_coder_7d493_6 : decode cJ0_coder_7d493 6 = .ok (.aload_n 0, 1) := by decide +kernel
theorem dJ0_coder_7d493_7 : decode cJ0_coder_7d493 7 = .ok (.getfield 15, 3) := by decide +kernel
theorem dJ0_coder_7d493_10 : decode cJ0_coder_7d493 10 = .ok (.goto 4, 3) := by decide +kernel
theorem dJ0_coder_7d493_13 : decode cJ0_coder_7d493 13 = .ok (.iconst 1, 1) := by decide +kernel
theorem dJ0_coder_7d493_14 : decode cJ0_coder_7d493 14 = .ok (.ireturn, 1) := by decide +kernel
theorem kcJ0_coder_7d493 : (.code yJ0_coder_7d493 cJ0_coder_7d493 1 (some .byte) : Cond) ∈ TB := TB_mem 361 (by decide +kernel) (by decide +kernel)
theorem kiJ0_coder_7d493 : (.instanceMethod yJ0_coder_7d493 : Cond) ∈ TB := TB_mem 359 (by decide +kernel) (by decide +kernel)
theorem kvJ0_coder_7d493 : (.selects "java/lang/String" yJ0_coder_7d493 yJ0_coder_7d493 : Cond) ∈ TB := TB_mem 360 (by decide +kernel) (by decide +kernel)
def mJ0_coder_7d493 (R : Room) : MI := (yJ0_coder_7d493, cJ0_coder_7d493, 1, (some .byte), R)
theorem mvJ0_coder_7d493 (R : Room) : MV (mJ0_coder_7d493 R) 0 := ⟨knJ0, kcJ0_coder_7d493, (by decide +kernel : yJ0_coder_7d493.cls ≠ "java/lang/invoke/MethodHandle" ∧ yJ0_coder_7d493.cls ≠ "java/lang/invoke/VarHandle" ∧ (parseMethodDescriptor yJ0_coder_7d493.desc).map (fun d => d.parameters.length) = some 0)⟩
def yJ0_isLatin1_aae02 : MethodName := ⟨"java/lang/String", "isLatin1", "()Z"⟩
abbrev cJ0_isLatin1_aae02 : ByteArray := prog_18_method_154_code
theorem dJ0_isLatin1_aae02_0 : decode cJ0_isLatin1_aae02 0 = .ok (.getstatic 38, 3) := by decide +kernel
theorem dJ0_isLatin1_aae02_3 : decode cJ0_isLatin1_aae02 3 = .ok (.ifCond .eq 14, 3) := by decide +kernel
theorem dJ0_isLatin1_aae02_6 : decode cJ0_isLatin1_aae02 6 = .ok (.aload_n 0, 1) := by decide +kernel
theorem dJ0_isLatin1_aae02_7 : decode cJ0_isLatin1_aae02 7 = .ok (.getfield 15, 3) := by decide +kernel
theorem dJ0_isLatin1_aae02_10 : decode cJ0_isLatin1_aae02 10 = .ok (.ifCond .ne 7, 3) := by decide +kernel
theorem dJ0_isLatin1_aae02_13 : decode cJ0_isLatin1_aae02 13 = .ok (.iconst 1, 1) := by decide +kernel
theorem dJ0_isLatin1_aae02_14 : decode cJ0_isLatin1_aae02 14 = .ok (.goto 4, 3) := by decide +kernel
theorem dJ0_isLatin1_aae02_17 : decode cJ0_isLatin1_aae02 17 = .ok (.iconst 0, 1) := by decide +kernel
theorem dJ0_isLatin1_aae02_18 : decode cJ0_isLatin1_aae02 18 = .ok (.ireturn, 1) := by decide +kernel
theorem kcJ0_isLatin1_aae02 : (.code yJ0_isLatin1_aae02 cJ0_isLatin1_aae02 1 (some .boolean) : Cond) ∈ TB := TB_mem 594 (by decide +kernel) (by decide +kernel)
theorem kiJ0_isLatin1_aae02 : (.instanceMethod yJ0_isLatin1_aae02 : Cond) ∈ TB := TB_mem 592 (by decide +kernel) (by decide +kernel)
theorem kvJ0_isLatin1_aae02 : (.selects "java/lang/String" yJ0_isLatin1_aae02 yJ0_isLatin1_aae02 : Cond) ∈ TB := TB_mem 593 (by decide +kernel) (by decide +kernel)
def mJ0_isLatin1_aae02 (R : Room) : MI := (yJ0_isLatin1_aae02, cJ0_isLatin1_aae02, 1, (some .boolean), R)
theorem mvJ0_isLatin1_aae02 (R : Room) : MV (mJ0_isLatin1_aae02 R) 0 := ⟨knJ0, kcJ0_isLatin1_aae02, (by decide +kernel : yJ0_isLatin1_aae02.cls ≠ "java/lang/invoke/MethodHandle" ∧ yJ0_isLatin1_aae02.cls ≠ "java/lang/invoke/VarHandle" ∧ (parseMethodDescriptor yJ0_isLatin1_aae02.desc).map (fun d => d.parameters.length) = some 0)⟩
def yJ0_checkIndex_df160 : MethodName := ⟨"java/lang/String", "checkIndex", "(II)V"⟩
abbrev cJ0_checkIndex_df160 : ByteArray := prog_18_method_155_code
theorem dJ0_checkIndex_df160_0 : decode cJ0_checkIndex_df160 0 = .ok (.iload_n 0, 1) := by decide +kernel
theorem dJ0_checkIndex_df160_1 : decode cJ0_checkIndex_df160 1 = .ok (.iload_n 1, 1) := by decide +kernel
theorem dJ0_checkIndex_df160_2 : decode cJ0_checkIndex_df160 2 = .ok (.getstatic 1053, 3) := by decide +kernel
theorem dJ0_checkIndex_df160_5 : decode cJ0_checkIndex_df160 5 = .ok (.invokestatic 1059, 3) := by decide +kernel
theorem dJ0_checkIndex_df160_8 : decode cJ0_checkIndex_df160 8 = .ok (.pop, 1) := by decide +kernel
theorem dJ0_checkIndex_df160_9 : decode cJ0_checkIndex_df160 9 = .ok (.return_, 1) := by decide +kernel
theorem kcJ0_checkIndex_df160 : (.code yJ0_checkIndex_df160 cJ0_checkIndex_df160 2 none : Cond) ∈ TB := TB_mem 866 (by decide +kernel) (by decide +kernel)
theorem ksJ0_checkIndex_df160 : (.static yJ0_checkIndex_df160 : Cond) ∈ TB := TB_mem 865 (by decide +kernel) (by decide +kernel)
def mJ0_checkIndex_df160 (R : Room) : MI := (yJ0_checkIndex_df160, cJ0_checkIndex_df160, 2, none, R)
theorem mvJ0_checkIndex_df160 (R : Room) : MV (mJ0_checkIndex_df160 R) 2 := ⟨knJ0, kcJ0_checkIndex_df160, (by decide +kernel : yJ0_checkIndex_df160.cls ≠ "java/lang/invoke/MethodHandle" ∧ yJ0_checkIndex_df160.cls ≠ "java/lang/invoke/VarHandle" ∧ (parseMethodDescriptor yJ0_checkIndex_df160.desc).map (fun d => d.parameters.length) = some 2)⟩
def yJ1_charAt_3b067 : MethodName := ⟨"java/lang/StringLatin1", "charAt", "([BI)C"⟩
abbrev cJ1_charAt_3b067 : ByteArray := prog_19_method_2_code
theorem dJ1_charAt_3b067_0 : decode cJ1_charAt_3b067 0 = .ok (.iload_n 1, 1) := by decide +kernel
theorem dJ1_charAt_3b067_1 : decode cJ1_charAt_3b067 1 = .ok (.aload_n 0, 1) := by decide +kernel
theorem dJ1_charAt_3b067_2 : decode cJ1_charAt_3b067 2 = .ok (.arraylength, 1) := by decide +kernel
theorem dJ1_charAt_3b067_3 : decode cJ1_charAt_3b067 3 = .ok (.invokestatic 9, 3) := by decide +kernel
theorem dJ1_charAt_3b067_6 : decode cJ1_charAt_3b067 6 = .ok (.aload_n 0, 1) := by decide +kernel
theorem dJ1_charAt_3b067_7 : decode cJ1_charAt_3b067 7 = .ok (.iload_n 1, 1) := by decide +kernel
theorem dJ1_charAt_3b067_8 : decode cJ1_charAt_3b067 8 = .ok (.baload, 1) := by decide +kernel
theorem dJ1_charAt_3b067_9 : decode cJ1_charAt_3b067 9 = .ok (.sipush 255, 3) := by decide +kernel
theorem dJ1_charAt_3b067_12 : decode cJ1_charAt_3b067 12 = .ok (.iand, 1) := by decide +kernel
theorem dJ1_charAt_3b067_13 : decode cJ1_charAt_3b067 13 = .ok (.i2c, 1) := by decide +kernel
theorem dJ1_charAt_3b067_14 : decode cJ1_charAt_3b067 14 = .ok (.ireturn, 1) := by decide +kernel
theorem kcJ1_charAt_3b067 : (.code yJ1_charAt_3b067 cJ1_charAt_3b067 2 (some .char) : Cond) ∈ TB := TB_mem 863 (by decide +kernel) (by decide +kernel)
theorem ksJ1_charAt_3b067 : (.static yJ1_charAt_3b067 : Cond) ∈ TB := TB_mem 862 (by decide +kernel) (by decide +kernel)
def mJ1_charAt_3b067 (R : Room) : MI := (yJ1_charAt_3b067, cJ1_charAt_3b067, 2, (some .char), R)
theorem mvJ1_charAt_3b067 (R : Room) : MV (mJ1_charAt_3b067 R) 2 := ⟨knJ1, kcJ1_charAt_3b067, (by decide +kernel : yJ1_charAt_3b067.cls ≠ "java/lang/invoke/MethodHandle" ∧ yJ1_charAt_3b067.cls ≠ "java/lang/invoke/VarHandle" ∧ (parseMethodDescriptor yJ1_charAt_3b067.desc).map (fun d => d.parameters.length) = some 2)⟩
def yJ1_canEncode_9a6ad : MethodName := ⟨"java/lang/StringLatin1", "canEncode", "(I)Z"⟩
abbrev cJ1_canEncode_9a6ad : ByteArray := prog_19_method_4_code
theorem dJ1_canEncode_9a6ad_0 : decode cJ1_canEncode_9a6ad 0 = .ok (.iload_n 0, 1) := by decide +kernel
theorem dJ1_canEncode_9a6ad_1 : decode cJ1_canEncode_9a6ad 1 = .ok (.ifCond .lt 14, 3) := by decide +kernel
theorem dJ1_canEncode_9a6ad_4 : decode cJ1_canEncode_9a6ad 4 = .ok (.iload_n 0, 1) := by decide +kernel
theorem dJ1_canEncode_9a6ad_5 : decode cJ1_canEncode_9a6ad 5 = .ok (.sipush 255, 3) := by decide +kernel
theorem dJ1_canEncode_9a6ad_8 : decode cJ1_canEncode_9a6ad 8 = .ok (.if_icmp .gt 7, 3) := by decide +kernel
theorem dJ1_canEncode_9a6ad_11 : decode cJ1_canEncode_9a6ad 11 = .ok (.iconst 1, 1) := by decide +kernel
theorem dJ1_canEncode_9a6ad_12 : decode cJ1_canEncode_9a6ad 12 = .ok (.goto 4, 3) := by decide +kernel
theorem dJ1_canEncode_9a6ad_15 : decode cJ1_canEncode_9a6ad 15 = .ok (.iconst 0, 1) := by decide +kernel
theorem dJ1_canEncode_9a6ad_16 : decode cJ1_canEncode_9a6ad 16 = .ok (.ireturn, 1) := by decide +kernel
theorem kcJ1_canEncode_9a6ad : (.code yJ1_canEncode_9a6ad cJ1_canEncode_9a6ad 1 (some .boolean) : Cond) ∈ TB := TB_mem 601 (by decide +kernel) (by decide +kernel)
theorem ksJ1_canEncode_9a6ad : (.static yJ1_canEncode_9a6ad : Cond) ∈ TB := TB_mem 600 (by decide +kernel) (by decide +kernel)
def mJ1_canEncode_9a6ad (R : Room) : MI := (yJ1_canEncode_9a6ad, cJ1_canEncode_9a6ad, 1, (some .boolean), R)
theorem mvJ1_canEncode_9a6ad (R : Room) : MV (mJ1_canEncode_9a6ad R) 1 := ⟨knJ1, kcJ1_canEncode_9a6ad, (by decide +kernel : yJ1_canEncode_9a6ad.cls ≠ "java/lang/invoke/MethodHandle" ∧ yJ1_canEncode_9a6ad.cls ≠ "java/lang/invoke/VarHandle" ∧ (parseMethodDescriptor yJ1_canEncode_9a6ad.desc).map (fun d => d.parameters.length) = some 1)⟩
def yJ1_indexOf_4cfef : MethodName := ⟨"java/lang/StringLatin1", "indexOf", "([BIII)I"⟩
abbrev cJ1_indexOf_4cfef : ByteArray := prog_19_method_22_code
theorem dJ1_indexOf_4cfef_0 : decode cJ1_indexOf_4cfef 0 = .ok (.iload_n 1, 1) := by decide +kernel
theorem dJ1_indexOf_4cfef_1 : decode cJ1_indexOf_4cfef 1 = .ok (.invokestatic 88, 3) := by decide +kernel
theorem dJ1_indexOf_4cfef_4 : decode cJ1_indexOf_4cfef 4 = .ok (.ifCond .ne 5, 3) := by decide +kernel
theorem dJ1_indexOf_4cfef_7 : decode cJ1_indexOf_4cfef 7 = .ok (.iconst (-1), 1) := by decide +kernel
theorem dJ1_indexOf_4cfef_8 : decode cJ1_indexOf_4cfef 8 = .ok (.ireturn, 1) := by decide +kernel
theorem dJ1_indexOf_4cfef_9 : decode cJ1_indexOf_4cfef 9 = .ok (.iload_n 2, 1) := by decide +kernel
theorem dJ1_indexOf_4cfef_10 : decode cJ1_indexOf_4cfef 10 = .ok (.iconst 0, 1) := by decide +kernel
theorem dJ1_indexOf_4cfef_11 : decode cJ1_indexOf_4cfef 11 = .ok (.invokestatic 92, 3) := by decide +kernel
theorem dJ1_indexOf_4cfef_14 : decode cJ1_indexOf_4cfef 14 = .ok (.istore_n 2, 1) := by decide +kernel
theorem dJ1_indexOf_4cfef_15 : decode cJ1_indexOf_4cfef 15 = .ok (.iload_n 3, 1) := by decide +kernel
theorem dJ1_indexOf_4cfef_16 : decode cJ1_indexOf_4cfef 16 = .ok (.aload_n 0, 1) := by decide +kernel
theorem dJ1_indexOf_4cfef_17 : decode cJ1_indexOf_4cfef 17 = .ok (.arraylength, 1) := by decide +kernel
theorem dJ1_indexOf_4cfef_18 : decode cJ1_indexOf_4cfef 18 = .ok (.invokestatic 38, 3) := by decide +kernel
theorem dJ1_indexOf_4cfef_21 : decode cJ1_indexOf_4cfef 21 = .ok (.istore_n 3, 1) := by decide +kernel
theorem dJ1_indexOf_4cfef_22 : decode cJ1_indexOf_4cfef 22 = .ok (.iload_n 2, 1) := by decide +kernel
theorem dJ1_indexOf_4cfef_23 : decode cJ1_indexOf_4cfef 23 = .ok (.iload_n 3, 1) := by decide +kernel
theorem dJ1_indexOf_4cfef_24 : decode cJ1_indexOf_4cfef 24 = .ok (.if_icmp .lt 5, 3) := by decide +kernel
theorem dJ1_indexOf_4cfef_27 : decode cJ1_indexOf_4cfef 27 = .ok (.iconst (-1), 1) := by decide +kernel
theorem dJ1_indexOf_4cfef_28 : decode cJ1_indexOf_4cfef 28 = .ok (.ireturn, 1) := by decide +kernel
theorem dJ1_indexOf_4cfef_29 : decode cJ1_indexOf_4cfef 29 = .ok (.aload_n 0, 1) := by decide +kernel
theorem dJ1_indexOf_4cfef_30 : decode cJ1_indexOf_4cfef 30 = .ok (.iload_n 1, 1) := by decide +kernel
theorem dJ1_indexOf_4cfef_31 : decode cJ1_indexOf_4cfef 31 = .ok (.iload_n 2, 1) := by decide +kernel
theorem dJ1_indexOf_4cfef_32 : decode cJ1_indexOf_4cfef 32 = .ok (.iload_n 3, 1) := by decide +kernel
theorem dJ1_indexOf_4cfef_33 : decode cJ1_indexOf_4cfef 33 = .ok (.invokestatic 95, 3) := by decide +kernel
theorem dJ1_indexOf_4cfef_36 : decode cJ1_indexOf_4cfef 36 = .ok (.ireturn, 1) := by decide +kernel
theorem kcJ1_indexOf_4cfef : (.code yJ1_indexOf_4cfef cJ1_indexOf_4cfef 4 (some .int) : Cond) ∈ TB := TB_mem 598 (by decide +kernel) (by decide +kernel)
theorem ksJ1_indexOf_4cfef : (.static yJ1_indexOf_4cfef : Cond) ∈ TB := TB_mem 597 (by decide +kernel) (by decide +kernel)
def mJ1_indexOf_4cfef (R : Room) : MI := (yJ1_indexOf_4cfef, cJ1_indexOf_4cfef, 4, (some .int), R)
theorem mvJ1_indexOf_4cfef (R : Room) : MV (mJ1_indexOf_4cfef R) 4 := ⟨knJ1, kcJ1_indexOf_4cfef, (by decide +kernel : yJ1_indexOf_4cfef.cls ≠ "java/lang/invoke/MethodHandle" ∧ yJ1_indexOf_4cfef.cls ≠ "java/lang/invoke/VarHandle" ∧ (parseMethodDescriptor yJ1_indexOf_4cfef.desc).map (fun d => d.parameters.length) = some 4)⟩
def yJ1_indexOfChar_4cfef : MethodName := ⟨"java/lang/StringLatin1", "indexOfChar", "([BIII)I"⟩
abbrev cJ1_indexOfChar_4cfef : ByteArray := prog_19_method_23_code
theorem dJ1_indexOfChar_4cfef_0 : decode cJ1_indexOfChar_4cfef 0 = .ok (.iload_n 1, 1) := by decide +kernel
theorem dJ1_indexOfChar_4cfef_1 : decode cJ1_indexOfChar_4cfef 1 = .ok (.i2b, 1) := by decide +kernel
theorem dJ1_indexOfChar_4cfef_2 : decode cJ1_indexOfChar_4cfef 2 = .ok (.istore 4, 2) := by decide +kernel
theorem dJ1_indexOfChar_4cfef_4 : decode cJ1_indexOfChar_4cfef 4 = .ok (.iload_n 2, 1) := by decide +kernel
theorem dJ1_indexOfChar_4cfef_5 : decode cJ1_indexOfChar_4cfef 5 = .ok (.istore 5, 2) := by decide +kernel
theorem dJ1_indexOfChar_4cfef_7 : decode cJ1_indexOfChar_4cfef 7 = .ok (.iload 5, 2) := by decide +kernel
theorem dJ1_indexOfChar_4cfef_9 : decode cJ1_indexOfChar_4cfef 9 = .ok (.iload_n 3, 1) := by decide +kernel
theorem dJ1_indexOfChar_4cfef_10 : decode cJ1_indexOfChar_4cfef 10 = .ok (.if_icmp .ge 21, 3) := by decide +kernel
theorem dJ1_indexOfChar_4cfef_13 : decode cJ1_indexOfChar_4cfef 13 = .ok (.aload_n 0, 1) := by decide +kernel
theorem dJ1_indexOfChar_4cfef_14 : decode cJ1_indexOfChar_4cfef 14 = .ok (.iload 5, 2) := by decide +kernel
theorem dJ1_indexOfChar_4cfef_16 : decode cJ1_indexOfChar_4cfef 16 = .ok (.baload, 1) := by decide +kernel
theorem dJ1_indexOfChar_4cfef_17 : decode cJ1_indexOfChar_4cfef 17 = .ok (.iload 4, 2) := by decide +kernel
theorem dJ1_indexOfChar_4cfef_19 : decode cJ1_indexOfChar_4cfef 19 = .ok (.if_icmp .ne 6, 3) := by decide +kernel
theorem dJ1_indexOfChar_4cfef_22 : decode cJ1_indexOfChar_4cfef 22 = .ok (.iload 5, 2) := by decide +kernel
theorem dJ1_indexOfChar_4cfef_24 : decode cJ1_indexOfChar_4cfef 24 = .ok (.ireturn, 1) := by decide +kernel
theorem dJ1_indexOfChar_4cfef_25 : decode cJ1_indexOfChar_4cfef 25 = .ok (.iinc 5 1, 3) := by decide +kernel
theorem dJ1_indexOfChar_4cfef_28 : decode cJ1_indexOfChar_4cfef 28 = .ok (.goto (-21), 3) := by decide +kernel
theorem dJ1_indexOfChar_4cfef_31 : decode cJ1_indexOfChar_4cfef 31 = .ok (.iconst (-1), 1) := by decide +kernel
theorem dJ1_indexOfChar_4cfef_32 : decode cJ1_indexOfChar_4cfef 32 = .ok (.ireturn, 1) := by decide +kernel
theorem kcJ1_indexOfChar_4cfef : (.code yJ1_indexOfChar_4cfef cJ1_indexOfChar_4cfef 6 (some .int) : Cond) ∈ TB := TB_mem 608 (by decide +kernel) (by decide +kernel)
theorem ksJ1_indexOfChar_4cfef : (.static yJ1_indexOfChar_4cfef : Cond) ∈ TB := TB_mem 607 (by decide +kernel) (by decide +kernel)
def mJ1_indexOfChar_4cfef (R : Room) : MI := (yJ1_indexOfChar_4cfef, cJ1_indexOfChar_4cfef, 6, (some .int), R)
theorem mvJ1_indexOfChar_4cfef (R : Room) : MV (mJ1_indexOfChar_4cfef R) 4 := ⟨knJ1, kcJ1_indexOfChar_4cfef, (by decide +kernel : yJ1_indexOfChar_4cfef.cls ≠ "java/lang/invoke/MethodHandle" ∧ yJ1_indexOfChar_4cfef.cls ≠ "java/lang/invoke/VarHandle" ∧ (parseMethodDescriptor yJ1_indexOfChar_4cfef.desc).map (fun d => d.parameters.length) = some 4)⟩
def yJ3_checkIndex_8e157 : MethodName := ⟨"jdk/internal/util/Preconditions", "checkIndex", "(IILjava/util/function/BiFunction;)I"⟩
abbrev cJ3_checkIndex_8e157 : ByteArray := prog_21_method_11_code
theorem dJ3_checkIndex_8e157_0 : decode cJ3_checkIndex_8e157 0 = .ok (.iload_n 0, 1) := by decide +kernel
theorem dJ3_checkIndex_8e157_1 : decode cJ3_checkIndex_8e157 1 = .ok (.ifCond .lt 8, 3) := by decide +kernel
theorem dJ3_checkIndex_8e157_4 : decode cJ3_checkIndex_8e157 4 = .ok (.iload_n 0, 1) := by decide +kernel
theorem dJ3_checkIndex_8e157_5 : decode cJ3_checkIndex_8e157 5 = .ok (.iload_n 1, 1) := by decide +kernel
theorem dJ3_checkIndex_8e157_6 : decode cJ3_checkIndex_8e157 6 = .ok (.if_icmp .lt 10, 3) := by decide +kernel
theorem dJ3_checkIndex_8e157_9 : decode cJ3_checkIndex_8e157 9 = .ok (.aload_n 2, 1) := by decide +kernel
theorem dJ3_checkIndex_8e157_10 : decode cJ3_checkIndex_8e157 10 = .ok (.iload_n 0, 1) := by decide +kernel
theorem dJ3_checkIndex_8e157_11 : decode cJ3_checkIndex_8e157 11 = .ok (.iload_n 1, 1) := by decide +kernel
theorem dJ3_checkIndex_8e157_12 : decode cJ3_checkIndex_8e157 12 = .ok (.invokestatic 95, 3) := by decide +kernel
theorem dJ3_checkIndex_8e157_15 : decode cJ3_checkIndex_8e157 15 = .ok (.athrow, 1) := by decide +kernel
theorem dJ3_checkIndex_8e157_16 : decode cJ3_checkIndex_8e157 16 = .ok (.iload_n 0, 1) := by decide +kernel
theorem dJ3_checkIndex_8e157_17 : decode cJ3_checkIndex_8e157 17 = .ok (.ireturn, 1) := by decide +kernel
theorem kcJ3_checkIndex_8e157 : (.code yJ3_checkIndex_8e157 cJ3_checkIndex_8e157 3 (some .int) : Cond) ∈ TB := TB_mem 869 (by decide +kernel) (by decide +kernel)
theorem ksJ3_checkIndex_8e157 : (.static yJ3_checkIndex_8e157 : Cond) ∈ TB := TB_mem 868 (by decide +kernel) (by decide +kernel)
def mJ3_checkIndex_8e157 (R : Room) : MI := (yJ3_checkIndex_8e157, cJ3_checkIndex_8e157, 3, (some .int), R)
theorem mvJ3_checkIndex_8e157 (R : Room) : MV (mJ3_checkIndex_8e157 R) 3 := ⟨knJ3, kcJ3_checkIndex_8e157, (by decide +kernel : yJ3_checkIndex_8e157.cls ≠ "java/lang/invoke/MethodHandle" ∧ yJ3_checkIndex_8e157.cls ≠ "java/lang/invoke/VarHandle" ∧ (parseMethodDescriptor yJ3_checkIndex_8e157.desc).map (fun d => d.parameters.length) = some 3)⟩
theorem kmJ0_335 : (.methodLink "java/lang/String" 335 ⟨"java/lang/String", "coder", "()B"⟩ : Cond) ∈ TB := TB_mem 358 (by decide +kernel) (by decide +kernel)
theorem kfJ0_38 : (.fieldLink "java/lang/String" 38 "java/lang/String" "COMPACT_STRINGS" "Z" : Cond) ∈ TB := TB_mem 362 (by decide +kernel) (by decide +kernel)
theorem kmJ0_633 : (.methodLink "java/lang/String" 633 ⟨"java/lang/String", "indexOf", "(II)I"⟩ : Cond) ∈ TB := TB_mem 587 (by decide +kernel) (by decide +kernel)
theorem kmJ0_492 : (.methodLink "java/lang/String" 492 ⟨"java/lang/String", "isLatin1", "()Z"⟩ : Cond) ∈ TB := TB_mem 591 (by decide +kernel) (by decide +kernel)
theorem kmJ0_505 : (.methodLink "java/lang/String" 505 ⟨"java/lang/String", "length", "()I"⟩ : Cond) ∈ TB := TB_mem 595 (by decide +kernel) (by decide +kernel)
theorem kmJ0_637 : (.methodLink "java/lang/String" 637 ⟨"java/lang/StringLatin1", "indexOf", "([BIII)I"⟩ : Cond) ∈ TB := TB_mem 596 (by decide +kernel) (by decide +kernel)
theorem kmJ1_88 : (.methodLink "java/lang/StringLatin1" 88 ⟨"java/lang/StringLatin1", "canEncode", "(I)Z"⟩ : Cond) ∈ TB := TB_mem 599 (by decide +kernel) (by decide +kernel)
theorem kmJ1_92 : (.methodLink "java/lang/StringLatin1" 92 ⟨"java/lang/Math", "max", "(II)I"⟩ : Cond) ∈ TB := TB_mem 602 (by decide +kernel) (by decide +kernel)
theorem kmJ1_38 : (.methodLink "java/lang/StringLatin1" 38 ⟨"java/lang/Math", "min", "(II)I"⟩ : Cond) ∈ TB := TB_mem 605 (by decide +kernel) (by decide +kernel)
theorem kmJ1_95 : (.methodLink "java/lang/StringLatin1" 95 ⟨"java/lang/StringLatin1", "indexOfChar", "([BIII)I"⟩ : Cond) ∈ TB := TB_mem 606 (by decide +kernel) (by decide +kernel)
theorem kfJ0_1053 : (.fieldLink "java/lang/String" 1053 "jdk/internal/util/Preconditions" "SIOOBE_FORMATTER" "Ljava/util/function/BiFunction;" : Cond) ∈ TB := TB_mem 627 (by decide +kernel) (by decide +kernel)
theorem kmJ0_1062 : (.methodLink "java/lang/String" 1062 ⟨"jdk/internal/util/Preconditions", "checkFromToIndex", "(IIILjava/util/function/BiFunction;)I"⟩ : Cond) ∈ TB := TB_mem 629 (by decide +kernel) (by decide +kernel)
theorem kmJ0_495 : (.methodLink "java/lang/String" 495 ⟨"java/lang/StringLatin1", "charAt", "([BI)C"⟩ : Cond) ∈ TB := TB_mem 861 (by decide +kernel) (by decide +kernel)
theorem kmJ1_9 : (.methodLink "java/lang/StringLatin1" 9 ⟨"java/lang/String", "checkIndex", "(II)V"⟩ : Cond) ∈ TB := TB_mem 864 (by decide +kernel) (by decide +kernel)
theorem kmJ0_1059 : (.methodLink "java/lang/String" 1059 ⟨"jdk/internal/util/Preconditions", "checkIndex", "(IILjava/util/function/BiFunction;)I"⟩ : Cond) ∈ TB := TB_mem 867 (by decide +kernel) (by decide +kernel)
theorem kfJ0_9 : (.fieldLink "java/lang/String" 9 "java/lang/String" "value" "[B" : Cond) ∈ TB := TB_mem 1648 (by decide +kernel) (by decide +kernel)
theorem kfJ0_15 : (.fieldLink "java/lang/String" 15 "java/lang/String" "coder" "B" : Cond) ∈ TB := TB_mem 1649 (by decide +kernel) (by decide +kernel)
def txL (i : Nat) : List Int := (sxB.getD i []).map Int32.toInt
def ixF (c : Int) : List Int → Nat → Int
  | [], _ => -1
  | x :: t, k => if x = c then (k : Int) else ixF c t (k + 1)
theorem cases6 {i : Nat} (h : i < 6) : i = 0 ∨ i = 1 ∨ i = 2 ∨ i = 3 ∨ i = 4 ∨ i = 5 := by omega
theorem txL_len {i : Nat} (h : i < 6) : (txL i).length = sxL.getD i 0 := by rcases cases6 h with rfl | rfl | rfl | rfl | rfl | rfl <;> rfl
theorem txL_get {i j : Nat} (h : i < 6) (hj : j < sxL.getD i 0) : (txL i)[j]? = some ((sxB.getD i []).getD j 0).toInt := by
  unfold txL
  rw [List.getElem?_map]
  have : j < (sxB.getD i []).length := by have := txL_len h; unfold txL at this; rw [List.length_map] at this; omega
  generalize sxB.getD i [] = L at this ⊢
  simp [List.getD, List.getElem?_eq_getElem this]
theorem txL_bd {i : Nat} (h : i < 6) : ∀ x ∈ txL i, 0 ≤ x ∧ x ≤ 127 := by rcases cases6 h with rfl | rfl | rfl | rfl | rfl | rfl <;> decide
theorem b8_lt : ∀ c : Nat, c < 256 → b8 (c : Int) = if c < 128 then (c : Int) else (c : Int) - 256 := by decide +kernel
theorem b8_eq {c x : Int} (hc : 0 ≤ c ∧ c ≤ 255) (hx : 0 ≤ x ∧ x ≤ 127) : x = b8 c ↔ x = c := by
  obtain ⟨n, rfl⟩ : ∃ n : Nat, c = (n : Int) := ⟨c.toNat, by omega⟩
  rw [b8_lt n (by omega)]
  split <;> omega
section TEXT
variable {M : MI} {mc ms n0 : Nat} {Q : PQ} {ce sl : Nat} {sh : SH} {pc : Nat} {ls : List (Option AV)} {st : List AV} {g z : GG} {r : RR}
theorem R_getVal {index i : Nat} (hi : i < 6) (hk : Cond.fieldLink M.1.cls index "java/lang/String" "value" "[B" ∈ TB) (hd : decode M.2.1 pc = .ok (.getfield index, 3)) (kk : RJ M mc ms n0 Q ce sl sh (pc + 3) ls (vR (some (100010 + i)) :: st) g z r) : RJ M mc ms n0 Q ce sl sh pc ls (vR (some (100000 + i)) :: st) g z r := by
  intro p l e s m args below meth cd dC dI cy ad0 ad adK adV A H locs Ls hC hn hd0 hst hW hS hO hl hs hL
  have h := kk p l e s m args below meth cd dC dI cy ad0 ad adK adV A H locs Ls hC hn hd0 hst hW hS hO hl (okc (v := vR (some (100010 + i))) (fun a h => by cases h; right; omega) (okt hs)) hL
  rw [List.map_cons, show cv ad (vR (some (100010 + i))) = .ref (ad (100010 + i)) from rfl, (hst i hi).2.1] at h
  rw [List.map_cons, show cv ad (vR (some (100000 + i))) = .ref (ad (100000 + i)) from rfl, (hst i hi).1]
  exact vk_getf hC.1 hC.2.1 (hC.2.2.2.2.2.2.2.2.1.1.1.1 i hi).2.2.1 hS hC.2.2.2.2.2.1 (hC.2.2.2.2.2.2.2.1 _ hk) (fun _ h => h) hd h
theorem R_getCod {index i : Nat} (hi : i < 6) (hk : Cond.fieldLink M.1.cls index "java/lang/String" "coder" "B" ∈ TB) (hd : decode M.2.1 pc = .ok (.getfield index, 3)) (kk : RJ M mc ms n0 Q ce sl sh (pc + 3) ls (vI 0 :: st) g z r) : RJ M mc ms n0 Q ce sl sh pc ls (vR (some (100000 + i)) :: st) g z r := by
  intro p l e s m args below meth cd dC dI cy ad0 ad adK adV A H locs Ls hC hn hd0 hst hW hS hO hl hs hL
  have h := kk p l e s m args below meth cd dC dI cy ad0 ad adK adV A H locs Ls hC hn hd0 hst hW hS hO hl (okc (v := vI 0) inI0 (okt hs)) hL
  rw [List.map_cons, show cv ad (vI 0) = .int 0 from rfl] at h
  rw [List.map_cons, show cv ad (vR (some (100000 + i))) = .ref (ad (100000 + i)) from rfl, (hst i hi).1]
  exact vk_getf hC.1 hC.2.1 (hC.2.2.2.2.2.2.2.2.1.1.1.1 i hi).2.1 hS hC.2.2.2.2.2.1 (hC.2.2.2.2.2.2.2.1 _ hk) (fun _ h => h) hd h
theorem R_balT {i : Nat} {j : Int} (hi : i < 6) (h0 : 0 ≤ j) (h1 : j < ((sxL.getD i 0 : Nat) : Int)) (hd : decode M.2.1 pc = .ok (.baload, 1)) (kk : RJ M mc ms n0 Q ce sl sh (pc + 1) ls (vI ((sxB.getD i []).getD j.toNat 0).toInt :: st) g z r) : RJ M mc ms n0 Q ce sl sh pc ls (vI j :: vR (some (100010 + i)) :: st) g z r := by
  intro p l e s m args below meth cd dC dI cy ad0 ad adK adV A H locs Ls hC hn hd0 hst hW hS hO hl hs hL
  have hj : inI j := okx hs
  have h := kk p l e s m args below meth cd dC dI cy ad0 ad adK adV A H locs Ls hC hn hd0 hst hW hS hO hl (okc (v := vI ((sxB.getD i []).getD j.toNat 0).toInt) (in32 _) (okt (okt hs))) hL
  rw [List.map_cons, show cv ad (vI ((sxB.getD i []).getD j.toNat 0).toInt) = .int ((sxB.getD i []).getD j.toNat 0) from by show Value.int (i32 _) = _; rw [o32]] at h
  rw [List.map_cons, List.map_cons, show cv ad (vR (some (100010 + i))) = .ref (ad (100010 + i)) from rfl, (hst i hi).2.1]
  exact va_tb hC.1 hC.2.1 (hC.2.2.2.2.2.2.2.2.1.1.1.1 i hi).2.2.2 hS (vp_inI hj h0 h1) (by rw [i32_clamp hj]) hd h
theorem R_alenT {i : Nat} (hi : i < 6) (hd : decode M.2.1 pc = .ok (.arraylength, 1)) (kk : RJ M mc ms n0 Q ce sl sh (pc + 1) ls (vI ((sxL.getD i 0 : Nat) : Int) :: st) g z r) : RJ M mc ms n0 Q ce sl sh pc ls (vR (some (100010 + i)) :: st) g z r := by
  intro p l e s m args below meth cd dC dI cy ad0 ad adK adV A H locs Ls hC hn hd0 hst hW hS hO hl hs hL
  have h9 : sxL.getD i 0 ≤ 9 := by rcases cases6 hi with rfl | rfl | rfl | rfl | rfl | rfl <;> decide
  have h := kk p l e s m args below meth cd dC dI cy ad0 ad adK adV A H locs Ls hC hn hd0 hst hW hS hO hl (okc (v := vI ((sxL.getD i 0 : Nat) : Int)) (show inI _ by unfold inI; omega) (okt hs)) hL
  rw [List.map_cons] at h
  rw [List.map_cons, show cv ad (vR (some (100010 + i))) = .ref (ad (100010 + i)) from rfl, (hst i hi).2.1]
  exact va_tlen hC.1 hC.2.1 (hC.2.2.2.2.2.2.2.2.1.1.1.1 i hi).2.2.2 hS (v := i32 ((sxL.getD i 0 : Nat) : Int)) (by rw [i32, Int32.ofInt_eq_ofNat]) hd h
theorem R_gsC {index : Nat} (hk : Cond.fieldLink M.1.cls index "java/lang/String" "COMPACT_STRINGS" "Z" ∈ TB) (hd : decode M.2.1 pc = .ok (.getstatic index, 3)) (kk : RJ M mc ms n0 Q ce sl sh (pc + 3) ls (vI 1 :: st) g z r) : RJ M mc ms n0 Q ce sl sh pc ls st g z r := by
  intro p l e s m args below meth cd dC dI cy ad0 ad adK adV A H locs Ls hC hn hd0 hst hW hS hO hl hs hL
  have h := kk p l e s m args below meth cd dC dI cy ad0 ad adK adV A H locs Ls hC hn hd0 hst hW hS hO hl (okc (v := vI 1) (show inI 1 by unfold inI; omega) hs) hL
  rw [List.map_cons, show cv ad (vI 1) = .int 1 from rfl] at h
  exact va_gets hC.1 hC.2.1 hC.2.2.2.2.2.2.2.2.1.1.2.1 hS hC.2.2.2.2.2.1 (hC.2.2.2.2.2.2.2.1 _ hk) (fun _ h => h) hd h
theorem R_gsF {index : Nat} (hk : Cond.fieldLink M.1.cls index "jdk/internal/util/Preconditions" "SIOOBE_FORMATTER" "Ljava/util/function/BiFunction;" ∈ TB) (hd : decode M.2.1 pc = .ok (.getstatic index, 3)) (kk : ∀ x : Option Nat, RJ M mc ms n0 Q ce sl sh (pc + 3) ls (vR x :: st) g z r) : RJ M mc ms n0 Q ce sl sh pc ls st g z r := by
  intro p l e s m args below meth cd dC dI cy ad0 ad adK adV A H locs Ls hC hn hd0 hst hW hS hO hl hs hL
  rcases hC.2.2.2.2.2.2.2.2.1.1.2.2 with hz | hz
  · have h := kk none p l e s m args below meth cd dC dI cy ad0 ad adK adV A H locs Ls hC hn hd0 hst hW hS hO hl (okc (v := vR none) (fun a h => by cases h) hs) hL
    rw [List.map_cons, show cv ad (vR none) = .null from rfl] at h
    exact va_gets hC.1 hC.2.1 hz hS hC.2.2.2.2.2.1 (hC.2.2.2.2.2.2.2.1 _ hk) (fun _ h => h) hd h
  · have h := kk (some 100020) p l e s m args below meth cd dC dI cy ad0 ad adK adV A H locs Ls hC hn hd0 hst hW hS hO hl (okc (v := vR (some 100020)) (fun a h => by cases h; right; omega) hs) hL
    rw [List.map_cons, show cv ad (vR (some 100020)) = .ref (ad 100020) from rfl, (hst 0 (by decide)).2.2] at h
    exact va_gets hC.1 hC.2.1 hz hS hC.2.2.2.2.2.1 (hC.2.2.2.2.2.2.2.1 _ hk) (fun _ h => h) hd h
theorem R_callT {M' : MI} {mc' ms' : Nat} {Q' : PQ} {as : List AV} {i index : Nat} (hi6 : i < 6) (hct : CT M' mc' ms' sh (vR (some (100000 + i)) :: as) g z r Q') (hcl : M'.1.cls = "java/lang/String") (hv : MV M' as.length) (hi : Cond.instanceMethod M'.1 ∈ TB) (hse : Cond.selects M'.1.cls M'.1 M'.1 ∈ TB) (hk : Cond.methodLink M.1.cls index M'.1 ∈ TB) (hrm : rmOK M M' mc' ms' ce sl) (hst4 : st.length ≤ 4) (hd : decode M.2.1 pc = .ok (.invokevirtual index, 3))
    (kk : ∀ v sh' g' z' r', Q' v sh' g' z' r' → RJ M mc ms n0 Q (ce + mc') (sl + ms') sh' (pc + 3) ls (v.toList ++ st) g' z' r') : RJ M mc ms n0 Q ce sl sh pc ls (as.reverse ++ vR (some (100000 + i)) :: st) g z r := by
  intro p l e s m args below meth cd dC dI cy ad0 ad adK adV A H locs Ls hC hn hd0 hst hW hS hO hl hs hL
  have hs1 : ∀ v ∈ st, okv sh.length v := fun v h => hs v (List.mem_append_right _ (List.mem_cons_of_mem _ h))
  have hs2 : ∀ v ∈ vR (some (100000 + i)) :: as, okv sh.length v := fun v h => by
    rcases List.mem_cons.mp h with q | q
    · rw [q]; exact hs _ (List.mem_append_right _ List.mem_cons_self)
    · exact hs v (List.mem_append_left _ (List.mem_reverse.mpr q))
  have hM := hct l dC dI cy ad adK adV H.size hst hO hs2
  refine run_go hC hn hd0 hst hW hS hl hs1 hL (va_runV (bytes := M'.2.1) (maxL := M'.2.2.1) (ret := M'.2.2.2.1) (As := as.map (cv ad)) (b := ad (100000 + i)) (C := M'.1.cls) (n := as.length) ⟨hC.1, hC.2.1, hC.2.2.1, hC.2.2.2.2.2.1, hC.2.2.2.2.2.2.2.1⟩ hM ?_ ⟨PC.blind, ?_, PC.at hC hW hS⟩ rfl (by rw [List.length_map]) hL.1 ?_ ?_ hd hrm.2.2.2) kk
  · refine cwV as.length hC.2.2.2.2.2.2.2.1 (good_app (fun w hw => ?_) (good_TB hv.2.1)) rfl hrm.1 hrm.2.1 ⟨rfl, hv.2.2⟩ hrm.2.2.1
    simp only [List.mem_cons, List.not_mem_nil, or_false] at hw
    rcases hw with rfl | rfl | rfl | rfl
    · exact hk
    · exact hi
    · exact hse
    · exact hv.1
  · rw [(hst i hi6).1, hcl]
    exact vk_recv hC.2.2.2.2.2.2.2.2.1.1.1 hi6 hS
  · simp only [List.map_append, List.map_cons, List.map_reverse]; rfl
  · exact lv_room (Nat.le_trans (cat_sum st) (by omega))
end TEXT
section JDK
variable {g z : GG} {r : RR}
theorem j_coder (i : Nat) (hi : i < 6) : CT (mJ0_coder_7d493 (rmD 0 0 0)) 0 0 shW [vR (some (100000 + i))] g z r (qP shW g z r (some (vI 0))) := by
  refine CT.of 0 rfl rfl ?_
  refine R_gsC kfJ0_38 dJ0_coder_7d493_0 ?_
  refine R_if_eq 13 dJ0_coder_7d493_3 (by decide) (fun hc3 => ?_) (fun hc3 => ?_)
  · exact absurd hc3 (by decide)
  refine R_aload_n dJ0_coder_7d493_6 rfl ?_
  refine R_getCod hi kfJ0_15 dJ0_coder_7d493_7 ?_
  refine R_goto 14 dJ0_coder_7d493_10 (by decide) ?_
  refine R_ireturn rfl (by first | rfl | exact nar_b2i | exact nar_bi) (by decide) (by decide) dJ0_coder_7d493_14 ?_
  exact ⟨rfl, rfl, rfl, rfl, rfl⟩
theorem j_isLatin1 (i : Nat) (hi : i < 6) : CT (mJ0_isLatin1_aae02 (rmD 0 0 0)) 0 0 shW [vR (some (100000 + i))] g z r (qP shW g z r (some (vI 1))) := by
  refine CT.of 0 rfl rfl ?_
  refine R_gsC kfJ0_38 dJ0_isLatin1_aae02_0 ?_
  refine R_if_eq 17 dJ0_isLatin1_aae02_3 (by decide) (fun hc3 => ?_) (fun hc3 => ?_)
  · exact absurd hc3 (by decide)
  refine R_aload_n dJ0_isLatin1_aae02_6 rfl ?_
  refine R_getCod hi kfJ0_15 dJ0_isLatin1_aae02_7 ?_
  refine R_if_ne 17 dJ0_isLatin1_aae02_10 (by decide) (fun hc10 => ?_) (fun hc10 => ?_)
  · exact absurd rfl hc10
  refine R_iconst dJ0_isLatin1_aae02_13 rfl rfl ?_
  refine R_goto 18 dJ0_isLatin1_aae02_14 (by decide) ?_
  refine R_ireturn rfl (by first | rfl | exact nar_b2i | exact nar_bi) (by decide) (by decide) dJ0_isLatin1_aae02_18 ?_
  exact ⟨rfl, rfl, rfl, rfl, rfl⟩
theorem j_length (i : Nat) (hi : i < 6) : CT (mJ0_length_8abf5 (rmD 1 0 0)) 0 0 shW [vR (some (100000 + i))] g z r (qP shW g z r (some (vI ((sxL.getD i 0 : Nat) : Int)))) := by
  refine CT.of 0 rfl rfl ?_
  refine R_aload_n dJ0_length_8abf5_0 rfl ?_
  refine R_getVal hi kfJ0_9 dJ0_length_8abf5_1 ?_
  refine R_alenT hi dJ0_length_8abf5_4 ?_
  refine R_aload_n dJ0_length_8abf5_5 rfl ?_
  refine R_callT (as := []) hi (j_coder i hi) rfl (mvJ0_coder_7d493 _) kiJ0_coder_7d493 kvJ0_coder_7d493 kmJ0_335 ⟨rfl, rfl, by decide, by decide⟩ (Nat.le_of_ble_eq_true rfl) dJ0_length_8abf5_6 (fun v1 sh1 g1 z1 r1 hq => ?_)
  obtain ⟨rfl, rfl, rfl, rfl, rfl⟩ := hq
  refine R_ishr dJ0_length_8abf5_9 ?_
  rw [show bShr ((sxL.getD i 0 : Nat) : Int) 0 = ((sxL.getD i 0 : Nat) : Int) by rcases cases6 hi with rfl | rfl | rfl | rfl | rfl | rfl <;> decide +kernel]
  refine R_ireturn rfl (by first | rfl | exact nar_b2i | exact nar_bi) (by decide) (by decide) dJ0_length_8abf5_10 ?_
  exact ⟨rfl, rfl, rfl, rfl, rfl⟩
theorem j_canEncode (c : Int) (hc : 0 ≤ c ∧ c ≤ 255) : CT (mJ1_canEncode_9a6ad (rmD 0 0 0)) 0 0 shW [vI c] g z r (qP shW g z r (some (vI 1))) := by
  refine CT.of 0 rfl rfl ?_
  refine R_iload_n dJ1_canEncode_9a6ad_0 rfl ?_
  refine R_if_lt 15 dJ1_canEncode_9a6ad_1 (by decide) (fun hc1 => ?_) (fun hc1 => ?_)
  · exact absurd hc1 (by omega)
  refine R_iload_n dJ1_canEncode_9a6ad_4 rfl ?_
  refine R_sipush dJ1_canEncode_9a6ad_5 rfl (by decide +kernel) ?_
  refine R_icmp_gt 15 dJ1_canEncode_9a6ad_8 (by decide) (fun hc8 => ?_) (fun hc8 => ?_)
  · exact absurd hc8 (by omega)
  refine R_iconst dJ1_canEncode_9a6ad_11 rfl rfl ?_
  refine R_goto 16 dJ1_canEncode_9a6ad_12 (by decide) ?_
  refine R_ireturn rfl (by first | rfl | exact nar_b2i | exact nar_bi) (by decide) (by decide) dJ1_canEncode_9a6ad_16 ?_
  exact ⟨rfl, rfl, rfl, rfl, rfl⟩
theorem j_indexOfChar (i : Nat) (hi : i < 6) (c : Int) (hc : 0 ≤ c ∧ c ≤ 255) : CT (mJ1_indexOfChar_4cfef (rmD 0 0 0)) 0 0 shW [vR (some (100010 + i)), vI c, vI 0, vI ((sxL.getD i 0 : Nat) : Int)] g z r (qP shW g z r (some (vI (ixF c (txL i) 0)))) := by
  have h9 : sxL.getD i 0 ≤ 9 := by rcases cases6 hi with rfl | rfl | rfl | rfl | rfl | rfl <;> decide
  refine CT.of 2 rfl rfl ?_
  generalize hX : ixF c (txL i) 0 = X
  generalize hQ : (qP shW g z r (some (vI X))) = Q
  have loop : ∀ (n k : Nat), k + n = sxL.getD i 0 → ixF c ((txL i).drop k) k = X → RJ (mJ1_indexOfChar_4cfef (rmD 0 0 0)) 0 0 shW.length Q 0 0 shW 7 [some (vR (some (100010 + i))), some (vI (c)), some (vI (0)), some (vI (((sxL.getD i 0 : Nat) : Int))), some (vI (b8 c)), some (vI ((k : Int)))] [] g z r := by
    intro n
    induction n with
    | zero =>
      intro k hk hx
      refine R_iload dJ1_indexOfChar_4cfef_7 rfl ?_
      refine R_iload_n dJ1_indexOfChar_4cfef_9 rfl ?_
      refine R_icmp_ge 31 dJ1_indexOfChar_4cfef_10 (by decide) (fun hc10 => ?_) (fun hc10 => ?_)
      · refine R_iconst dJ1_indexOfChar_4cfef_31 rfl rfl ?_
        refine R_ireturn rfl (by first | rfl | exact nar_b2i | exact nar_bi) (by decide) (by decide) dJ1_indexOfChar_4cfef_32 ?_
        rw [List.drop_of_length_le (by rw [txL_len hi]; omega)] at hx
        rw [← hQ, ← hx]
        exact ⟨rfl, rfl, rfl, rfl, rfl⟩
      · exact absurd (by omega) hc10
    | succ n ih =>
      intro k hk hx
      have hlt : k < (txL i).length := by rw [txL_len hi]; omega
      have hg := txL_get hi (j := k) (by omega)
      rw [List.getElem?_eq_getElem hlt] at hg
      have hg := Option.some.inj hg
      rw [List.drop_eq_getElem_cons hlt, ixF, hg] at hx
      have hbd := txL_bd hi _ (List.getElem_mem hlt)
      rw [hg] at hbd
      refine R_iload dJ1_indexOfChar_4cfef_7 rfl ?_
      refine R_iload_n dJ1_indexOfChar_4cfef_9 rfl ?_
      refine R_icmp_ge 31 dJ1_indexOfChar_4cfef_10 (by decide) (fun hc10 => ?_) (fun hc10 => ?_)
      · exact absurd hc10 (by omega)
      refine R_aload_n dJ1_indexOfChar_4cfef_13 rfl ?_
      refine R_iload dJ1_indexOfChar_4cfef_14 rfl ?_
      refine R_balT hi (by omega) (by omega) dJ1_indexOfChar_4cfef_16 ?_
      rw [Int.toNat_natCast]
      generalize ((sxB.getD i []).getD k 0).toInt = x at *
      refine R_iload dJ1_indexOfChar_4cfef_17 rfl ?_
      refine R_icmp_ne 25 dJ1_indexOfChar_4cfef_19 (by decide) (fun hc19 => ?_) (fun hc19 => ?_)
      · rw [if_neg (fun q => hc19 ((b8_eq hc hbd).mpr q))] at hx
        refine R_iincN dJ1_indexOfChar_4cfef_25 rfl (by decide) rfl (by unfold inI; omega) [_, _, _, _, _, _] rfl ?_
        refine R_goto 7 dJ1_indexOfChar_4cfef_28 (by decide) ?_
        exact ih (k + 1) (by omega) hx
      · rw [if_pos ((b8_eq hc hbd).mp hc19)] at hx
        refine R_iload dJ1_indexOfChar_4cfef_22 rfl ?_
        refine R_ireturn rfl (by first | rfl | exact nar_b2i | exact nar_bi) (by decide) (by decide) dJ1_indexOfChar_4cfef_24 ?_
        rw [← hQ, ← hx]
        exact ⟨rfl, rfl, rfl, rfl, rfl⟩
  refine R_iload_n dJ1_indexOfChar_4cfef_0 rfl ?_
  refine R_i2b dJ1_indexOfChar_4cfef_1 ?_
  refine R_istore dJ1_indexOfChar_4cfef_2 (by decide) rfl [_, _, _, _, _, _] rfl ?_
  refine R_iload_n dJ1_indexOfChar_4cfef_4 rfl ?_
  refine R_istore dJ1_indexOfChar_4cfef_5 (by decide) rfl [_, _, _, _, _, _] rfl ?_
  exact loop (sxL.getD i 0) 0 (by omega) (by rw [List.drop_zero]; exact hX)
theorem j_indexOfL (i : Nat) (hi : i < 6) (c : Int) (hc : 0 ≤ c ∧ c ≤ 255) : CT (mJ1_indexOf_4cfef (rmD 1 0 0)) 0 0 shW [vR (some (100010 + i)), vI c, vI 0, vI ((sxL.getD i 0 : Nat) : Int)] g z r (qP shW g z r (some (vI (ixF c (txL i) 0)))) := by
  have h9 : 1 ≤ sxL.getD i 0 ∧ sxL.getD i 0 ≤ 9 := by rcases cases6 hi with rfl | rfl | rfl | rfl | rfl | rfl <;> decide
  refine CT.of 0 rfl rfl ?_
  refine R_iload_n dJ1_indexOf_4cfef_0 rfl ?_
  refine R_callS (as := [vI c]) (j_canEncode c hc) (mvJ1_canEncode_9a6ad _) ksJ1_canEncode_9a6ad kmJ1_88 ⟨rfl, rfl, by decide, by decide⟩ (Nat.le_of_ble_eq_true rfl) dJ1_indexOf_4cfef_1 (fun v1 sh1 g1 z1 r1 hq => ?_)
  obtain ⟨rfl, rfl, rfl, rfl, rfl⟩ := hq
  refine R_if_ne 9 dJ1_indexOf_4cfef_4 (by decide) (fun hc4 => ?_) (fun hc4 => ?_)
  rotate_left
  · exact absurd hc4 (by decide)
  refine R_iload_n dJ1_indexOf_4cfef_9 rfl ?_
  refine R_iconst dJ1_indexOf_4cfef_10 rfl rfl ?_
  refine R_mmax kmJ1_92 (by decide) (by decide) (by decide) (by decide) dJ1_indexOf_4cfef_11 ?_
  refine R_istore_n dJ1_indexOf_4cfef_14 (by decide) rfl [_, _, _, _] rfl ?_
  refine R_iload_n dJ1_indexOf_4cfef_15 rfl ?_
  refine R_aload_n dJ1_indexOf_4cfef_16 rfl ?_
  rw [if_neg (by decide)]
  refine R_alenT hi dJ1_indexOf_4cfef_17 ?_
  refine R_mmin kmJ1_38 (by decide) (by decide) (by decide) (by decide) dJ1_indexOf_4cfef_18 ?_
  rw [if_neg (by omega)]
  refine R_istore_n dJ1_indexOf_4cfef_21 (by decide) rfl [_, _, _, _] rfl ?_
  refine R_iload_n dJ1_indexOf_4cfef_22 rfl ?_
  refine R_iload_n dJ1_indexOf_4cfef_23 rfl ?_
  refine R_icmp_lt 29 dJ1_indexOf_4cfef_24 (by decide) (fun hc24 => ?_) (fun hc24 => ?_)
  rotate_left
  · exact absurd (by omega) hc24
  refine R_aload_n dJ1_indexOf_4cfef_29 rfl ?_
  refine R_iload_n dJ1_indexOf_4cfef_30 rfl ?_
  refine R_iload_n dJ1_indexOf_4cfef_31 rfl ?_
  refine R_iload_n dJ1_indexOf_4cfef_32 rfl ?_
  refine R_callS (as := [vR (some (100010 + i)), vI c, vI 0, vI ((sxL.getD i 0 : Nat) : Int)]) (j_indexOfChar i hi c hc) (mvJ1_indexOfChar_4cfef _) ksJ1_indexOfChar_4cfef kmJ1_95 ⟨rfl, rfl, by decide, by decide⟩ (Nat.le_of_ble_eq_true rfl) dJ1_indexOf_4cfef_33 (fun v1 sh1 g1 z1 r1 hq => ?_)
  obtain ⟨rfl, rfl, rfl, rfl, rfl⟩ := hq
  refine R_ireturn rfl (by first | rfl | exact nar_b2i | exact nar_bi) (by decide) (by decide) dJ1_indexOf_4cfef_36 ?_
  exact ⟨rfl, rfl, rfl, rfl, rfl⟩
theorem j_indexOf2 (i : Nat) (hi : i < 6) (c : Int) (hc : 0 ≤ c ∧ c ≤ 255) : CT (mJ0_indexOf_7cf53 (rmD 2 0 0)) 0 0 shW [vR (some (100000 + i)), vI c, vI 0] g z r (qP shW g z r (some (vI (ixF c (txL i) 0)))) := by
  refine CT.of 0 rfl rfl ?_
  refine R_aload_n dJ0_indexOf_7cf53_0 rfl ?_
  refine R_callT (as := []) hi (j_isLatin1 i hi) rfl (mvJ0_isLatin1_aae02 _) kiJ0_isLatin1_aae02 kvJ0_isLatin1_aae02 kmJ0_492 ⟨rfl, rfl, by decide, by decide⟩ (Nat.le_of_ble_eq_true rfl) dJ0_indexOf_7cf53_1 (fun v1 sh1 g1 z1 r1 hq => ?_)
  obtain ⟨rfl, rfl, rfl, rfl, rfl⟩ := hq
  refine R_if_eq 23 dJ0_indexOf_7cf53_4 (by decide) (fun hc4 => ?_) (fun hc4 => ?_)
  · exact absurd hc4 (by decide)
  refine R_aload_n dJ0_indexOf_7cf53_7 rfl ?_
  refine R_getVal hi kfJ0_9 dJ0_indexOf_7cf53_8 ?_
  refine R_iload_n dJ0_indexOf_7cf53_11 rfl ?_
  refine R_iload_n dJ0_indexOf_7cf53_12 rfl ?_
  refine R_aload_n dJ0_indexOf_7cf53_13 rfl ?_
  refine R_callT (as := []) hi (j_length i hi) rfl (mvJ0_length_8abf5 _) kiJ0_length_8abf5 kvJ0_length_8abf5 kmJ0_505 ⟨rfl, rfl, by decide, by decide⟩ (Nat.le_of_ble_eq_true rfl) dJ0_indexOf_7cf53_14 (fun v1 sh1 g1 z1 r1 hq => ?_)
  obtain ⟨rfl, rfl, rfl, rfl, rfl⟩ := hq
  refine R_callS (as := [vR (some (100010 + i)), vI c, vI 0, vI ((sxL.getD i 0 : Nat) : Int)]) (j_indexOfL i hi c hc) (mvJ1_indexOf_4cfef _) ksJ1_indexOf_4cfef kmJ0_637 ⟨rfl, rfl, by decide, by decide⟩ (Nat.le_of_ble_eq_true rfl) dJ0_indexOf_7cf53_17 (fun v1 sh1 g1 z1 r1 hq => ?_)
  obtain ⟨rfl, rfl, rfl, rfl, rfl⟩ := hq
  refine R_goto 36 dJ0_indexOf_7cf53_20 (by decide) ?_
  refine R_ireturn rfl (by first | rfl | exact nar_b2i | exact nar_bi) (by decide) (by decide) dJ0_indexOf_7cf53_36 ?_
  exact ⟨rfl, rfl, rfl, rfl, rfl⟩
theorem j_indexOf (i : Nat) (hi : i < 6) (c : Int) (hc : 0 ≤ c ∧ c ≤ 255) : CT (mJ0_indexOf_0f7a4 (rmD 3 0 0)) 0 0 shW [vR (some (100000 + i)), vI c] g z r (qP shW g z r (some (vI (ixF c (txL i) 0)))) := by
  refine CT.of 0 rfl rfl ?_
  refine R_aload_n dJ0_indexOf_0f7a4_0 rfl ?_
  refine R_iload_n dJ0_indexOf_0f7a4_1 rfl ?_
  refine R_iconst dJ0_indexOf_0f7a4_2 rfl rfl ?_
  refine R_callT (as := [vI c, vI 0]) hi (j_indexOf2 i hi c hc) rfl (mvJ0_indexOf_7cf53 _) kiJ0_indexOf_7cf53 kvJ0_indexOf_7cf53 kmJ0_633 ⟨rfl, rfl, by decide, by decide⟩ (Nat.le_of_ble_eq_true rfl) dJ0_indexOf_0f7a4_3 (fun v1 sh1 g1 z1 r1 hq => ?_)
  obtain ⟨rfl, rfl, rfl, rfl, rfl⟩ := hq
  refine R_ireturn rfl (by first | rfl | exact nar_b2i | exact nar_bi) (by decide) (by decide) dJ0_indexOf_0f7a4_6 ?_
  exact ⟨rfl, rfl, rfl, rfl, rfl⟩
theorem j_preCheck (x : Option Nat) (j n : Int) (hj : 0 ≤ j ∧ j < n) : CT (mJ3_checkIndex_8e157 (rmD 0 0 0)) 0 0 shW [vI j, vI n, vR x] g z r (qP shW g z r (some (vI j))) := by
  refine CT.of 0 rfl rfl ?_
  refine R_iload_n dJ3_checkIndex_8e157_0 rfl ?_
  refine R_if_lt 9 dJ3_checkIndex_8e157_1 (by decide) (fun hc1 => ?_) (fun hc1 => ?_)
  · exact absurd hc1 (by omega)
  refine R_iload_n dJ3_checkIndex_8e157_4 rfl ?_
  refine R_iload_n dJ3_checkIndex_8e157_5 rfl ?_
  refine R_icmp_lt 16 dJ3_checkIndex_8e157_6 (by decide) (fun hc6 => ?_) (fun hc6 => ?_)
  · refine R_iload_n dJ3_checkIndex_8e157_16 rfl ?_
    refine R_ireturn rfl (by first | rfl | exact nar_b2i | exact nar_bi) (by decide) (by decide) dJ3_checkIndex_8e157_17 ?_
    exact ⟨rfl, rfl, rfl, rfl, rfl⟩
  · exact absurd hj.2 (by omega)
theorem j_checkIndex (j n : Int) (hj : 0 ≤ j ∧ j < n) : CT (mJ0_checkIndex_df160 (rmD 1 0 0)) 0 0 shW [vI j, vI n] g z r (qP shW g z r none) := by
  refine CT.of 0 rfl rfl ?_
  refine R_iload_n dJ0_checkIndex_df160_0 rfl ?_
  refine R_iload_n dJ0_checkIndex_df160_1 rfl ?_
  refine R_gsF kfJ0_1053 dJ0_checkIndex_df160_2 (fun x => ?_)
  refine R_callS (as := [vI j, vI n, vR x]) (j_preCheck x j n hj) (mvJ3_checkIndex_8e157 _) ksJ3_checkIndex_8e157 kmJ0_1059 ⟨rfl, rfl, by decide, by decide⟩ (Nat.le_of_ble_eq_true rfl) dJ0_checkIndex_df160_5 (fun v1 sh1 g1 z1 r1 hq => ?_)
  obtain ⟨rfl, rfl, rfl, rfl, rfl⟩ := hq
  refine R_pop dJ0_checkIndex_df160_8 (fun _ h => by cases h) ?_
  refine R_return rfl (by decide) (by decide) dJ0_checkIndex_df160_9 ?_
  exact ⟨rfl, rfl, rfl, rfl, rfl⟩
theorem b16_lt : ∀ c : Nat, c < 256 → b16 (bAnd (c : Int) 255) = (c : Int) := by decide +kernel
theorem b16_id : ∀ c : Nat, c < 256 → b16 (c : Int) = (c : Int) := by decide +kernel
theorem nar_ch {v : Int} (h : b16 v = v) : narrow .char (.int (i32 v)) = .int (i32 v) := by
  have e : narrow .char (.int (i32 v)) = .int (((i32 v).toUInt32 % 65536).toInt32) := rfl
  have e2 : i32 (b16 v) = ((i32 v).toUInt32 % 65536).toInt32 := by rw [b16, o32]
  rw [e, ← e2, h]
theorem nar_ch' {v : Int} (h : 0 ≤ v ∧ v ≤ 255) : narrow .char (.int (i32 v)) = .int (i32 v) := by
  obtain ⟨n, rfl⟩ : ∃ n : Nat, v = (n : Int) := ⟨v.toNat, by omega⟩
  exact nar_ch (b16_id n (by omega))
theorem j_charAtL (i : Nat) (hi : i < 6) (j : Nat) (hj : j < sxL.getD i 0) : CT (mJ1_charAt_3b067 (rmD 2 0 0)) 0 0 shW [vR (some (100010 + i)), vI (j : Int)] g z r (qP shW g z r (some (vI ((txL i).getD j 0)))) := by
  have hg := txL_get hi hj
  have hlt : j < (txL i).length := by rw [txL_len hi]; omega
  have hbd := txL_bd hi _ (List.getElem_mem hlt)
  have hgd : (txL i).getD j 0 = ((sxB.getD i []).getD j 0).toInt := by rw [List.getD_eq_getElem?_getD, hg, Option.getD_some]
  rw [List.getElem?_eq_getElem hlt] at hg
  have hg := Option.some.inj hg
  rw [hg] at hbd
  rw [hgd]
  refine CT.of 0 rfl rfl ?_
  refine R_iload_n dJ1_charAt_3b067_0 rfl ?_
  refine R_aload_n dJ1_charAt_3b067_1 rfl ?_
  refine R_alenT hi dJ1_charAt_3b067_2 ?_
  refine R_callS (as := [vI (j : Int), vI ((sxL.getD i 0 : Nat) : Int)]) (j_checkIndex (j : Int) ((sxL.getD i 0 : Nat) : Int) (by omega)) (mvJ0_checkIndex_df160 _) ksJ0_checkIndex_df160 kmJ1_9 ⟨rfl, rfl, by decide, by decide⟩ (Nat.le_of_ble_eq_true rfl) dJ1_charAt_3b067_3 (fun v1 sh1 g1 z1 r1 hq => ?_)
  obtain ⟨rfl, rfl, rfl, rfl, rfl⟩ := hq
  refine R_aload_n dJ1_charAt_3b067_6 rfl ?_
  refine R_iload_n dJ1_charAt_3b067_7 rfl ?_
  refine R_balT hi (by omega) (by omega) dJ1_charAt_3b067_8 ?_
  rw [Int.toNat_natCast]
  refine R_sipush dJ1_charAt_3b067_9 rfl (by decide +kernel) ?_
  refine R_iand dJ1_charAt_3b067_12 ?_
  refine R_i2c dJ1_charAt_3b067_13 ?_
  obtain ⟨x, hx⟩ : ∃ x : Nat, ((sxB.getD i []).getD j 0).toInt = (x : Int) := ⟨_, (Int.toNat_of_nonneg hbd.1).symm⟩
  rw [hx, b16_lt x (by omega)]
  refine R_ireturn rfl (by exact nar_ch (b16_id x (by omega))) (by decide) (by decide) dJ1_charAt_3b067_14 ?_
  exact ⟨rfl, rfl, rfl, rfl, rfl⟩
theorem j_charAt (i : Nat) (hi : i < 6) (j : Nat) (hj : j < sxL.getD i 0) : CT (mJ0_charAt_5068e (rmD 3 0 0)) 0 0 shW [vR (some (100000 + i)), vI (j : Int)] g z r (qP shW g z r (some (vI ((txL i).getD j 0)))) := by
  have hlt : j < (txL i).length := by rw [txL_len hi]; omega
  have hbd := txL_bd hi _ (List.getElem_mem hlt)
  have hgd : (txL i).getD j 0 = (txL i)[j] := by rw [List.getD_eq_getElem?_getD, List.getElem?_eq_getElem hlt, Option.getD_some]
  refine CT.of 0 rfl rfl ?_
  refine R_aload_n dJ0_charAt_5068e_0 rfl ?_
  refine R_callT (as := []) hi (j_isLatin1 i hi) rfl (mvJ0_isLatin1_aae02 _) kiJ0_isLatin1_aae02 kvJ0_isLatin1_aae02 kmJ0_492 ⟨rfl, rfl, by decide, by decide⟩ (Nat.le_of_ble_eq_true rfl) dJ0_charAt_5068e_1 (fun v1 sh1 g1 z1 r1 hq => ?_)
  obtain ⟨rfl, rfl, rfl, rfl, rfl⟩ := hq
  refine R_if_eq 16 dJ0_charAt_5068e_4 (by decide) (fun hc4 => ?_) (fun hc4 => ?_)
  · exact absurd hc4 (by decide)
  refine R_aload_n dJ0_charAt_5068e_7 rfl ?_
  refine R_getVal hi kfJ0_9 dJ0_charAt_5068e_8 ?_
  refine R_iload_n dJ0_charAt_5068e_11 rfl ?_
  refine R_callS (as := [vR (some (100010 + i)), vI (j : Int)]) (j_charAtL i hi j hj) (mvJ1_charAt_3b067 _) ksJ1_charAt_3b067 kmJ0_495 ⟨rfl, rfl, by decide, by decide⟩ (Nat.le_of_ble_eq_true rfl) dJ0_charAt_5068e_12 (fun v1 sh1 g1 z1 r1 hq => ?_)
  obtain ⟨rfl, rfl, rfl, rfl, rfl⟩ := hq
  refine R_ireturn rfl (by exact nar_ch' (by rw [hgd]; omega)) (by decide) (by decide) dJ0_charAt_5068e_15 ?_
  exact ⟨rfl, rfl, rfl, rfl, rfl⟩
end JDK
