theorem nh_X8 : RX8 ≠ "java/lang/invoke/MethodHandle" ∧ RX8 ≠ "java/lang/invoke/VarHandle" := by decide +kernel
theorem pd_1 : (parseMethodDescriptor "()V").map (fun d => d.parameters.length) = some 0 := by decide +kernel
theorem yi_X8_init : YI yX8_init cX8_init 1 0 := ⟨tb_1 23 (by rfl) rfl, tb_1 22 (by decide +kernel) rfl, tb_1 1 (by decide +kernel) rfl, rfl, nh_X8.1, nh_X8.2, pd_1⟩
theorem nh_X1 : RX1 ≠ "java/lang/invoke/MethodHandle" ∧ RX1 ≠ "java/lang/invoke/VarHandle" := by decide +kernel
theorem yi_X1_init : YI yX1_init cX1_init 1 0 := ⟨tb_1 31 (by rfl) rfl, tb_1 30 (by decide +kernel) rfl, tb_1 2 (by decide +kernel) rfl, rfl, nh_X1.1, nh_X1.2, pd_1⟩
theorem nh_X3 : RX3 ≠ "java/lang/invoke/MethodHandle" ∧ RX3 ≠ "java/lang/invoke/VarHandle" := by decide +kernel
theorem yi_X3_init : YI yX3_init cX3_init 1 0 := ⟨tb_1 37 (by rfl) rfl, tb_1 36 (by decide +kernel) rfl, tb_1 3 (by decide +kernel) rfl, rfl, nh_X3.1, nh_X3.2, pd_1⟩
theorem nh_X5 : RX5 ≠ "java/lang/invoke/MethodHandle" ∧ RX5 ≠ "java/lang/invoke/VarHandle" := by decide +kernel
theorem yi_X5_init : YI yX5_init cX5_init 1 0 := ⟨tb_1 61 (by rfl) rfl, tb_1 60 (by decide +kernel) rfl, tb_1 4 (by decide +kernel) rfl, rfl, nh_X5.1, nh_X5.2, pd_1⟩
theorem nh_X6 : RX6 ≠ "java/lang/invoke/MethodHandle" ∧ RX6 ≠ "java/lang/invoke/VarHandle" := by decide +kernel
theorem yi_X6_init : YI yX6_init cX6_init 1 0 := ⟨tb_1 171 (by rfl) rfl, tb_1 170 (by decide +kernel) rfl, tb_1 5 (by decide +kernel) rfl, rfl, nh_X6.1, nh_X6.2, pd_1⟩
theorem nh_X4 : RX4 ≠ "java/lang/invoke/MethodHandle" ∧ RX4 ≠ "java/lang/invoke/VarHandle" := by decide +kernel
theorem yi_X4_init : YI yX4_init cX4_init 1 0 := ⟨tb_1 187 (by rfl) rfl, tb_1 186 (by decide +kernel) rfl, tb_1 6 (by decide +kernel) rfl, rfl, nh_X4.1, nh_X4.2, pd_1⟩
theorem nh_X0 : RX0 ≠ "java/lang/invoke/MethodHandle" ∧ RX0 ≠ "java/lang/invoke/VarHandle" := by decide +kernel
theorem yi_X0_init : YI yX0_init cX0_init 1 0 := ⟨tb_1 233 (by rfl) rfl, tb_1 232 (by decide +kernel) rfl, tb_1 7 (by decide +kernel) rfl, rfl, nh_X0.1, nh_X0.2, pd_1⟩
theorem nh_X2 : RX2 ≠ "java/lang/invoke/MethodHandle" ∧ RX2 ≠ "java/lang/invoke/VarHandle" := by decide +kernel
theorem yi_X2_init : YI yX2_init cX2_init 1 0 := ⟨tb_2 7 (by rfl) rfl, tb_2 6 (by decide +kernel) rfl, tb_1 8 (by decide +kernel) rfl, rfl, nh_X2.1, nh_X2.2, pd_1⟩
theorem pd_9 : (parseMethodDescriptor "(II)I").map (fun d => d.parameters.length) = some 2 := by decide +kernel
theorem yv_X8_perch : YV yX8_perch cX8_perch 3 (some .int) 2 := ⟨tb_2 96 (by rfl) rfl, tb_2 94 (by decide +kernel) rfl, tb_2 95 (by decide +kernel) rfl, tb_1 1 (by decide +kernel) rfl, nh_X8.1, nh_X8.2, pd_9⟩
theorem pd_10 : (parseMethodDescriptor "(J)Z").map (fun d => d.parameters.length) = some 1 := by decide +kernel
theorem ys_X8_isRoom : YS yX8_isRoom cX8_isRoom 2 (some .boolean) 1 := ⟨tb_2 99 (by rfl) rfl, tb_2 98 (by decide +kernel) rfl, tb_1 1 (by decide +kernel) rfl, nh_X8.1, nh_X8.2, pd_10⟩
theorem pd_11 : (parseMethodDescriptor "(I)I").map (fun d => d.parameters.length) = some 1 := by decide +kernel
theorem yv_X8_refuse : YV yX8_refuse cX8_refuse 3 (some .int) 1 := ⟨tb_2 104 (by rfl) rfl, tb_2 103 (by decide +kernel) rfl, tp_1 (y := yX8_refuse) (n := 19) 0 (by decide +kernel), tb_1 1 (by decide +kernel) rfl, nh_X8.1, nh_X8.2, pd_11⟩
theorem ys_X8_kindOfRefusal : YS yX8_kindOfRefusal cX8_kindOfRefusal 1 (some .int) 1 := ⟨tb_2 107 (by rfl) rfl, tb_2 106 (by decide +kernel) rfl, tb_1 1 (by decide +kernel) rfl, nh_X8.1, nh_X8.2, pd_11⟩
theorem yv_X0_clear : YV yX0_clear cX0_clear 1 none 0 := ⟨tb_2 111 (by rfl) rfl, tb_2 109 (by decide +kernel) rfl, tb_2 110 (by decide +kernel) rfl, tb_1 7 (by decide +kernel) rfl, nh_X0.1, nh_X0.2, pd_1⟩
theorem yv_X3_add : YV yX3_add cX3_add 3 (some .int) 2 := ⟨tb_2 115 (by rfl) rfl, tb_2 113 (by decide +kernel) rfl, tb_2 114 (by decide +kernel) rfl, tb_1 3 (by decide +kernel) rfl, nh_X3.1, nh_X3.2, pd_9⟩
theorem yv_X8_grant : YV yX8_grant cX8_grant 2 (some .int) 1 := ⟨tb_2 119 (by rfl) rfl, tb_2 118 (by decide +kernel) rfl, tp_1 (y := yX8_grant) (n := 19) 1 (by decide +kernel), tb_1 1 (by decide +kernel) rfl, nh_X8.1, nh_X8.2, pd_11⟩
theorem yv_X8_at : YV yX8_at cX8_at 3 (some .int) 2 := ⟨tb_2 123 (by rfl) rfl, tb_2 121 (by decide +kernel) rfl, tb_2 122 (by decide +kernel) rfl, tb_1 1 (by decide +kernel) rfl, nh_X8.1, nh_X8.2, pd_9⟩
theorem pd_12 : (parseMethodDescriptor "(I)Z").map (fun d => d.parameters.length) = some 1 := by decide +kernel
theorem yv_X3_isOne : YV yX3_isOne cX3_isOne 2 (some .boolean) 1 := ⟨tb_2 127 (by rfl) rfl, tb_2 125 (by decide +kernel) rfl, tb_2 126 (by decide +kernel) rfl, tb_1 3 (by decide +kernel) rfl, nh_X3.1, nh_X3.2, pd_12⟩
theorem yv_X3_roomOf : YV yX3_roomOf cX3_roomOf 2 (some .int) 1 := ⟨tb_2 131 (by rfl) rfl, tb_2 129 (by decide +kernel) rfl, tb_2 130 (by decide +kernel) rfl, tb_1 3 (by decide +kernel) rfl, nh_X3.1, nh_X3.2, pd_11⟩
theorem yv_X3_highOf : YV yX3_highOf cX3_highOf 2 (some .int) 1 := ⟨tb_2 136 (by rfl) rfl, tb_2 134 (by decide +kernel) rfl, tb_2 135 (by decide +kernel) rfl, tb_1 3 (by decide +kernel) rfl, nh_X3.1, nh_X3.2, pd_11⟩
theorem pd_13 : (parseMethodDescriptor "(II)Z").map (fun d => d.parameters.length) = some 2 := by decide +kernel
theorem yv_X1_isSafe : YV yX1_isSafe cX1_isSafe 3 (some .boolean) 2 := ⟨tb_2 140 (by rfl) rfl, tb_2 138 (by decide +kernel) rfl, tb_2 139 (by decide +kernel) rfl, tb_1 2 (by decide +kernel) rfl, nh_X1.1, nh_X1.2, pd_13⟩
theorem pd_14 : (parseMethodDescriptor "()LLowerHalf$Text;").map (fun d => d.parameters.length) = some 0 := by decide +kernel
theorem yv_X1_lawInForce : YV yX1_lawInForce cX1_lawInForce 1 (some (.object "LowerHalf$Text")) 0 := ⟨tb_2 146 (by rfl) rfl, tb_2 144 (by decide +kernel) rfl, tb_2 145 (by decide +kernel) rfl, tb_1 2 (by decide +kernel) rfl, nh_X1.1, nh_X1.2, pd_14⟩
theorem yv_X1_isLaw : YV yX1_isLaw cX1_isLaw 2 (some .boolean) 1 := ⟨tb_2 150 (by rfl) rfl, tb_2 148 (by decide +kernel) rfl, tb_2 149 (by decide +kernel) rfl, tb_1 2 (by decide +kernel) rfl, nh_X1.1, nh_X1.2, pd_12⟩
theorem pd_15 : (parseMethodDescriptor "(LLowerHalf$Text;II)I").map (fun d => d.parameters.length) = some 3 := by decide +kernel
theorem yv_X1_theirsBy : YV yX1_theirsBy cX1_theirsBy 6 (some .int) 3 := ⟨tb_2 155 (by rfl) rfl, tb_2 153 (by decide +kernel) rfl, tb_2 154 (by decide +kernel) rfl, tb_1 2 (by decide +kernel) rfl, nh_X1.1, nh_X1.2, pd_15⟩
theorem pd_16 : (parseMethodDescriptor "(III)V").map (fun d => d.parameters.length) = some 3 := by decide +kernel
theorem yv_X5_tellLawWords : YV yX5_tellLawWords cX5_tellLawWords 4 none 3 := ⟨tb_2 159 (by rfl) rfl, tb_2 157 (by decide +kernel) rfl, tb_2 158 (by decide +kernel) rfl, tb_1 4 (by decide +kernel) rfl, nh_X5.1, nh_X5.2, pd_16⟩
theorem nh_J7 : RJ7 ≠ "java/lang/invoke/MethodHandle" ∧ RJ7 ≠ "java/lang/invoke/VarHandle" := by decide +kernel
theorem pd_18 : (parseMethodDescriptor "([II)V").map (fun d => d.parameters.length) = some 2 := by decide +kernel
theorem ys_J7_fill_53178 : YS yJ7_fill_53178 cJ7_fill_53178 4 none 2 := ⟨tb_2 162 (by rfl) rfl, tb_2 161 (by decide +kernel) rfl, tb_1 10 (by decide +kernel) rfl, nh_J7.1, nh_J7.2, pd_18⟩
theorem nh_X7 : RX7 ≠ "java/lang/invoke/MethodHandle" ∧ RX7 ≠ "java/lang/invoke/VarHandle" := by decide +kernel
theorem pd_20 : (parseMethodDescriptor "(ILLowerHalf$Reckoner;)J").map (fun d => d.parameters.length) = some 2 := by decide +kernel
theorem yv_X7_told : YV yX7_told cX7_told 8 (some .long) 2 := ⟨tb_2 166 (by rfl) rfl, tb_2 164 (by decide +kernel) rfl, tb_2 165 (by decide +kernel) rfl, tb_1 16 (by decide +kernel) rfl, nh_X7.1, nh_X7.2, pd_20⟩
theorem yv_X7_field : YV yX7_field cX7_field 4 (some .int) 2 := ⟨tb_2 170 (by rfl) rfl, tb_2 168 (by decide +kernel) rfl, tb_2 169 (by decide +kernel) rfl, tb_1 16 (by decide +kernel) rfl, nh_X7.1, nh_X7.2, pd_9⟩
theorem pd_21 : (parseMethodDescriptor "([III)J").map (fun d => d.parameters.length) = some 3 := by decide +kernel
theorem yv_X5_value : YV yX5_value cX5_value 9 (some .long) 3 := ⟨tb_2 174 (by rfl) rfl, tb_2 172 (by decide +kernel) rfl, tb_2 173 (by decide +kernel) rfl, tb_1 4 (by decide +kernel) rfl, nh_X5.1, nh_X5.2, pd_21⟩
theorem nh_J9 : RJ9 ≠ "java/lang/invoke/MethodHandle" ∧ RJ9 ≠ "java/lang/invoke/VarHandle" := by decide +kernel
theorem ys_J9_max_7cf53 : YS yJ9_max_7cf53 cJ9_max_7cf53 2 (some .int) 2 := ⟨tb_2 177 (by rfl) rfl, tb_2 176 (by decide +kernel) rfl, tb_1 11 (by decide +kernel) rfl, nh_J9.1, nh_J9.2, pd_9⟩
theorem pd_23 : (parseMethodDescriptor "(IJJ)J").map (fun d => d.parameters.length) = some 3 := by decide +kernel
theorem ys_X5_joined : YS yX5_joined cX5_joined 7 (some .long) 3 := ⟨tb_2 181 (by rfl) rfl, tb_2 180 (by decide +kernel) rfl, tb_1 4 (by decide +kernel) rfl, nh_X5.1, nh_X5.2, pd_23⟩
theorem pd_24 : (parseMethodDescriptor "(JJ)J").map (fun d => d.parameters.length) = some 2 := by decide +kernel
theorem ys_J9_min_f86c9 : YS yJ9_min_f86c9 cJ9_min_f86c9 4 (some .long) 2 := ⟨tb_2 189 (by rfl) rfl, tb_2 188 (by decide +kernel) rfl, tb_1 11 (by decide +kernel) rfl, nh_J9.1, nh_J9.2, pd_24⟩
theorem ys_J9_max_f86c9 : YS yJ9_max_f86c9 cJ9_max_f86c9 4 (some .long) 2 := ⟨tb_2 192 (by rfl) rfl, tb_2 191 (by decide +kernel) rfl, tb_1 11 (by decide +kernel) rfl, nh_J9.1, nh_J9.2, pd_24⟩
theorem yv_X3_between : YV yX3_between cX3_between 3 (some .int) 2 := ⟨tb_2 196 (by rfl) rfl, tb_2 194 (by decide +kernel) rfl, tb_2 195 (by decide +kernel) rfl, tb_1 3 (by decide +kernel) rfl, nh_X3.1, nh_X3.2, pd_9⟩
theorem yv_X8_folk : YV yX8_folk cX8_folk 4 (some .int) 2 := ⟨tb_2 200 (by rfl) rfl, tb_2 198 (by decide +kernel) rfl, tb_2 199 (by decide +kernel) rfl, tb_1 1 (by decide +kernel) rfl, nh_X8.1, nh_X8.2, pd_9⟩
theorem yv_X8_of : YV yX8_of cX8_of 3 (some .int) 2 := ⟨tb_2 204 (by rfl) rfl, tb_2 202 (by decide +kernel) rfl, tb_2 203 (by decide +kernel) rfl, tb_1 1 (by decide +kernel) rfl, nh_X8.1, nh_X8.2, pd_9⟩
theorem yv_X1_isFolk : YV yX1_isFolk cX1_isFolk 2 (some .boolean) 1 := ⟨tb_2 208 (by rfl) rfl, tb_2 206 (by decide +kernel) rfl, tb_2 207 (by decide +kernel) rfl, tb_1 2 (by decide +kernel) rfl, nh_X1.1, nh_X1.2, pd_12⟩
theorem yv_X8_badger : YV yX8_badger cX8_badger 3 (some .int) 1 := ⟨tb_2 212 (by rfl) rfl, tb_2 210 (by decide +kernel) rfl, tb_2 211 (by decide +kernel) rfl, tb_1 1 (by decide +kernel) rfl, nh_X8.1, nh_X8.2, pd_11⟩
theorem yv_X8_sow : YV yX8_sow cX8_sow 3 (some .int) 2 := ⟨tb_2 216 (by rfl) rfl, tb_2 214 (by decide +kernel) rfl, tb_2 215 (by decide +kernel) rfl, tb_1 1 (by decide +kernel) rfl, nh_X8.1, nh_X8.2, pd_9⟩
theorem yv_X1_isBadger : YV yX1_isBadger cX1_isBadger 2 (some .boolean) 1 := ⟨tb_2 220 (by rfl) rfl, tb_2 218 (by decide +kernel) rfl, tb_2 219 (by decide +kernel) rfl, tb_1 2 (by decide +kernel) rfl, nh_X1.1, nh_X1.2, pd_12⟩
theorem pd_25 : (parseMethodDescriptor "(III)I").map (fun d => d.parameters.length) = some 3 := by decide +kernel
theorem yv_X1_whither : YV yX1_whither cX1_whither 9 (some .int) 3 := ⟨tb_2 224 (by rfl) rfl, tb_2 222 (by decide +kernel) rfl, tb_2 223 (by decide +kernel) rfl, tb_1 2 (by decide +kernel) rfl, nh_X1.1, nh_X1.2, pd_25⟩
theorem yv_X1_isOpen : YV yX1_isOpen cX1_isOpen 3 (some .boolean) 2 := ⟨tb_2 229 (by rfl) rfl, tb_2 227 (by decide +kernel) rfl, tb_2 228 (by decide +kernel) rfl, tb_1 2 (by decide +kernel) rfl, nh_X1.1, nh_X1.2, pd_13⟩
theorem ys_X8_hasBit : YS yX8_hasBit cX8_hasBit 2 (some .boolean) 2 := ⟨tb_2 232 (by rfl) rfl, tb_2 231 (by decide +kernel) rfl, tb_1 1 (by decide +kernel) rfl, nh_X8.1, nh_X8.2, pd_13⟩
theorem yv_X8_thing : YV yX8_thing cX8_thing 5 (some .int) 3 := ⟨tb_2 236 (by rfl) rfl, tb_2 234 (by decide +kernel) rfl, tb_2 235 (by decide +kernel) rfl, tb_1 1 (by decide +kernel) rfl, nh_X8.1, nh_X8.2, pd_25⟩
theorem yv_X8_has : YV yX8_has cX8_has 3 (some .int) 2 := ⟨tb_3 0 (by rfl) rfl, tb_2 238 (by decide +kernel) rfl, tb_2 239 (by decide +kernel) rfl, tb_1 1 (by decide +kernel) rfl, nh_X8.1, nh_X8.2, pd_9⟩
theorem yv_X1_isThing : YV yX1_isThing cX1_isThing 2 (some .boolean) 1 := ⟨tb_3 4 (by rfl) rfl, tb_3 2 (by decide +kernel) rfl, tb_3 3 (by decide +kernel) rfl, tb_1 2 (by decide +kernel) rfl, nh_X1.1, nh_X1.2, pd_12⟩
theorem yv_X8_link : YV yX8_link cX8_link 5 (some .int) 3 := ⟨tb_3 8 (by rfl) rfl, tb_3 6 (by decide +kernel) rfl, tb_3 7 (by decide +kernel) rfl, tb_1 1 (by decide +kernel) rfl, nh_X8.1, nh_X8.2, pd_25⟩
theorem ys_X3_canBeLong : YS yX3_canBeLong cX3_canBeLong 1 (some .boolean) 1 := ⟨tb_3 11 (by rfl) rfl, tb_3 10 (by decide +kernel) rfl, tb_1 3 (by decide +kernel) rfl, nh_X3.1, nh_X3.2, pd_12⟩
theorem yv_X3_join : YV yX3_join cX3_join 4 none 3 := ⟨tb_3 15 (by rfl) rfl, tb_3 13 (by decide +kernel) rfl, tb_3 14 (by decide +kernel) rfl, tb_1 3 (by decide +kernel) rfl, nh_X3.1, nh_X3.2, pd_16⟩
theorem yv_X8_room : YV yX8_room cX8_room 3 (some .int) 2 := ⟨tb_3 19 (by rfl) rfl, tb_3 17 (by decide +kernel) rfl, tb_3 18 (by decide +kernel) rfl, tb_1 1 (by decide +kernel) rfl, nh_X8.1, nh_X8.2, pd_9⟩
theorem yv_X1_badgersIn : YV yX1_badgersIn cX1_badgersIn 4 (some .int) 1 := ⟨tb_3 25 (by rfl) rfl, tb_3 23 (by decide +kernel) rfl, tb_3 24 (by decide +kernel) rfl, tb_1 2 (by decide +kernel) rfl, nh_X1.1, nh_X1.2, pd_11⟩
theorem yv_X8_can : YV yX8_can cX8_can 3 (some .int) 2 := ⟨tb_3 29 (by rfl) rfl, tb_3 27 (by decide +kernel) rfl, tb_3 28 (by decide +kernel) rfl, tb_1 1 (by decide +kernel) rfl, nh_X8.1, nh_X8.2, pd_9⟩
theorem yv_X1_mayStride : YV yX1_mayStride cX1_mayStride 3 (some .boolean) 2 := ⟨tb_3 33 (by rfl) rfl, tb_3 31 (by decide +kernel) rfl, tb_3 32 (by decide +kernel) rfl, tb_1 2 (by decide +kernel) rfl, nh_X1.1, nh_X1.2, pd_13⟩
theorem pd_26 : (parseMethodDescriptor "(III)Z").map (fun d => d.parameters.length) = some 3 := by decide +kernel
theorem yv_X1_leads : YV yX1_leads cX1_leads 7 (some .boolean) 3 := ⟨tb_3 38 (by rfl) rfl, tb_3 36 (by decide +kernel) rfl, tb_3 37 (by decide +kernel) rfl, tb_1 2 (by decide +kernel) rfl, nh_X1.1, nh_X1.2, pd_26⟩
theorem yv_X1_isBarred : YV yX1_isBarred cX1_isBarred 5 (some .boolean) 3 := ⟨tb_3 43 (by rfl) rfl, tb_3 41 (by decide +kernel) rfl, tb_3 42 (by decide +kernel) rfl, tb_1 2 (by decide +kernel) rfl, nh_X1.1, nh_X1.2, pd_26⟩
theorem yv_X8_terms : YV yX8_terms cX8_terms 4 (some .int) 2 := ⟨tb_3 47 (by rfl) rfl, tb_3 45 (by decide +kernel) rfl, tb_3 46 (by decide +kernel) rfl, tb_1 1 (by decide +kernel) rfl, nh_X8.1, nh_X8.2, pd_9⟩
theorem ys_X8_mostOfTerm : YS yX8_mostOfTerm cX8_mostOfTerm 1 (some .int) 1 := ⟨tb_3 50 (by rfl) rfl, tb_3 49 (by decide +kernel) rfl, tb_1 1 (by decide +kernel) rfl, nh_X8.1, nh_X8.2, pd_11⟩
theorem pd_27 : (parseMethodDescriptor "(IIIII)I").map (fun d => d.parameters.length) = some 5 := by decide +kernel
theorem yv_X8_feed : YV yX8_feed cX8_feed 6 (some .int) 5 := ⟨tb_3 54 (by rfl) rfl, tb_3 52 (by decide +kernel) rfl, tb_3 53 (by decide +kernel) rfl, tb_1 1 (by decide +kernel) rfl, nh_X8.1, nh_X8.2, pd_27⟩
theorem yv_X6_hasPlaceFor : YV yX6_hasPlaceFor cX6_hasPlaceFor 2 (some .boolean) 1 := ⟨tb_3 58 (by rfl) rfl, tb_3 56 (by decide +kernel) rfl, tb_3 57 (by decide +kernel) rfl, tb_1 5 (by decide +kernel) rfl, nh_X6.1, nh_X6.2, pd_12⟩
theorem pd_28 : (parseMethodDescriptor "(I)V").map (fun d => d.parameters.length) = some 1 := by decide +kernel
theorem yv_X6_addNumber : YV yX6_addNumber cX6_addNumber 3 none 1 := ⟨tb_3 62 (by rfl) rfl, tb_3 60 (by decide +kernel) rfl, tb_3 61 (by decide +kernel) rfl, tb_1 5 (by decide +kernel) rfl, nh_X6.1, nh_X6.2, pd_28⟩
theorem yv_X8_end : YV yX8_end cX8_end 2 (some .int) 1 := ⟨tb_3 67 (by rfl) rfl, tb_3 65 (by decide +kernel) rfl, tb_3 66 (by decide +kernel) rfl, tb_1 1 (by decide +kernel) rfl, nh_X8.1, nh_X8.2, pd_11⟩
theorem pd_29 : (parseMethodDescriptor "()I").map (fun d => d.parameters.length) = some 0 := by decide +kernel
theorem yv_X8_row : YV yX8_row cX8_row 4 (some .int) 0 := ⟨tb_3 71 (by rfl) rfl, tb_3 69 (by decide +kernel) rfl, tb_3 70 (by decide +kernel) rfl, tb_1 1 (by decide +kernel) rfl, nh_X8.1, nh_X8.2, pd_29⟩
theorem yv_X6_byteAt : YV yX6_byteAt cX6_byteAt 2 (some .int) 1 := ⟨tb_3 75 (by rfl) rfl, tb_3 73 (by decide +kernel) rfl, tb_3 74 (by decide +kernel) rfl, tb_1 5 (by decide +kernel) rfl, nh_X6.1, nh_X6.2, pd_11⟩
theorem yv_X8_linkedByRow : YV yX8_linkedByRow cX8_linkedByRow 4 (some .boolean) 3 := ⟨tb_3 79 (by rfl) rfl, tb_3 78 (by decide +kernel) rfl, tp_1 (y := yX8_linkedByRow) (n := 19) 2 (by decide +kernel), tb_1 1 (by decide +kernel) rfl, nh_X8.1, nh_X8.2, pd_26⟩
theorem yv_X8_scratches : YV yX8_scratches cX8_scratches 1 (some .int) 0 := ⟨tb_3 83 (by rfl) rfl, tb_3 81 (by decide +kernel) rfl, tb_3 82 (by decide +kernel) rfl, tb_1 1 (by decide +kernel) rfl, nh_X8.1, nh_X8.2, pd_29⟩
theorem yv_X8_law : YV yX8_law cX8_law 4 (some .int) 0 := ⟨tb_3 87 (by rfl) rfl, tb_3 85 (by decide +kernel) rfl, tb_3 86 (by decide +kernel) rfl, tb_1 1 (by decide +kernel) rfl, nh_X8.1, nh_X8.2, pd_29⟩
theorem pd_30 : (parseMethodDescriptor "(LLowerHalf$Tape;IZ)LLowerHalf$Text;").map (fun d => d.parameters.length) = some 3 := by decide +kernel
theorem yv_X4_read : YV yX4_read cX4_read 5 (some (.object "LowerHalf$Text")) 3 := ⟨tb_3 91 (by rfl) rfl, tb_3 89 (by decide +kernel) rfl, tb_3 90 (by decide +kernel) rfl, tb_1 6 (by decide +kernel) rfl, nh_X4.1, nh_X4.2, pd_30⟩
theorem pd_31 : (parseMethodDescriptor "(LLowerHalf$Tape;I)V").map (fun d => d.parameters.length) = some 2 := by decide +kernel
theorem yv_X4_cutIntoTokens : YV yX4_cutIntoTokens cX4_cutIntoTokens 6 none 2 := ⟨tb_3 95 (by rfl) rfl, tb_3 94 (by decide +kernel) rfl, tp_1 (y := yX4_cutIntoTokens) (n := 12) 3 (by decide +kernel), tb_1 6 (by decide +kernel) rfl, nh_X4.1, nh_X4.2, pd_31⟩
theorem pd_32 : (parseMethodDescriptor "(LLowerHalf$Tape;II)I").map (fun d => d.parameters.length) = some 3 := by decide +kernel
theorem ys_X4_endOfToken : YS yX4_endOfToken cX4_endOfToken 5 (some .int) 3 := ⟨tb_3 99 (by rfl) rfl, tb_3 98 (by decide +kernel) rfl, tb_1 6 (by decide +kernel) rfl, nh_X4.1, nh_X4.2, pd_32⟩
theorem ys_X4_isLetter : YS yX4_isLetter cX4_isLetter 1 (some .boolean) 1 := ⟨tb_3 102 (by rfl) rfl, tb_3 101 (by decide +kernel) rfl, tb_1 6 (by decide +kernel) rfl, nh_X4.1, nh_X4.2, pd_12⟩
theorem ys_X4_isDigit : YS yX4_isDigit cX4_isDigit 1 (some .boolean) 1 := ⟨tb_3 105 (by rfl) rfl, tb_3 104 (by decide +kernel) rfl, tb_1 6 (by decide +kernel) rfl, nh_X4.1, nh_X4.2, pd_12⟩
theorem ys_X4_wordAt : YS yX4_wordAt cX4_wordAt 4 (some .int) 3 := ⟨tb_3 108 (by rfl) rfl, tb_3 107 (by decide +kernel) rfl, tb_1 6 (by decide +kernel) rfl, nh_X4.1, nh_X4.2, pd_32⟩
theorem nh_J0 : RJ0 ≠ "java/lang/invoke/MethodHandle" ∧ RJ0 ≠ "java/lang/invoke/VarHandle" := by decide +kernel
theorem yv_J0_length_8abf5 : YV yJ0_length_8abf5 cJ0_length_8abf5 1 (some .int) 0 := ⟨tb_3 113 (by rfl) rfl, tb_3 111 (by decide +kernel) rfl, tb_3 112 (by decide +kernel) rfl, tb_1 12 (by decide +kernel) rfl, nh_J0.1, nh_J0.2, pd_29⟩
theorem pd_34 : (parseMethodDescriptor "()B").map (fun d => d.parameters.length) = some 0 := by decide +kernel
theorem yv_J0_coder_7d493 : YV yJ0_coder_7d493 cJ0_coder_7d493 1 (some .byte) 0 := ⟨tb_3 117 (by rfl) rfl, tb_3 115 (by decide +kernel) rfl, tb_3 116 (by decide +kernel) rfl, tb_1 12 (by decide +kernel) rfl, nh_J0.1, nh_J0.2, pd_34⟩
theorem pd_35 : (parseMethodDescriptor "(LLowerHalf$Tape;III)Z").map (fun d => d.parameters.length) = some 4 := by decide +kernel
theorem ys_X4_isWordAt : YS yX4_isWordAt cX4_isWordAt 6 (some .boolean) 4 := ⟨tb_3 122 (by rfl) rfl, tb_3 121 (by decide +kernel) rfl, tb_1 6 (by decide +kernel) rfl, nh_X4.1, nh_X4.2, pd_35⟩
theorem pd_36 : (parseMethodDescriptor "(I)C").map (fun d => d.parameters.length) = some 1 := by decide +kernel
theorem yv_J0_charAt_5068e : YV yJ0_charAt_5068e cJ0_charAt_5068e 2 (some .char) 1 := ⟨tb_3 126 (by rfl) rfl, tb_3 124 (by decide +kernel) rfl, tb_3 125 (by decide +kernel) rfl, tb_1 12 (by decide +kernel) rfl, nh_J0.1, nh_J0.2, pd_36⟩
theorem pd_37 : (parseMethodDescriptor "()Z").map (fun d => d.parameters.length) = some 0 := by decide +kernel
theorem yv_J0_isLatin1_aae02 : YV yJ0_isLatin1_aae02 cJ0_isLatin1_aae02 1 (some .boolean) 0 := ⟨tb_3 130 (by rfl) rfl, tb_3 128 (by decide +kernel) rfl, tb_3 129 (by decide +kernel) rfl, tb_1 12 (by decide +kernel) rfl, nh_J0.1, nh_J0.2, pd_37⟩
theorem nh_J1 : RJ1 ≠ "java/lang/invoke/MethodHandle" ∧ RJ1 ≠ "java/lang/invoke/VarHandle" := by decide +kernel
theorem pd_39 : (parseMethodDescriptor "([BI)C").map (fun d => d.parameters.length) = some 2 := by decide +kernel
theorem ys_J1_charAt_3b067 : YS yJ1_charAt_3b067 cJ1_charAt_3b067 2 (some .char) 2 := ⟨tb_3 133 (by rfl) rfl, tb_3 132 (by decide +kernel) rfl, tb_1 13 (by decide +kernel) rfl, nh_J1.1, nh_J1.2, pd_39⟩
theorem pd_40 : (parseMethodDescriptor "(II)V").map (fun d => d.parameters.length) = some 2 := by decide +kernel
theorem ys_J0_checkIndex_df160 : YS yJ0_checkIndex_df160 cJ0_checkIndex_df160 2 none 2 := ⟨tb_3 136 (by rfl) rfl, tb_3 135 (by decide +kernel) rfl, tb_1 12 (by decide +kernel) rfl, nh_J0.1, nh_J0.2, pd_40⟩
theorem nh_J3 : RJ3 ≠ "java/lang/invoke/MethodHandle" ∧ RJ3 ≠ "java/lang/invoke/VarHandle" := by decide +kernel
theorem pd_42 : (parseMethodDescriptor "(IILjava/util/function/BiFunction;)I").map (fun d => d.parameters.length) = some 3 := by decide +kernel
theorem ys_J3_checkIndex_8e157 : YS yJ3_checkIndex_8e157 cJ3_checkIndex_8e157 3 (some .int) 3 := ⟨tb_3 141 (by rfl) rfl, tb_3 140 (by decide +kernel) rfl, tb_1 14 (by decide +kernel) rfl, nh_J3.1, nh_J3.2, pd_42⟩
theorem nh_J2 : RJ2 ≠ "java/lang/invoke/MethodHandle" ∧ RJ2 ≠ "java/lang/invoke/VarHandle" := by decide +kernel
theorem ys_J2_charAt_3b067 : YS yJ2_charAt_3b067 cJ2_charAt_3b067 2 (some .char) 2 := ⟨tb_3 144 (by rfl) rfl, tb_3 143 (by decide +kernel) rfl, tb_1 15 (by decide +kernel) rfl, nh_J2.1, nh_J2.2, pd_39⟩
theorem pd_44 : (parseMethodDescriptor "(I[B)V").map (fun d => d.parameters.length) = some 2 := by decide +kernel
theorem ys_J2_checkIndex_2214a : YS yJ2_checkIndex_2214a cJ2_checkIndex_2214a 2 none 2 := ⟨tb_3 147 (by rfl) rfl, tb_3 146 (by decide +kernel) rfl, tb_1 15 (by decide +kernel) rfl, nh_J2.1, nh_J2.2, pd_44⟩
theorem pd_45 : (parseMethodDescriptor "([B)I").map (fun d => d.parameters.length) = some 1 := by decide +kernel
theorem ys_J2_length_9d52b : YS yJ2_length_9d52b cJ2_length_9d52b 1 (some .int) 1 := ⟨tb_3 150 (by rfl) rfl, tb_3 149 (by decide +kernel) rfl, tb_1 15 (by decide +kernel) rfl, nh_J2.1, nh_J2.2, pd_45⟩
theorem ys_J2_getChar_3b067 : YS yJ2_getChar_3b067 cJ2_getChar_3b067 2 (some .char) 2 := ⟨tb_3 154 (by rfl) rfl, tb_3 153 (by decide +kernel) rfl, tb_1 15 (by decide +kernel) rfl, nh_J2.1, nh_J2.2, pd_39⟩
theorem yv_X4_addToken : YV yX4_addToken cX4_addToken 4 none 3 := ⟨tb_3 164 (by rfl) rfl, tb_3 163 (by decide +kernel) rfl, tp_1 (y := yX4_addToken) (n := 12) 4 (by decide +kernel), tb_1 6 (by decide +kernel) rfl, nh_X4.1, nh_X4.2, pd_16⟩
theorem ys_X4_numberAt : YS yX4_numberAt cX4_numberAt 5 (some .int) 3 := ⟨tb_3 167 (by rfl) rfl, tb_3 166 (by decide +kernel) rfl, tb_1 6 (by decide +kernel) rfl, nh_X4.1, nh_X4.2, pd_32⟩
theorem ys_J9_min_7cf53 : YS yJ9_min_7cf53 cJ9_min_7cf53 2 (some .int) 2 := ⟨tb_3 170 (by rfl) rfl, tb_3 169 (by decide +kernel) rfl, tb_1 11 (by decide +kernel) rfl, nh_J9.1, nh_J9.2, pd_9⟩
theorem yv_X4_readClause : YV yX4_readClause cX4_readClause 4 (some .boolean) 0 := ⟨tb_3 175 (by rfl) rfl, tb_3 174 (by decide +kernel) rfl, tp_1 (y := yX4_readClause) (n := 12) 5 (by decide +kernel), tb_1 6 (by decide +kernel) rfl, nh_X4.1, nh_X4.2, pd_37⟩
theorem yv_X4_kind : YV yX4_kind cX4_kind 1 (some .int) 0 := ⟨tb_3 179 (by rfl) rfl, tb_3 178 (by decide +kernel) rfl, tp_1 (y := yX4_kind) (n := 12) 6 (by decide +kernel), tb_1 6 (by decide +kernel) rfl, nh_X4.1, nh_X4.2, pd_29⟩
theorem yv_X4_beginsClause : YV yX4_beginsClause cX4_beginsClause 2 (some .boolean) 1 := ⟨tb_3 183 (by rfl) rfl, tb_3 182 (by decide +kernel) rfl, tp_1 (y := yX4_beginsClause) (n := 12) 7 (by decide +kernel), tb_1 6 (by decide +kernel) rfl, nh_X4.1, nh_X4.2, pd_12⟩
theorem yv_X4_fail : YV yX4_fail cX4_fail 1 (some .boolean) 0 := ⟨tb_3 187 (by rfl) rfl, tb_3 186 (by decide +kernel) rfl, tp_1 (y := yX4_fail) (n := 12) 8 (by decide +kernel), tb_1 6 (by decide +kernel) rfl, nh_X4.1, nh_X4.2, pd_37⟩
theorem yv_X4_readSum : YV yX4_readSum cX4_readSum 5 (some .boolean) 2 := ⟨tb_3 191 (by rfl) rfl, tb_3 190 (by decide +kernel) rfl, tp_1 (y := yX4_readSum) (n := 12) 9 (by decide +kernel), tb_1 6 (by decide +kernel) rfl, nh_X4.1, nh_X4.2, pd_13⟩
theorem yv_X4_readPart : YV yX4_readPart cX4_readPart 5 (some .boolean) 1 := ⟨tb_3 195 (by rfl) rfl, tb_3 194 (by decide +kernel) rfl, tp_1 (y := yX4_readPart) (n := 12) 10 (by decide +kernel), tb_1 6 (by decide +kernel) rfl, nh_X4.1, nh_X4.2, pd_12⟩
theorem yv_X4_take : YV yX4_take cX4_take 2 (some .boolean) 1 := ⟨tb_3 199 (by rfl) rfl, tb_3 198 (by decide +kernel) rfl, tp_1 (y := yX4_take) (n := 12) 11 (by decide +kernel), tb_1 6 (by decide +kernel) rfl, nh_X4.1, nh_X4.2, pd_12⟩
theorem yv_X4_numberNow : YV yX4_numberNow cX4_numberNow 1 (some .int) 0 := ⟨tb_3 203 (by rfl) rfl, tb_3 202 (by decide +kernel) rfl, tp_1 (y := yX4_numberNow) (n := 12) 12 (by decide +kernel), tb_1 6 (by decide +kernel) rfl, nh_X4.1, nh_X4.2, pd_29⟩
theorem yv_X4_addStep : YV yX4_addStep cX4_addStep 3 none 2 := ⟨tb_3 207 (by rfl) rfl, tb_3 206 (by decide +kernel) rfl, tp_1 (y := yX4_addStep) (n := 12) 13 (by decide +kernel), tb_1 6 (by decide +kernel) rfl, nh_X4.1, nh_X4.2, pd_40⟩
theorem yv_X4_takeNumber : YV yX4_takeNumber cX4_takeNumber 3 (some .boolean) 2 := ⟨tb_3 211 (by rfl) rfl, tb_3 210 (by decide +kernel) rfl, tp_1 (y := yX4_takeNumber) (n := 12) 14 (by decide +kernel), tb_1 6 (by decide +kernel) rfl, nh_X4.1, nh_X4.2, pd_13⟩
theorem ys_X4_lawWordOf : YS yX4_lawWordOf cX4_lawWordOf 1 (some .int) 1 := ⟨tb_3 214 (by rfl) rfl, tb_3 213 (by decide +kernel) rfl, tb_1 6 (by decide +kernel) rfl, nh_X4.1, nh_X4.2, pd_11⟩
theorem ys_X4_orderWordOf : YS yX4_orderWordOf cX4_orderWordOf 1 (some .int) 1 := ⟨tb_3 217 (by rfl) rfl, tb_3 216 (by decide +kernel) rfl, tb_1 6 (by decide +kernel) rfl, nh_X4.1, nh_X4.2, pd_11⟩
theorem ys_X4_manyOf : YS yX4_manyOf cX4_manyOf 1 (some .int) 1 := ⟨tb_3 220 (by rfl) rfl, tb_3 219 (by decide +kernel) rfl, tb_1 6 (by decide +kernel) rfl, nh_X4.1, nh_X4.2, pd_11⟩
theorem ys_X4_sumStepOf : YS yX4_sumStepOf cX4_sumStepOf 1 (some .int) 1 := ⟨tb_3 223 (by rfl) rfl, tb_3 222 (by decide +kernel) rfl, tb_1 6 (by decide +kernel) rfl, nh_X4.1, nh_X4.2, pd_11⟩
theorem ys_X4_termStepOf : YS yX4_termStepOf cX4_termStepOf 1 (some .int) 1 := ⟨tb_3 226 (by rfl) rfl, tb_3 225 (by decide +kernel) rfl, tb_1 6 (by decide +kernel) rfl, nh_X4.1, nh_X4.2, pd_11⟩
theorem ys_X4_linkOf : YS yX4_linkOf cX4_linkOf 1 (some .int) 1 := ⟨tb_3 229 (by rfl) rfl, tb_3 228 (by decide +kernel) rfl, tb_1 6 (by decide +kernel) rfl, nh_X4.1, nh_X4.2, pd_11⟩
theorem yv_X4_readTest : YV yX4_readTest cX4_readTest 5 (some .boolean) 2 := ⟨tb_3 233 (by rfl) rfl, tb_3 232 (by decide +kernel) rfl, tp_1 (y := yX4_readTest) (n := 12) 15 (by decide +kernel), tb_1 6 (by decide +kernel) rfl, nh_X4.1, nh_X4.2, pd_13⟩
theorem yv_X4_readPlain : YV yX4_readPlain cX4_readPlain 4 (some .boolean) 1 := ⟨tb_3 237 (by rfl) rfl, tb_3 236 (by decide +kernel) rfl, tp_2 (y := yX4_readPlain) (n := 12) 0 (by decide +kernel), tb_1 6 (by decide +kernel) rfl, nh_X4.1, nh_X4.2, pd_12⟩
theorem ys_X4_comparisonOf : YS yX4_comparisonOf cX4_comparisonOf 1 (some .int) 1 := ⟨tb_4 0 (by rfl) rfl, tb_3 239 (by decide +kernel) rfl, tb_1 6 (by decide +kernel) rfl, nh_X4.1, nh_X4.2, pd_11⟩
theorem yv_X4_skipTillHere : YV yX4_skipTillHere cX4_skipTillHere 2 none 1 := ⟨tb_4 4 (by rfl) rfl, tb_4 3 (by decide +kernel) rfl, tp_2 (y := yX4_skipTillHere) (n := 12) 1 (by decide +kernel), tb_1 6 (by decide +kernel) rfl, nh_X4.1, nh_X4.2, pd_28⟩
theorem pd_46 : (parseMethodDescriptor "([II)[I").map (fun d => d.parameters.length) = some 2 := by decide +kernel
theorem ys_J7_copyOf_59c91 : YS yJ7_copyOf_59c91 cJ7_copyOf_59c91 3 (some (.array .int)) 2 := ⟨tb_4 9 (by rfl) rfl, tb_4 8 (by decide +kernel) rfl, tb_1 10 (by decide +kernel) rfl, nh_J7.1, nh_J7.2, pd_46⟩
theorem pd_47 : (parseMethodDescriptor "([I[II)V").map (fun d => d.parameters.length) = some 3 := by decide +kernel
theorem yi_X7_init : YI yX7_init cX7_init 4 3 := ⟨tb_4 23 (by rfl) rfl, tb_4 22 (by decide +kernel) rfl, tb_1 16 (by decide +kernel) rfl, rfl, nh_X7.1, nh_X7.2, pd_47⟩
theorem yv_X8_orders : YV yX8_orders cX8_orders 5 (some .int) 0 := ⟨tb_4 40 (by rfl) rfl, tb_4 38 (by decide +kernel) rfl, tb_4 39 (by decide +kernel) rfl, tb_1 1 (by decide +kernel) rfl, nh_X8.1, nh_X8.2, pd_29⟩
theorem pd_48 : (parseMethodDescriptor "(LLowerHalf$House;)V").map (fun d => d.parameters.length) = some 1 := by decide +kernel
theorem yv_X1_copyFrom : YV yX1_copyFrom cX1_copyFrom 3 none 1 := ⟨tb_4 44 (by rfl) rfl, tb_4 42 (by decide +kernel) rfl, tb_4 43 (by decide +kernel) rfl, tb_1 2 (by decide +kernel) rfl, nh_X1.1, nh_X1.2, pd_48⟩
theorem pd_49 : (parseMethodDescriptor "(LLowerHalf$Perches;)V").map (fun d => d.parameters.length) = some 1 := by decide +kernel
theorem yv_X3_copyFrom : YV yX3_copyFrom cX3_copyFrom 2 none 1 := ⟨tb_4 48 (by rfl) rfl, tb_4 46 (by decide +kernel) rfl, tb_4 47 (by decide +kernel) rfl, tb_1 3 (by decide +kernel) rfl, nh_X3.1, nh_X3.2, pd_49⟩
theorem pd_50 : (parseMethodDescriptor "([I[I)V").map (fun d => d.parameters.length) = some 2 := by decide +kernel
theorem ys_X8_copyRow : YS yX8_copyRow cX8_copyRow 2 none 2 := ⟨tb_4 51 (by rfl) rfl, tb_4 50 (by decide +kernel) rfl, tb_1 1 (by decide +kernel) rfl, nh_X8.1, nh_X8.2, pd_50⟩
theorem pd_51 : (parseMethodDescriptor "(LLowerHalf$Deeds;)V").map (fun d => d.parameters.length) = some 1 := by decide +kernel
theorem yv_X0_copyFrom : YV yX0_copyFrom cX0_copyFrom 2 none 1 := ⟨tb_4 58 (by rfl) rfl, tb_4 56 (by decide +kernel) rfl, tb_4 57 (by decide +kernel) rfl, tb_1 7 (by decide +kernel) rfl, nh_X0.1, nh_X0.2, pd_51⟩
theorem pd_52 : (parseMethodDescriptor "(LLowerHalf$Text;I)Z").map (fun d => d.parameters.length) = some 2 := by decide +kernel
theorem yv_X8_runOnce : YV yX8_runOnce cX8_runOnce 12 (some .boolean) 2 := ⟨tb_4 64 (by rfl) rfl, tb_4 63 (by decide +kernel) rfl, tp_2 (y := yX8_runOnce) (n := 19) 2 (by decide +kernel), tb_1 1 (by decide +kernel) rfl, nh_X8.1, nh_X8.2, pd_52⟩
theorem yv_X8_tellOrderWords : YV yX8_tellOrderWords cX8_tellOrderWords 3 none 0 := ⟨tb_4 68 (by rfl) rfl, tb_4 67 (by decide +kernel) rfl, tp_2 (y := yX8_tellOrderWords) (n := 19) 3 (by decide +kernel), tb_1 1 (by decide +kernel) rfl, nh_X8.1, nh_X8.2, pd_1⟩
theorem yv_X8_tryStride : YV yX8_tryStride cX8_tryStride 3 (some .int) 2 := ⟨tb_4 74 (by rfl) rfl, tb_4 73 (by decide +kernel) rfl, tp_2 (y := yX8_tryStride) (n := 19) 4 (by decide +kernel), tb_1 1 (by decide +kernel) rfl, nh_X8.1, nh_X8.2, pd_9⟩
theorem pd_53 : (parseMethodDescriptor "(IIILLowerHalf$House;)V").map (fun d => d.parameters.length) = some 4 := by decide +kernel
theorem yv_X0_add : YV yX0_add cX0_add 6 none 4 := ⟨tb_4 78 (by rfl) rfl, tb_4 76 (by decide +kernel) rfl, tb_4 77 (by decide +kernel) rfl, tb_1 7 (by decide +kernel) rfl, nh_X0.1, nh_X0.2, pd_53⟩
theorem yv_X8_tryPut : YV yX8_tryPut cX8_tryPut 4 (some .int) 2 := ⟨tb_4 83 (by rfl) rfl, tb_4 82 (by decide +kernel) rfl, tp_2 (y := yX8_tryPut) (n := 19) 5 (by decide +kernel), tb_1 1 (by decide +kernel) rfl, nh_X8.1, nh_X8.2, pd_9⟩
theorem yv_X8_tryDoor : YV yX8_tryDoor cX8_tryDoor 3 (some .int) 2 := ⟨tb_4 87 (by rfl) rfl, tb_4 86 (by decide +kernel) rfl, tp_2 (y := yX8_tryDoor) (n := 19) 6 (by decide +kernel), tb_1 1 (by decide +kernel) rfl, nh_X8.1, nh_X8.2, pd_9⟩
theorem yv_X1_turnDoor : YV yX1_turnDoor cX1_turnDoor 3 none 2 := ⟨tb_4 91 (by rfl) rfl, tb_4 89 (by decide +kernel) rfl, tb_4 90 (by decide +kernel) rfl, tb_1 2 (by decide +kernel) rfl, nh_X1.1, nh_X1.2, pd_40⟩
theorem yv_X8_tryPass : YV yX8_tryPass cX8_tryPass 1 (some .int) 0 := ⟨tb_4 96 (by rfl) rfl, tb_4 95 (by decide +kernel) rfl, tp_2 (y := yX8_tryPass) (n := 19) 7 (by decide +kernel), tb_1 1 (by decide +kernel) rfl, nh_X8.1, nh_X8.2, pd_29⟩
theorem yv_X1_passHour : YV yX1_passHour cX1_passHour 6 (some .int) 0 := ⟨tb_4 100 (by rfl) rfl, tb_4 98 (by decide +kernel) rfl, tb_4 99 (by decide +kernel) rfl, tb_1 2 (by decide +kernel) rfl, nh_X1.1, nh_X1.2, pd_29⟩
theorem yv_X8_fault : YV yX8_fault cX8_fault 1 (some .int) 0 := ⟨tb_4 107 (by rfl) rfl, tb_4 105 (by decide +kernel) rfl, tb_4 106 (by decide +kernel) rfl, tb_1 1 (by decide +kernel) rfl, nh_X8.1, nh_X8.2, pd_29⟩
theorem yv_X8_stopped : YV yX8_stopped cX8_stopped 1 (some .int) 0 := ⟨tb_4 111 (by rfl) rfl, tb_4 109 (by decide +kernel) rfl, tb_4 110 (by decide +kernel) rfl, tb_1 1 (by decide +kernel) rfl, nh_X8.1, nh_X8.2, pd_29⟩
theorem yv_X8_force : YV yX8_force cX8_force 3 (some .int) 1 := ⟨tb_4 115 (by rfl) rfl, tb_4 113 (by decide +kernel) rfl, tb_4 114 (by decide +kernel) rfl, tb_1 1 (by decide +kernel) rfl, nh_X8.1, nh_X8.2, pd_11⟩
theorem yv_X8_stride : YV yX8_stride cX8_stride 3 (some .int) 2 := ⟨tb_4 120 (by rfl) rfl, tb_4 118 (by decide +kernel) rfl, tb_4 119 (by decide +kernel) rfl, tb_1 1 (by decide +kernel) rfl, nh_X8.1, nh_X8.2, pd_9⟩
theorem yv_X8_settle : YV yX8_settle cX8_settle 2 (some .int) 1 := ⟨tb_4 124 (by rfl) rfl, tb_4 123 (by decide +kernel) rfl, tp_2 (y := yX8_settle) (n := 19) 8 (by decide +kernel), tb_1 1 (by decide +kernel) rfl, nh_X8.1, nh_X8.2, pd_11⟩
theorem yv_X8_put : YV yX8_put cX8_put 3 (some .int) 2 := ⟨tb_4 128 (by rfl) rfl, tb_4 126 (by decide +kernel) rfl, tb_4 127 (by decide +kernel) rfl, tb_1 1 (by decide +kernel) rfl, nh_X8.1, nh_X8.2, pd_9⟩
theorem yv_X8_door : YV yX8_door cX8_door 3 (some .int) 2 := ⟨tb_4 132 (by rfl) rfl, tb_4 130 (by decide +kernel) rfl, tb_4 131 (by decide +kernel) rfl, tb_1 1 (by decide +kernel) rfl, nh_X8.1, nh_X8.2, pd_9⟩
theorem yv_X8_pass : YV yX8_pass cX8_pass 1 (some .int) 0 := ⟨tb_4 136 (by rfl) rfl, tb_4 134 (by decide +kernel) rfl, tb_4 135 (by decide +kernel) rfl, tb_1 1 (by decide +kernel) rfl, nh_X8.1, nh_X8.2, pd_29⟩
theorem yv_X8_undo : YV yX8_undo cX8_undo 1 (some .int) 0 := ⟨tb_4 140 (by rfl) rfl, tb_4 138 (by decide +kernel) rfl, tb_4 139 (by decide +kernel) rfl, tb_1 1 (by decide +kernel) rfl, nh_X8.1, nh_X8.2, pd_29⟩
theorem yv_X0_isEmpty : YV yX0_isEmpty cX0_isEmpty 1 (some .boolean) 0 := ⟨tb_4 144 (by rfl) rfl, tb_4 142 (by decide +kernel) rfl, tb_4 143 (by decide +kernel) rfl, tb_1 7 (by decide +kernel) rfl, nh_X0.1, nh_X0.2, pd_37⟩
theorem pd_54 : (parseMethodDescriptor "(LLowerHalf$House;)I").map (fun d => d.parameters.length) = some 1 := by decide +kernel
theorem yv_X0_takeBack : YV yX0_takeBack cX0_takeBack 6 (some .int) 1 := ⟨tb_4 148 (by rfl) rfl, tb_4 146 (by decide +kernel) rfl, tb_4 147 (by decide +kernel) rfl, tb_1 7 (by decide +kernel) rfl, nh_X0.1, nh_X0.2, pd_54⟩
theorem yv_X8_soonest : YV yX8_soonest cX8_soonest 5 (some .int) 3 := ⟨tb_4 156 (by rfl) rfl, tb_4 154 (by decide +kernel) rfl, tb_4 155 (by decide +kernel) rfl, tb_1 1 (by decide +kernel) rfl, nh_X8.1, nh_X8.2, pd_25⟩
theorem pd_55 : (parseMethodDescriptor "(LLowerHalf$House;II)I").map (fun d => d.parameters.length) = some 3 := by decide +kernel
theorem yv_X2_hoursTo : YV yX2_hoursTo cX2_hoursTo 8 (some .int) 3 := ⟨tb_4 160 (by rfl) rfl, tb_4 158 (by decide +kernel) rfl, tb_4 159 (by decide +kernel) rfl, tb_1 8 (by decide +kernel) rfl, nh_X2.1, nh_X2.2, pd_55⟩
theorem pd_56 : (parseMethodDescriptor "(LLowerHalf$House;I)V").map (fun d => d.parameters.length) = some 2 := by decide +kernel
theorem yv_X2_drawSteps : YV yX2_drawSteps cX2_drawSteps 5 none 2 := ⟨tb_4 164 (by rfl) rfl, tb_4 162 (by decide +kernel) rfl, tb_4 163 (by decide +kernel) rfl, tb_1 8 (by decide +kernel) rfl, nh_X2.1, nh_X2.2, pd_56⟩
theorem yv_X2_onward : YV yX2_onward cX2_onward 4 (some .int) 1 := ⟨tb_4 169 (by rfl) rfl, tb_4 168 (by decide +kernel) rfl, tp_2 (y := yX2_onward) (n := 7) 9 (by decide +kernel), tb_1 8 (by decide +kernel) rfl, nh_X2.1, nh_X2.2, pd_11⟩
theorem yv_X1_unbarred : YV yX1_unbarred cX1_unbarred 6 (some .int) 3 := ⟨tb_4 174 (by rfl) rfl, tb_4 172 (by decide +kernel) rfl, tb_4 173 (by decide +kernel) rfl, tb_1 2 (by decide +kernel) rfl, nh_X1.1, nh_X1.2, pd_25⟩
theorem yv_X1_safePerches : YV yX1_safePerches cX1_safePerches 6 (some .int) 1 := ⟨tb_4 178 (by rfl) rfl, tb_4 176 (by decide +kernel) rfl, tb_4 177 (by decide +kernel) rfl, tb_1 2 (by decide +kernel) rfl, nh_X1.1, nh_X1.2, pd_11⟩
theorem yv_X2_keepThoseThatComeTo : YV yX2_keepThoseThatComeTo cX2_keepThoseThatComeTo 6 none 2 := ⟨tb_4 182 (by rfl) rfl, tb_4 181 (by decide +kernel) rfl, tp_2 (y := yX2_keepThoseThatComeTo) (n := 7) 10 (by decide +kernel), tb_1 8 (by decide +kernel) rfl, nh_X2.1, nh_X2.2, pd_40⟩
theorem yv_X2_drawWay : YV yX2_drawWay cX2_drawWay 6 none 2 := ⟨tb_4 186 (by rfl) rfl, tb_4 185 (by decide +kernel) rfl, tp_2 (y := yX2_drawWay) (n := 7) 11 (by decide +kernel), tb_1 8 (by decide +kernel) rfl, nh_X2.1, nh_X2.2, pd_40⟩
theorem ys_X2_lowestOf : YS yX2_lowestOf cX2_lowestOf 2 (some .int) 1 := ⟨tb_4 189 (by rfl) rfl, tb_4 188 (by decide +kernel) rfl, tb_1 8 (by decide +kernel) rfl, nh_X2.1, nh_X2.2, pd_11⟩
theorem yv_X8_near : YV yX8_near cX8_near 4 (some .int) 2 := ⟨tb_4 193 (by rfl) rfl, tb_4 191 (by decide +kernel) rfl, tb_4 192 (by decide +kernel) rfl, tb_1 1 (by decide +kernel) rfl, nh_X8.1, nh_X8.2, pd_9⟩
theorem yv_X3_all : YV yX3_all cX3_all 1 (some .int) 0 := ⟨tb_4 198 (by rfl) rfl, tb_4 196 (by decide +kernel) rfl, tb_4 197 (by decide +kernel) rfl, tb_1 3 (by decide +kernel) rfl, nh_X3.1, nh_X3.2, pd_29⟩
theorem yv_X2_reached : YV yX2_reached cX2_reached 7 (some .int) 3 := ⟨tb_4 203 (by rfl) rfl, tb_4 201 (by decide +kernel) rfl, tb_4 202 (by decide +kernel) rfl, tb_1 8 (by decide +kernel) rfl, nh_X2.1, nh_X2.2, pd_25⟩
theorem yv_X8_cut : YV yX8_cut cX8_cut 5 (some .int) 3 := ⟨tb_4 207 (by rfl) rfl, tb_4 205 (by decide +kernel) rfl, tb_4 206 (by decide +kernel) rfl, tb_1 1 (by decide +kernel) rfl, nh_X8.1, nh_X8.2, pd_25⟩
theorem yv_X2_fewestBetween : YV yX2_fewestBetween cX2_fewestBetween 10 (some .int) 3 := ⟨tb_4 211 (by rfl) rfl, tb_4 209 (by decide +kernel) rfl, tb_4 210 (by decide +kernel) rfl, tb_1 8 (by decide +kernel) rfl, nh_X2.1, nh_X2.2, pd_55⟩
theorem nh_J6 : RJ6 ≠ "java/lang/invoke/MethodHandle" ∧ RJ6 ≠ "java/lang/invoke/VarHandle" := by decide +kernel
theorem ys_J6_bitCount_0f7a4 : YS yJ6_bitCount_0f7a4 cJ6_bitCount_0f7a4 1 (some .int) 1 := ⟨tb_4 215 (by rfl) rfl, tb_4 214 (by decide +kernel) rfl, tb_1 18 (by decide +kernel) rfl, nh_J6.1, nh_J6.2, pd_11⟩
theorem yv_X8_roost : YV yX8_roost cX8_roost 2 (some .int) 1 := ⟨tb_4 224 (by rfl) rfl, tb_4 222 (by decide +kernel) rfl, tb_4 223 (by decide +kernel) rfl, tb_1 1 (by decide +kernel) rfl, nh_X8.1, nh_X8.2, pd_11⟩
theorem pd_58 : (parseMethodDescriptor "(LLowerHalf$House;I)I").map (fun d => d.parameters.length) = some 2 := by decide +kernel
theorem yv_X2_nearestRoost : YV yX2_nearestRoost cX2_nearestRoost 8 (some .int) 2 := ⟨tb_4 228 (by rfl) rfl, tb_4 226 (by decide +kernel) rfl, tb_4 227 (by decide +kernel) rfl, tb_1 8 (by decide +kernel) rfl, nh_X2.1, nh_X2.2, pd_58⟩
theorem yv_X8_where : YV yX8_where cX8_where 3 (some .int) 2 := ⟨tb_4 232 (by rfl) rfl, tb_4 230 (by decide +kernel) rfl, tb_4 231 (by decide +kernel) rfl, tb_1 1 (by decide +kernel) rfl, nh_X8.1, nh_X8.2, pd_9⟩
theorem yv_X2_drawTrack : YV yX2_drawTrack cX2_drawTrack 6 none 2 := ⟨tb_4 236 (by rfl) rfl, tb_4 234 (by decide +kernel) rfl, tb_4 235 (by decide +kernel) rfl, tb_1 8 (by decide +kernel) rfl, nh_X2.1, nh_X2.2, pd_56⟩
theorem yv_X8_meeting : YV yX8_meeting cX8_meeting 5 (some .int) 2 := ⟨tb_5 2 (by rfl) rfl, tb_5 0 (by decide +kernel) rfl, tb_5 1 (by decide +kernel) rfl, tb_1 1 (by decide +kernel) rfl, nh_X8.1, nh_X8.2, pd_9⟩
theorem yv_X8_free : YV yX8_free cX8_free 3 (some .int) 1 := ⟨tb_5 6 (by rfl) rfl, tb_5 4 (by decide +kernel) rfl, tb_5 5 (by decide +kernel) rfl, tb_1 1 (by decide +kernel) rfl, nh_X8.1, nh_X8.2, pd_11⟩
theorem yv_X8_shares : YV yX8_shares cX8_shares 6 (some .int) 1 := ⟨tb_5 10 (by rfl) rfl, tb_5 8 (by decide +kernel) rfl, tb_5 9 (by decide +kernel) rfl, tb_1 1 (by decide +kernel) rfl, nh_X8.1, nh_X8.2, pd_11⟩
theorem yv_X1_lesserShare : YV yX1_lesserShare cX1_lesserShare 5 (some .int) 1 := ⟨tb_5 14 (by rfl) rfl, tb_5 12 (by decide +kernel) rfl, tb_5 13 (by decide +kernel) rfl, tb_1 2 (by decide +kernel) rfl, nh_X1.1, nh_X1.2, pd_11⟩
theorem yv_X8_low : YV yX8_low cX8_low 6 (some .int) 1 := ⟨tb_5 18 (by rfl) rfl, tb_5 16 (by decide +kernel) rfl, tb_5 17 (by decide +kernel) rfl, tb_1 1 (by decide +kernel) rfl, nh_X8.1, nh_X8.2, pd_11⟩
theorem yv_X8_seen : YV yX8_seen cX8_seen 4 (some .int) 2 := ⟨tb_5 22 (by rfl) rfl, tb_5 20 (by decide +kernel) rfl, tb_5 21 (by decide +kernel) rfl, tb_1 1 (by decide +kernel) rfl, nh_X8.1, nh_X8.2, pd_9⟩
theorem yv_X8_forget : YV yX8_forget cX8_forget 2 (some .int) 0 := ⟨tb_5 26 (by rfl) rfl, tb_5 24 (by decide +kernel) rfl, tb_5 25 (by decide +kernel) rfl, tb_1 1 (by decide +kernel) rfl, nh_X8.1, nh_X8.2, pd_29⟩
theorem yv_X8_canBe : YV yX8_canBe cX8_canBe 1 (some .int) 0 := ⟨tb_5 30 (by rfl) rfl, tb_5 28 (by decide +kernel) rfl, tb_5 29 (by decide +kernel) rfl, tb_1 1 (by decide +kernel) rfl, nh_X8.1, nh_X8.2, pd_29⟩
theorem yv_X2_whoCanBe : YV yX2_whoCanBe cX2_whoCanBe 7 (some .int) 1 := ⟨tb_5 34 (by rfl) rfl, tb_5 32 (by decide +kernel) rfl, tb_5 33 (by decide +kernel) rfl, tb_1 8 (by decide +kernel) rfl, nh_X2.1, nh_X2.2, pd_54⟩
theorem yv_X8_look : YV yX8_look cX8_look 7 (some .int) 1 := ⟨tb_5 39 (by rfl) rfl, tb_5 37 (by decide +kernel) rfl, tb_5 38 (by decide +kernel) rfl, tb_1 1 (by decide +kernel) rfl, nh_X8.1, nh_X8.2, pd_11⟩
theorem yv_X2_mostTogether : YV yX2_mostTogether cX2_mostTogether 6 (some .int) 2 := ⟨tb_5 43 (by rfl) rfl, tb_5 41 (by decide +kernel) rfl, tb_5 42 (by decide +kernel) rfl, tb_1 8 (by decide +kernel) rfl, nh_X2.1, nh_X2.2, pd_9⟩
theorem pd_59 : (parseMethodDescriptor "(II)J").map (fun d => d.parameters.length) = some 2 := by decide +kernel
theorem yv_X8_few : YV yX8_few cX8_few 3 (some .long) 2 := ⟨tb_5 50 (by rfl) rfl, tb_5 48 (by decide +kernel) rfl, tb_5 49 (by decide +kernel) rfl, tb_1 1 (by decide +kernel) rfl, nh_X8.1, nh_X8.2, pd_59⟩
theorem pd_60 : (parseMethodDescriptor "(III)J").map (fun d => d.parameters.length) = some 3 := by decide +kernel
theorem yv_X2_chanceOfFew : YV yX2_chanceOfFew cX2_chanceOfFew 9 (some .long) 3 := ⟨tb_5 55 (by rfl) rfl, tb_5 53 (by decide +kernel) rfl, tb_5 54 (by decide +kernel) rfl, tb_1 8 (by decide +kernel) rfl, nh_X2.1, nh_X2.2, pd_60⟩
theorem pd_61 : (parseMethodDescriptor "([JJ)V").map (fun d => d.parameters.length) = some 2 := by decide +kernel
theorem ys_J7_fill_d0a16 : YS yJ7_fill_d0a16 cJ7_fill_d0a16 5 none 2 := ⟨tb_5 59 (by rfl) rfl, tb_5 58 (by decide +kernel) rfl, tb_1 10 (by decide +kernel) rfl, nh_J7.1, nh_J7.2, pd_61⟩
theorem yv_X8_compare : YV yX8_compare cX8_compare 4 (some .int) 2 := ⟨tb_5 65 (by rfl) rfl, tb_5 63 (by decide +kernel) rfl, tb_5 64 (by decide +kernel) rfl, tb_1 1 (by decide +kernel) rfl, nh_X8.1, nh_X8.2, pd_9⟩
theorem yv_X8_dusks : YV yX8_dusks cX8_dusks 7 (some .int) 2 := ⟨tb_5 69 (by rfl) rfl, tb_5 67 (by decide +kernel) rfl, tb_5 68 (by decide +kernel) rfl, tb_1 1 (by decide +kernel) rfl, nh_X8.1, nh_X8.2, pd_9⟩
theorem ys_X8_drawnFrom : YS yX8_drawnFrom cX8_drawnFrom 1 (some .int) 1 := ⟨tb_5 73 (by rfl) rfl, tb_5 72 (by decide +kernel) rfl, tb_1 1 (by decide +kernel) rfl, nh_X8.1, nh_X8.2, pd_11⟩
theorem yv_X8_drawn : YV yX8_drawn cX8_drawn 3 (some .int) 2 := ⟨tb_5 80 (by rfl) rfl, tb_5 78 (by decide +kernel) rfl, tb_5 79 (by decide +kernel) rfl, tb_1 1 (by decide +kernel) rfl, nh_X8.1, nh_X8.2, pd_9⟩
theorem yv_X8_image : YV yX8_image cX8_image 2 (some .int) 1 := ⟨tb_5 84 (by rfl) rfl, tb_5 82 (by decide +kernel) rfl, tb_5 83 (by decide +kernel) rfl, tb_1 1 (by decide +kernel) rfl, nh_X8.1, nh_X8.2, pd_11⟩
theorem yv_X8_back : YV yX8_back cX8_back 2 (some .int) 1 := ⟨tb_5 88 (by rfl) rfl, tb_5 86 (by decide +kernel) rfl, tb_5 87 (by decide +kernel) rfl, tb_1 1 (by decide +kernel) rfl, nh_X8.1, nh_X8.2, pd_11⟩
theorem yv_X8_count : YV yX8_count cX8_count 2 (some .int) 1 := ⟨tb_5 92 (by rfl) rfl, tb_5 90 (by decide +kernel) rfl, tb_5 91 (by decide +kernel) rfl, tb_1 1 (by decide +kernel) rfl, nh_X8.1, nh_X8.2, pd_11⟩
theorem yv_X8_countFurther : YV yX8_countFurther cX8_countFurther 2 (some .int) 1 := ⟨tb_5 96 (by rfl) rfl, tb_5 95 (by decide +kernel) rfl, tp_2 (y := yX8_countFurther) (n := 19) 12 (by decide +kernel), tb_1 1 (by decide +kernel) rfl, nh_X8.1, nh_X8.2, pd_11⟩
theorem yv_X8_status : YV yX8_status cX8_status 1 (some .int) 0 := ⟨tb_5 100 (by rfl) rfl, tb_5 98 (by decide +kernel) rfl, tb_5 99 (by decide +kernel) rfl, tb_1 1 (by decide +kernel) rfl, nh_X8.1, nh_X8.2, pd_29⟩
theorem nh_X9 : RX9 ≠ "java/lang/invoke/MethodHandle" ∧ RX9 ≠ "java/lang/invoke/VarHandle" := by decide +kernel
theorem yi_X9_init : YI yX9_init cX9_init 1 0 := ⟨tb_5 105 (by rfl) rfl, tb_5 104 (by decide +kernel) rfl, tb_1 9 (by decide +kernel) rfl, rfl, nh_X9.1, nh_X9.2, pd_1⟩
theorem yv_X9_undo : YV yX9_undo cX9_undo 1 (some .int) 0 := ⟨tb_6 68 (by rfl) rfl, tb_6 66 (by decide +kernel) rfl, tb_6 67 (by decide +kernel) rfl, tb_1 9 (by decide +kernel) rfl, nh_X9.1, nh_X9.2, pd_29⟩
theorem yv_X9_tell : YV yX9_tell cX9_tell 2 (some .int) 1 := ⟨tb_6 72 (by rfl) rfl, tb_6 71 (by decide +kernel) rfl, tp_2 (y := yX9_tell) (n := 58) 13 (by decide +kernel), tb_1 9 (by decide +kernel) rfl, nh_X9.1, nh_X9.2, pd_11⟩
theorem yv_X9_putBack : YV yX9_putBack cX9_putBack 3 none 1 := ⟨tb_6 76 (by rfl) rfl, tb_6 75 (by decide +kernel) rfl, tp_2 (y := yX9_putBack) (n := 58) 14 (by decide +kernel), tb_1 9 (by decide +kernel) rfl, nh_X9.1, nh_X9.2, pd_28⟩
theorem yv_X9_image : YV yX9_image cX9_image 3 (some .int) 1 := ⟨tb_6 80 (by rfl) rfl, tb_6 78 (by decide +kernel) rfl, tb_6 79 (by decide +kernel) rfl, tb_1 9 (by decide +kernel) rfl, nh_X9.1, nh_X9.2, pd_11⟩
theorem pd_63 : (parseMethodDescriptor "(JJJ)Z").map (fun d => d.parameters.length) = some 3 := by decide +kernel
theorem ys_X9_in : YS yX9_in cX9_in 6 (some .boolean) 3 := ⟨tb_6 83 (by rfl) rfl, tb_6 82 (by decide +kernel) rfl, tb_1 9 (by decide +kernel) rfl, nh_X9.1, nh_X9.2, pd_63⟩
theorem yv_X9_back : YV yX9_back cX9_back 3 (some .int) 1 := ⟨tb_6 87 (by rfl) rfl, tb_6 85 (by decide +kernel) rfl, tb_6 86 (by decide +kernel) rfl, tb_1 9 (by decide +kernel) rfl, nh_X9.1, nh_X9.2, pd_11⟩
theorem yv_X9_lasting : YV yX9_lasting cX9_lasting 2 (some .int) 1 := ⟨tb_6 91 (by rfl) rfl, tb_6 90 (by decide +kernel) rfl, tp_2 (y := yX9_lasting) (n := 58) 15 (by decide +kernel), tb_1 9 (by decide +kernel) rfl, nh_X9.1, nh_X9.2, pd_11⟩
theorem yv_X9_perch : YV yX9_perch cX9_perch 4 (some .int) 2 := ⟨tb_6 95 (by rfl) rfl, tb_6 93 (by decide +kernel) rfl, tb_6 94 (by decide +kernel) rfl, tb_1 9 (by decide +kernel) rfl, nh_X9.1, nh_X9.2, pd_9⟩
theorem ys_X9_isRoom : YS yX9_isRoom cX9_isRoom 2 (some .boolean) 1 := ⟨tb_6 98 (by rfl) rfl, tb_6 97 (by decide +kernel) rfl, tb_1 9 (by decide +kernel) rfl, nh_X9.1, nh_X9.2, pd_10⟩
theorem yv_X9_at : YV yX9_at cX9_at 3 (some .int) 2 := ⟨tb_6 104 (by rfl) rfl, tb_6 102 (by decide +kernel) rfl, tb_6 103 (by decide +kernel) rfl, tb_1 9 (by decide +kernel) rfl, nh_X9.1, nh_X9.2, pd_9⟩
theorem yv_X9_isPerch : YV yX9_isPerch cX9_isPerch 2 (some .boolean) 1 := ⟨tb_6 108 (by rfl) rfl, tb_6 107 (by decide +kernel) rfl, tp_3 (y := yX9_isPerch) (n := 58) 0 (by decide +kernel), tb_1 9 (by decide +kernel) rfl, nh_X9.1, nh_X9.2, pd_12⟩
theorem yv_X9_isSafe : YV yX9_isSafe cX9_isSafe 2 (some .boolean) 1 := ⟨tb_6 112 (by rfl) rfl, tb_6 111 (by decide +kernel) rfl, tp_3 (y := yX9_isSafe) (n := 58) 1 (by decide +kernel), tb_1 9 (by decide +kernel) rfl, nh_X9.1, nh_X9.2, pd_12⟩
theorem yv_X9_theirsIn : YV yX9_theirsIn cX9_theirsIn 3 (some .int) 1 := ⟨tb_6 116 (by rfl) rfl, tb_6 115 (by decide +kernel) rfl, tp_3 (y := yX9_theirsIn) (n := 58) 2 (by decide +kernel), tb_1 9 (by decide +kernel) rfl, nh_X9.1, nh_X9.2, pd_11⟩
theorem pd_64 : (parseMethodDescriptor "(IIIIIJ)J").map (fun d => d.parameters.length) = some 6 := by decide +kernel
theorem yv_X9_tells : YV yX9_tells cX9_tells 12 (some .long) 6 := ⟨tb_6 121 (by rfl) rfl, tb_6 120 (by decide +kernel) rfl, tp_3 (y := yX9_tells) (n := 58) 3 (by decide +kernel), tb_1 9 (by decide +kernel) rfl, nh_X9.1, nh_X9.2, pd_64⟩
theorem yv_X9_isSo : YV yX9_isSo cX9_isSo 2 (some .boolean) 1 := ⟨tb_6 126 (by rfl) rfl, tb_6 125 (by decide +kernel) rfl, tp_3 (y := yX9_isSo) (n := 58) 4 (by decide +kernel), tb_1 9 (by decide +kernel) rfl, nh_X9.1, nh_X9.2, pd_12⟩
theorem yv_X9_reckonAll : YV yX9_reckonAll cX9_reckonAll 7 none 2 := ⟨tb_6 130 (by rfl) rfl, tb_6 129 (by decide +kernel) rfl, tp_3 (y := yX9_reckonAll) (n := 58) 5 (by decide +kernel), tb_1 9 (by decide +kernel) rfl, nh_X9.1, nh_X9.2, pd_40⟩
theorem yv_X9_isFolk : YV yX9_isFolk cX9_isFolk 2 (some .boolean) 1 := ⟨tb_6 134 (by rfl) rfl, tb_6 133 (by decide +kernel) rfl, tp_3 (y := yX9_isFolk) (n := 58) 6 (by decide +kernel), tb_1 9 (by decide +kernel) rfl, nh_X9.1, nh_X9.2, pd_12⟩
theorem yv_X9_isBadger : YV yX9_isBadger cX9_isBadger 2 (some .boolean) 1 := ⟨tb_6 138 (by rfl) rfl, tb_6 137 (by decide +kernel) rfl, tp_3 (y := yX9_isBadger) (n := 58) 7 (by decide +kernel), tb_1 9 (by decide +kernel) rfl, nh_X9.1, nh_X9.2, pd_12⟩
theorem yv_X9_isThing : YV yX9_isThing cX9_isThing 2 (some .boolean) 1 := ⟨tb_6 142 (by rfl) rfl, tb_6 141 (by decide +kernel) rfl, tp_3 (y := yX9_isThing) (n := 58) 8 (by decide +kernel), tb_1 9 (by decide +kernel) rfl, nh_X9.1, nh_X9.2, pd_12⟩
theorem yv_X9_reckon : YV yX9_reckon cX9_reckon 6 (some .long) 3 := ⟨tb_6 146 (by rfl) rfl, tb_6 145 (by decide +kernel) rfl, tp_3 (y := yX9_reckon) (n := 58) 9 (by decide +kernel), tb_1 9 (by decide +kernel) rfl, nh_X9.1, nh_X9.2, pd_23⟩
theorem pd_65 : (parseMethodDescriptor "(JII)I").map (fun d => d.parameters.length) = some 3 := by decide +kernel
theorem ys_X9_bounded : YS yX9_bounded cX9_bounded 4 (some .int) 3 := ⟨tb_6 151 (by rfl) rfl, tb_6 150 (by decide +kernel) rfl, tb_1 9 (by decide +kernel) rfl, nh_X9.1, nh_X9.2, pd_65⟩
theorem yv_X9_longOf : YV yX9_longOf cX9_longOf 3 (some .int) 2 := ⟨tb_6 156 (by rfl) rfl, tb_6 155 (by decide +kernel) rfl, tp_3 (y := yX9_longOf) (n := 58) 10 (by decide +kernel), tb_1 9 (by decide +kernel) rfl, nh_X9.1, nh_X9.2, pd_9⟩
theorem yv_X9_folk : YV yX9_folk cX9_folk 4 (some .int) 2 := ⟨tb_6 160 (by rfl) rfl, tb_6 158 (by decide +kernel) rfl, tb_6 159 (by decide +kernel) rfl, tb_1 9 (by decide +kernel) rfl, nh_X9.1, nh_X9.2, pd_9⟩
theorem yv_X9_of : YV yX9_of cX9_of 3 (some .int) 2 := ⟨tb_6 164 (by rfl) rfl, tb_6 162 (by decide +kernel) rfl, tb_6 163 (by decide +kernel) rfl, tb_1 9 (by decide +kernel) rfl, nh_X9.1, nh_X9.2, pd_9⟩
theorem yv_X9_badger : YV yX9_badger cX9_badger 3 (some .int) 1 := ⟨tb_6 168 (by rfl) rfl, tb_6 166 (by decide +kernel) rfl, tb_6 167 (by decide +kernel) rfl, tb_1 9 (by decide +kernel) rfl, nh_X9.1, nh_X9.2, pd_11⟩
theorem yv_X9_sow : YV yX9_sow cX9_sow 3 (some .int) 2 := ⟨tb_6 172 (by rfl) rfl, tb_6 170 (by decide +kernel) rfl, tb_6 171 (by decide +kernel) rfl, tb_1 9 (by decide +kernel) rfl, nh_X9.1, nh_X9.2, pd_9⟩
theorem yv_X9_goesTo : YV yX9_goesTo cX9_goesTo 5 (some .int) 1 := ⟨tb_6 176 (by rfl) rfl, tb_6 175 (by decide +kernel) rfl, tp_3 (y := yX9_goesTo) (n := 58) 11 (by decide +kernel), tb_1 9 (by decide +kernel) rfl, nh_X9.1, nh_X9.2, pd_11⟩
theorem ys_X9_is : YS yX9_is cX9_is 2 (some .boolean) 2 := ⟨tb_6 179 (by rfl) rfl, tb_6 178 (by decide +kernel) rfl, tb_1 9 (by decide +kernel) rfl, nh_X9.1, nh_X9.2, pd_13⟩
theorem yv_X9_thing : YV yX9_thing cX9_thing 5 (some .int) 3 := ⟨tb_6 183 (by rfl) rfl, tb_6 181 (by decide +kernel) rfl, tb_6 182 (by decide +kernel) rfl, tb_1 9 (by decide +kernel) rfl, nh_X9.1, nh_X9.2, pd_25⟩
theorem yv_X9_has : YV yX9_has cX9_has 3 (some .int) 2 := ⟨tb_6 187 (by rfl) rfl, tb_6 185 (by decide +kernel) rfl, tb_6 186 (by decide +kernel) rfl, tb_1 9 (by decide +kernel) rfl, nh_X9.1, nh_X9.2, pd_9⟩
theorem yv_X9_link : YV yX9_link cX9_link 5 (some .int) 3 := ⟨tb_6 191 (by rfl) rfl, tb_6 189 (by decide +kernel) rfl, tb_6 190 (by decide +kernel) rfl, tb_1 9 (by decide +kernel) rfl, nh_X9.1, nh_X9.2, pd_25⟩
theorem yv_X9_setLink : YV yX9_setLink cX9_setLink 4 none 3 := ⟨tb_6 195 (by rfl) rfl, tb_6 194 (by decide +kernel) rfl, tp_3 (y := yX9_setLink) (n := 58) 12 (by decide +kernel), tb_1 9 (by decide +kernel) rfl, nh_X9.1, nh_X9.2, pd_16⟩
theorem yv_X9_room : YV yX9_room cX9_room 3 (some .int) 2 := ⟨tb_6 199 (by rfl) rfl, tb_6 197 (by decide +kernel) rfl, tb_6 198 (by decide +kernel) rfl, tb_1 9 (by decide +kernel) rfl, nh_X9.1, nh_X9.2, pd_9⟩
theorem yv_X9_badgersIn : YV yX9_badgersIn cX9_badgersIn 4 (some .int) 1 := ⟨tb_6 203 (by rfl) rfl, tb_6 202 (by decide +kernel) rfl, tp_3 (y := yX9_badgersIn) (n := 58) 13 (by decide +kernel), tb_1 9 (by decide +kernel) rfl, nh_X9.1, nh_X9.2, pd_11⟩
theorem yv_X9_can : YV yX9_can cX9_can 3 (some .int) 2 := ⟨tb_6 207 (by rfl) rfl, tb_6 205 (by decide +kernel) rfl, tb_6 206 (by decide +kernel) rfl, tb_1 9 (by decide +kernel) rfl, nh_X9.1, nh_X9.2, pd_9⟩
theorem yv_X9_canStride : YV yX9_canStride cX9_canStride 7 (some .boolean) 3 := ⟨tb_6 211 (by rfl) rfl, tb_6 210 (by decide +kernel) rfl, tp_3 (y := yX9_canStride) (n := 58) 14 (by decide +kernel), tb_1 9 (by decide +kernel) rfl, nh_X9.1, nh_X9.2, pd_26⟩
theorem yv_X9_terms : YV yX9_terms cX9_terms 4 (some .int) 2 := ⟨tb_6 215 (by rfl) rfl, tb_6 213 (by decide +kernel) rfl, tb_6 214 (by decide +kernel) rfl, tb_1 9 (by decide +kernel) rfl, nh_X9.1, nh_X9.2, pd_9⟩
theorem yv_X9_change : YV yX9_change cX9_change 4 (some .int) 2 := ⟨tb_6 221 (by rfl) rfl, tb_6 220 (by decide +kernel) rfl, tp_3 (y := yX9_change) (n := 58) 15 (by decide +kernel), tb_1 9 (by decide +kernel) rfl, nh_X9.1, nh_X9.2, pd_9⟩
theorem yv_X9_row : YV yX9_row cX9_row 4 (some .int) 0 := ⟨tb_6 225 (by rfl) rfl, tb_6 223 (by decide +kernel) rfl, tb_6 224 (by decide +kernel) rfl, tb_1 9 (by decide +kernel) rfl, nh_X9.1, nh_X9.2, pd_29⟩
theorem yv_X9_scratches : YV yX9_scratches cX9_scratches 1 (some .int) 0 := ⟨tb_6 229 (by rfl) rfl, tb_6 227 (by decide +kernel) rfl, tb_6 228 (by decide +kernel) rfl, tb_1 9 (by decide +kernel) rfl, nh_X9.1, nh_X9.2, pd_29⟩
theorem yv_X9_feed : YV yX9_feed cX9_feed 6 (some .int) 5 := ⟨tb_6 233 (by rfl) rfl, tb_6 231 (by decide +kernel) rfl, tb_6 232 (by decide +kernel) rfl, tb_1 9 (by decide +kernel) rfl, nh_X9.1, nh_X9.2, pd_27⟩
theorem yv_X9_four : YV yX9_four cX9_four 3 none 1 := ⟨tb_6 237 (by rfl) rfl, tb_6 236 (by decide +kernel) rfl, tp_4 (y := yX9_four) (n := 58) 0 (by decide +kernel), tb_1 9 (by decide +kernel) rfl, nh_X9.1, nh_X9.2, pd_28⟩
theorem yv_X9_end : YV yX9_end cX9_end 2 (some .int) 1 := ⟨tb_7 1 (by rfl) rfl, tb_6 239 (by decide +kernel) rfl, tb_7 0 (by decide +kernel) rfl, tb_1 9 (by decide +kernel) rfl, nh_X9.1, nh_X9.2, pd_11⟩
theorem yv_X9_fault : YV yX9_fault cX9_fault 1 (some .int) 0 := ⟨tb_7 5 (by rfl) rfl, tb_7 3 (by decide +kernel) rfl, tb_7 4 (by decide +kernel) rfl, tb_1 9 (by decide +kernel) rfl, nh_X9.1, nh_X9.2, pd_29⟩
theorem yv_X9_law : YV yX9_law cX9_law 3 (some .int) 0 := ⟨tb_7 9 (by rfl) rfl, tb_7 7 (by decide +kernel) rfl, tb_7 8 (by decide +kernel) rfl, tb_1 9 (by decide +kernel) rfl, nh_X9.1, nh_X9.2, pd_29⟩
theorem pd_66 : (parseMethodDescriptor "(Z)V").map (fun d => d.parameters.length) = some 1 := by decide +kernel
theorem yv_X9_beginText : YV yX9_beginText cX9_beginText 2 none 1 := ⟨tb_7 13 (by rfl) rfl, tb_7 12 (by decide +kernel) rfl, tp_4 (y := yX9_beginText) (n := 58) 1 (by decide +kernel), tb_1 9 (by decide +kernel) rfl, nh_X9.1, nh_X9.2, pd_66⟩
theorem yv_X9_begin : YV yX9_begin cX9_begin 1 none 0 := ⟨tb_7 17 (by rfl) rfl, tb_7 16 (by decide +kernel) rfl, tp_4 (y := yX9_begin) (n := 58) 2 (by decide +kernel), tb_1 9 (by decide +kernel) rfl, nh_X9.1, nh_X9.2, pd_1⟩
theorem yv_X9_next : YV yX9_next cX9_next 1 none 0 := ⟨tb_7 21 (by rfl) rfl, tb_7 20 (by decide +kernel) rfl, tp_4 (y := yX9_next) (n := 58) 3 (by decide +kernel), tb_1 9 (by decide +kernel) rfl, nh_X9.1, nh_X9.2, pd_1⟩
theorem ys_X9_isSmall : YS yX9_isSmall cX9_isSmall 1 (some .boolean) 1 := ⟨tb_7 24 (by rfl) rfl, tb_7 23 (by decide +kernel) rfl, tb_1 9 (by decide +kernel) rfl, nh_X9.1, nh_X9.2, pd_12⟩
theorem ys_X9_isDigit : YS yX9_isDigit cX9_isDigit 1 (some .boolean) 1 := ⟨tb_7 27 (by rfl) rfl, tb_7 26 (by decide +kernel) rfl, tb_1 9 (by decide +kernel) rfl, nh_X9.1, nh_X9.2, pd_12⟩
theorem yv_X9_readLaw : YV yX9_readLaw cX9_readLaw 4 none 0 := ⟨tb_7 35 (by rfl) rfl, tb_7 34 (by decide +kernel) rfl, tp_4 (y := yX9_readLaw) (n := 58) 4 (by decide +kernel), tb_1 9 (by decide +kernel) rfl, nh_X9.1, nh_X9.2, pd_1⟩
theorem yv_X9_isWord : YV yX9_isWord cX9_isWord 3 (some .boolean) 1 := ⟨tb_7 39 (by rfl) rfl, tb_7 38 (by decide +kernel) rfl, tp_4 (y := yX9_isWord) (n := 58) 5 (by decide +kernel), tb_1 9 (by decide +kernel) rfl, nh_X9.1, nh_X9.2, pd_10⟩
theorem yv_X9_must : YV yX9_must cX9_must 2 none 1 := ⟨tb_7 43 (by rfl) rfl, tb_7 42 (by decide +kernel) rfl, tp_4 (y := yX9_must) (n := 58) 6 (by decide +kernel), tb_1 9 (by decide +kernel) rfl, nh_X9.1, nh_X9.2, pd_66⟩
theorem yv_X9_readExpression : YV yX9_readExpression cX9_readExpression 3 none 1 := ⟨tb_7 47 (by rfl) rfl, tb_7 46 (by decide +kernel) rfl, tp_4 (y := yX9_readExpression) (n := 58) 7 (by decide +kernel), tb_1 9 (by decide +kernel) rfl, nh_X9.1, nh_X9.2, pd_66⟩
theorem yv_X9_readPlain : YV yX9_readPlain cX9_readPlain 1 (some .int) 0 := ⟨tb_7 51 (by rfl) rfl, tb_7 50 (by decide +kernel) rfl, tp_4 (y := yX9_readPlain) (n := 58) 8 (by decide +kernel), tb_1 9 (by decide +kernel) rfl, nh_X9.1, nh_X9.2, pd_29⟩
theorem yv_X9_push : YV yX9_push cX9_push 3 none 2 := ⟨tb_7 56 (by rfl) rfl, tb_7 55 (by decide +kernel) rfl, tp_4 (y := yX9_push) (n := 58) 9 (by decide +kernel), tb_1 9 (by decide +kernel) rfl, nh_X9.1, nh_X9.2, pd_40⟩
theorem yv_X9_isSign : YV yX9_isSign cX9_isSign 2 (some .boolean) 1 := ⟨tb_7 60 (by rfl) rfl, tb_7 59 (by decide +kernel) rfl, tp_4 (y := yX9_isSign) (n := 58) 10 (by decide +kernel), tb_1 9 (by decide +kernel) rfl, nh_X9.1, nh_X9.2, pd_12⟩
theorem yv_X9_openBracket : YV yX9_openBracket cX9_openBracket 2 none 1 := ⟨tb_7 64 (by rfl) rfl, tb_7 63 (by decide +kernel) rfl, tp_4 (y := yX9_openBracket) (n := 58) 11 (by decide +kernel), tb_1 9 (by decide +kernel) rfl, nh_X9.1, nh_X9.2, pd_28⟩
theorem yv_X9_readPart : YV yX9_readPart cX9_readPart 4 (some .int) 0 := ⟨tb_7 68 (by rfl) rfl, tb_7 67 (by decide +kernel) rfl, tp_4 (y := yX9_readPart) (n := 58) 12 (by decide +kernel), tb_1 9 (by decide +kernel) rfl, nh_X9.1, nh_X9.2, pd_29⟩
theorem yv_X9_orderPartAt : YV yX9_orderPartAt cX9_orderPartAt 3 (some .int) 0 := ⟨tb_7 72 (by rfl) rfl, tb_7 71 (by decide +kernel) rfl, tp_4 (y := yX9_orderPartAt) (n := 58) 13 (by decide +kernel), tb_1 9 (by decide +kernel) rfl, nh_X9.1, nh_X9.2, pd_29⟩
theorem yv_X9_partAt : YV yX9_partAt cX9_partAt 3 (some .int) 0 := ⟨tb_7 76 (by rfl) rfl, tb_7 75 (by decide +kernel) rfl, tp_4 (y := yX9_partAt) (n := 58) 14 (by decide +kernel), tb_1 9 (by decide +kernel) rfl, nh_X9.1, nh_X9.2, pd_29⟩
theorem pd_67 : (parseMethodDescriptor "(ZII)V").map (fun d => d.parameters.length) = some 3 := by decide +kernel
theorem yv_X9_leaf : YV yX9_leaf cX9_leaf 4 none 3 := ⟨tb_7 81 (by rfl) rfl, tb_7 80 (by decide +kernel) rfl, tp_4 (y := yX9_leaf) (n := 58) 15 (by decide +kernel), tb_1 9 (by decide +kernel) rfl, nh_X9.1, nh_X9.2, pd_67⟩
theorem yv_X9_emit : YV yX9_emit cX9_emit 3 none 2 := ⟨tb_7 85 (by rfl) rfl, tb_7 84 (by decide +kernel) rfl, tp_5 (y := yX9_emit) (n := 58) 0 (by decide +kernel), tb_1 9 (by decide +kernel) rfl, nh_X9.1, nh_X9.2, pd_40⟩
theorem pd_68 : (parseMethodDescriptor "(JJ)I").map (fun d => d.parameters.length) = some 2 := by decide +kernel
theorem yv_X9_number : YV yX9_number cX9_number 6 (some .int) 2 := ⟨tb_7 89 (by rfl) rfl, tb_7 88 (by decide +kernel) rfl, tp_5 (y := yX9_number) (n := 58) 1 (by decide +kernel), tb_1 9 (by decide +kernel) rfl, nh_X9.1, nh_X9.2, pd_68⟩
theorem pd_69 : (parseMethodDescriptor "(Z)I").map (fun d => d.parameters.length) = some 1 := by decide +kernel
theorem yv_X9_behindSum : YV yX9_behindSum cX9_behindSum 4 (some .int) 1 := ⟨tb_7 93 (by rfl) rfl, tb_7 92 (by decide +kernel) rfl, tp_5 (y := yX9_behindSum) (n := 58) 2 (by decide +kernel), tb_1 9 (by decide +kernel) rfl, nh_X9.1, nh_X9.2, pd_69⟩
theorem ys_X9_binds : YS yX9_binds cX9_binds 1 (some .int) 1 := ⟨tb_7 96 (by rfl) rfl, tb_7 95 (by decide +kernel) rfl, tb_1 9 (by decide +kernel) rfl, nh_X9.1, nh_X9.2, pd_11⟩
theorem yv_X9_settle : YV yX9_settle cX9_settle 2 none 1 := ⟨tb_7 100 (by rfl) rfl, tb_7 99 (by decide +kernel) rfl, tp_5 (y := yX9_settle) (n := 58) 3 (by decide +kernel), tb_1 9 (by decide +kernel) rfl, nh_X9.1, nh_X9.2, pd_28⟩
theorem yv_X9_inner : YV yX9_inner cX9_inner 3 (some .int) 0 := ⟨tb_7 104 (by rfl) rfl, tb_7 103 (by decide +kernel) rfl, tp_5 (y := yX9_inner) (n := 58) 4 (by decide +kernel), tb_1 9 (by decide +kernel) rfl, nh_X9.1, nh_X9.2, pd_29⟩
theorem yv_X9_isCompared : YV yX9_isCompared cX9_isCompared 2 (some .boolean) 0 := ⟨tb_7 108 (by rfl) rfl, tb_7 107 (by decide +kernel) rfl, tp_5 (y := yX9_isCompared) (n := 58) 5 (by decide +kernel), tb_1 9 (by decide +kernel) rfl, nh_X9.1, nh_X9.2, pd_37⟩
theorem yv_X9_behindTest : YV yX9_behindTest cX9_behindTest 2 (some .int) 0 := ⟨tb_7 116 (by rfl) rfl, tb_7 115 (by decide +kernel) rfl, tp_5 (y := yX9_behindTest) (n := 58) 6 (by decide +kernel), tb_1 9 (by decide +kernel) rfl, nh_X9.1, nh_X9.2, pd_29⟩
theorem yv_X9_endText : YV yX9_endText cX9_endText 1 none 0 := ⟨tb_7 123 (by rfl) rfl, tb_7 122 (by decide +kernel) rfl, tp_5 (y := yX9_endText) (n := 58) 7 (by decide +kernel), tb_1 9 (by decide +kernel) rfl, nh_X9.1, nh_X9.2, pd_1⟩
theorem yv_X9_force : YV yX9_force cX9_force 2 (some .int) 1 := ⟨tb_7 127 (by rfl) rfl, tb_7 125 (by decide +kernel) rfl, tb_7 126 (by decide +kernel) rfl, tb_1 9 (by decide +kernel) rfl, nh_X9.1, nh_X9.2, pd_11⟩
theorem yv_X9_isLaw : YV yX9_isLaw cX9_isLaw 2 (some .boolean) 1 := ⟨tb_7 131 (by rfl) rfl, tb_7 130 (by decide +kernel) rfl, tp_5 (y := yX9_isLaw) (n := 58) 8 (by decide +kernel), tb_1 9 (by decide +kernel) rfl, nh_X9.1, nh_X9.2, pd_12⟩
theorem yv_X9_stride : YV yX9_stride cX9_stride 3 (some .int) 2 := ⟨tb_7 135 (by rfl) rfl, tb_7 133 (by decide +kernel) rfl, tb_7 134 (by decide +kernel) rfl, tb_1 9 (by decide +kernel) rfl, nh_X9.1, nh_X9.2, pd_9⟩
theorem yv_X9_strideNow : YV yX9_strideNow cX9_strideNow 3 (some .int) 2 := ⟨tb_7 139 (by rfl) rfl, tb_7 138 (by decide +kernel) rfl, tp_5 (y := yX9_strideNow) (n := 58) 9 (by decide +kernel), tb_1 9 (by decide +kernel) rfl, nh_X9.1, nh_X9.2, pd_9⟩
theorem yv_X9_remember : YV yX9_remember cX9_remember 3 none 1 := ⟨tb_7 143 (by rfl) rfl, tb_7 142 (by decide +kernel) rfl, tp_5 (y := yX9_remember) (n := 58) 10 (by decide +kernel), tb_1 9 (by decide +kernel) rfl, nh_X9.1, nh_X9.2, pd_28⟩
theorem yv_X9_keepAll : YV yX9_keepAll cX9_keepAll 3 none 1 := ⟨tb_7 147 (by rfl) rfl, tb_7 146 (by decide +kernel) rfl, tp_5 (y := yX9_keepAll) (n := 58) 11 (by decide +kernel), tb_1 9 (by decide +kernel) rfl, nh_X9.1, nh_X9.2, pd_28⟩
theorem yv_X9_put : YV yX9_put cX9_put 3 (some .int) 2 := ⟨tb_7 151 (by rfl) rfl, tb_7 149 (by decide +kernel) rfl, tb_7 150 (by decide +kernel) rfl, tb_1 9 (by decide +kernel) rfl, nh_X9.1, nh_X9.2, pd_9⟩
theorem yv_X9_putNow : YV yX9_putNow cX9_putNow 4 (some .int) 2 := ⟨tb_7 155 (by rfl) rfl, tb_7 154 (by decide +kernel) rfl, tp_5 (y := yX9_putNow) (n := 58) 12 (by decide +kernel), tb_1 9 (by decide +kernel) rfl, nh_X9.1, nh_X9.2, pd_9⟩
theorem yv_X9_door : YV yX9_door cX9_door 3 (some .int) 2 := ⟨tb_7 159 (by rfl) rfl, tb_7 157 (by decide +kernel) rfl, tb_7 158 (by decide +kernel) rfl, tb_1 9 (by decide +kernel) rfl, nh_X9.1, nh_X9.2, pd_9⟩
theorem yv_X9_doorNow : YV yX9_doorNow cX9_doorNow 3 (some .int) 2 := ⟨tb_7 163 (by rfl) rfl, tb_7 162 (by decide +kernel) rfl, tp_5 (y := yX9_doorNow) (n := 58) 13 (by decide +kernel), tb_1 9 (by decide +kernel) rfl, nh_X9.1, nh_X9.2, pd_9⟩
theorem yv_X9_pass : YV yX9_pass cX9_pass 1 (some .int) 0 := ⟨tb_7 167 (by rfl) rfl, tb_7 165 (by decide +kernel) rfl, tb_7 166 (by decide +kernel) rfl, tb_1 9 (by decide +kernel) rfl, nh_X9.1, nh_X9.2, pd_29⟩
theorem yv_X9_passNow : YV yX9_passNow cX9_passNow 1 (some .int) 0 := ⟨tb_7 171 (by rfl) rfl, tb_7 170 (by decide +kernel) rfl, tp_5 (y := yX9_passNow) (n := 58) 14 (by decide +kernel), tb_1 9 (by decide +kernel) rfl, nh_X9.1, nh_X9.2, pd_29⟩
theorem yv_X9_passIt : YV yX9_passIt cX9_passIt 4 (some .int) 0 := ⟨tb_7 175 (by rfl) rfl, tb_7 174 (by decide +kernel) rfl, tp_5 (y := yX9_passIt) (n := 58) 15 (by decide +kernel), tb_1 9 (by decide +kernel) rfl, nh_X9.1, nh_X9.2, pd_29⟩
theorem yv_X9_allGo : YV yX9_allGo cX9_allGo 2 none 0 := ⟨tb_7 179 (by rfl) rfl, tb_7 178 (by decide +kernel) rfl, tp_6 (y := yX9_allGo) (n := 58) 0 (by decide +kernel), tb_1 9 (by decide +kernel) rfl, nh_X9.1, nh_X9.2, pd_1⟩
theorem yv_X9_soonest : YV yX9_soonest cX9_soonest 8 (some .int) 3 := ⟨tb_7 183 (by rfl) rfl, tb_7 181 (by decide +kernel) rfl, tb_7 182 (by decide +kernel) rfl, tb_1 9 (by decide +kernel) rfl, nh_X9.1, nh_X9.2, pd_25⟩
theorem yv_X9_laySoonest : YV yX9_laySoonest cX9_laySoonest 8 (some .int) 2 := ⟨tb_7 187 (by rfl) rfl, tb_7 186 (by decide +kernel) rfl, tp_6 (y := yX9_laySoonest) (n := 58) 1 (by decide +kernel), tb_1 9 (by decide +kernel) rfl, nh_X9.1, nh_X9.2, pd_9⟩
theorem pd_70 : (parseMethodDescriptor "(IIIII)Z").map (fun d => d.parameters.length) = some 5 := by decide +kernel
theorem yv_X9_goesOn : YV yX9_goesOn cX9_goesOn 7 (some .boolean) 5 := ⟨tb_7 191 (by rfl) rfl, tb_7 190 (by decide +kernel) rfl, tp_6 (y := yX9_goesOn) (n := 58) 2 (by decide +kernel), tb_1 9 (by decide +kernel) rfl, nh_X9.1, nh_X9.2, pd_70⟩
theorem yv_X9_layComing : YV yX9_layComing cX9_layComing 9 none 3 := ⟨tb_7 195 (by rfl) rfl, tb_7 194 (by decide +kernel) rfl, tp_6 (y := yX9_layComing) (n := 58) 3 (by decide +kernel), tb_1 9 (by decide +kernel) rfl, nh_X9.1, nh_X9.2, pd_16⟩
theorem yv_X9_near : YV yX9_near cX9_near 3 (some .int) 2 := ⟨tb_7 199 (by rfl) rfl, tb_7 197 (by decide +kernel) rfl, tb_7 198 (by decide +kernel) rfl, tb_1 9 (by decide +kernel) rfl, nh_X9.1, nh_X9.2, pd_9⟩
theorem yv_X9_layStrides : YV yX9_layStrides cX9_layStrides 4 none 1 := ⟨tb_7 203 (by rfl) rfl, tb_7 202 (by decide +kernel) rfl, tp_6 (y := yX9_layStrides) (n := 58) 4 (by decide +kernel), tb_1 9 (by decide +kernel) rfl, nh_X9.1, nh_X9.2, pd_28⟩
theorem yv_X9_nearBy : YV yX9_nearBy cX9_nearBy 9 (some .int) 3 := ⟨tb_7 207 (by rfl) rfl, tb_7 206 (by decide +kernel) rfl, tp_6 (y := yX9_nearBy) (n := 58) 5 (by decide +kernel), tb_1 9 (by decide +kernel) rfl, nh_X9.1, nh_X9.2, pd_25⟩
theorem yv_X9_cut : YV yX9_cut cX9_cut 8 (some .int) 3 := ⟨tb_7 211 (by rfl) rfl, tb_7 209 (by decide +kernel) rfl, tb_7 210 (by decide +kernel) rfl, tb_1 9 (by decide +kernel) rfl, nh_X9.1, nh_X9.2, pd_25⟩
theorem ys_X9_ones : YS yX9_ones cX9_ones 3 (some .int) 1 := ⟨tb_7 215 (by rfl) rfl, tb_7 214 (by decide +kernel) rfl, tb_1 9 (by decide +kernel) rfl, nh_X9.1, nh_X9.2, pd_11⟩
theorem yv_X9_roost : YV yX9_roost cX9_roost 6 (some .int) 1 := ⟨tb_7 219 (by rfl) rfl, tb_7 217 (by decide +kernel) rfl, tb_7 218 (by decide +kernel) rfl, tb_1 9 (by decide +kernel) rfl, nh_X9.1, nh_X9.2, pd_11⟩
theorem yv_X9_isSafeAllDay : YV yX9_isSafeAllDay cX9_isSafeAllDay 5 (some .boolean) 1 := ⟨tb_7 223 (by rfl) rfl, tb_7 222 (by decide +kernel) rfl, tp_6 (y := yX9_isSafeAllDay) (n := 58) 6 (by decide +kernel), tb_1 9 (by decide +kernel) rfl, nh_X9.1, nh_X9.2, pd_12⟩
theorem yv_X9_where : YV yX9_where cX9_where 4 (some .int) 2 := ⟨tb_7 227 (by rfl) rfl, tb_7 225 (by decide +kernel) rfl, tb_7 226 (by decide +kernel) rfl, tb_1 9 (by decide +kernel) rfl, nh_X9.1, nh_X9.2, pd_9⟩
theorem yv_X9_meeting : YV yX9_meeting cX9_meeting 5 (some .int) 2 := ⟨tb_7 232 (by rfl) rfl, tb_7 230 (by decide +kernel) rfl, tb_7 231 (by decide +kernel) rfl, tb_1 9 (by decide +kernel) rfl, nh_X9.1, nh_X9.2, pd_9⟩
theorem yv_X9_free : YV yX9_free cX9_free 4 (some .int) 1 := ⟨tb_7 236 (by rfl) rfl, tb_7 234 (by decide +kernel) rfl, tb_7 235 (by decide +kernel) rfl, tb_1 9 (by decide +kernel) rfl, nh_X9.1, nh_X9.2, pd_11⟩
theorem yv_X9_shares : YV yX9_shares cX9_shares 8 (some .int) 1 := ⟨tb_8 0 (by rfl) rfl, tb_7 238 (by decide +kernel) rfl, tb_7 239 (by decide +kernel) rfl, tb_1 9 (by decide +kernel) rfl, nh_X9.1, nh_X9.2, pd_11⟩
theorem yv_X9_low : YV yX9_low cX9_low 5 (some .int) 1 := ⟨tb_8 4 (by rfl) rfl, tb_8 2 (by decide +kernel) rfl, tb_8 3 (by decide +kernel) rfl, tb_1 9 (by decide +kernel) rfl, nh_X9.1, nh_X9.2, pd_11⟩
theorem yv_X9_seen : YV yX9_seen cX9_seen 4 (some .int) 2 := ⟨tb_8 8 (by rfl) rfl, tb_8 6 (by decide +kernel) rfl, tb_8 7 (by decide +kernel) rfl, tb_1 9 (by decide +kernel) rfl, nh_X9.1, nh_X9.2, pd_9⟩
theorem yv_X9_forget : YV yX9_forget cX9_forget 2 (some .int) 0 := ⟨tb_8 12 (by rfl) rfl, tb_8 10 (by decide +kernel) rfl, tb_8 11 (by decide +kernel) rfl, tb_1 9 (by decide +kernel) rfl, nh_X9.1, nh_X9.2, pd_29⟩
theorem yv_X9_canBe : YV yX9_canBe cX9_canBe 1 (some .int) 0 := ⟨tb_8 16 (by rfl) rfl, tb_8 14 (by decide +kernel) rfl, tb_8 15 (by decide +kernel) rfl, tb_1 9 (by decide +kernel) rfl, nh_X9.1, nh_X9.2, pd_29⟩
theorem yv_X9_layLater : YV yX9_layLater cX9_layLater 3 none 0 := ⟨tb_8 20 (by rfl) rfl, tb_8 19 (by decide +kernel) rfl, tp_6 (y := yX9_layLater) (n := 58) 7 (by decide +kernel), tb_1 9 (by decide +kernel) rfl, nh_X9.1, nh_X9.2, pd_1⟩
theorem yv_X9_thatCanBe : YV yX9_thatCanBe cX9_thatCanBe 5 (some .int) 0 := ⟨tb_8 24 (by rfl) rfl, tb_8 23 (by decide +kernel) rfl, tp_6 (y := yX9_thatCanBe) (n := 58) 8 (by decide +kernel), tb_1 9 (by decide +kernel) rfl, nh_X9.1, nh_X9.2, pd_29⟩
theorem yv_X9_look : YV yX9_look cX9_look 7 (some .int) 1 := ⟨tb_8 28 (by rfl) rfl, tb_8 26 (by decide +kernel) rfl, tb_8 27 (by decide +kernel) rfl, tb_1 9 (by decide +kernel) rfl, nh_X9.1, nh_X9.2, pd_11⟩
theorem yv_X9_mostAlike : YV yX9_mostAlike cX9_mostAlike 7 (some .int) 2 := ⟨tb_8 32 (by rfl) rfl, tb_8 31 (by decide +kernel) rfl, tp_6 (y := yX9_mostAlike) (n := 58) 9 (by decide +kernel), tb_1 9 (by decide +kernel) rfl, nh_X9.1, nh_X9.2, pd_9⟩
theorem yv_X9_few : YV yX9_few cX9_few 8 (some .long) 2 := ⟨tb_8 36 (by rfl) rfl, tb_8 34 (by decide +kernel) rfl, tb_8 35 (by decide +kernel) rfl, tb_1 9 (by decide +kernel) rfl, nh_X9.1, nh_X9.2, pd_59⟩
theorem yv_X9_compare : YV yX9_compare cX9_compare 5 (some .int) 2 := ⟨tb_8 42 (by rfl) rfl, tb_8 40 (by decide +kernel) rfl, tb_8 41 (by decide +kernel) rfl, tb_1 9 (by decide +kernel) rfl, nh_X9.1, nh_X9.2, pd_9⟩
theorem yv_X9_orders : YV yX9_orders cX9_orders 4 (some .int) 0 := ⟨tb_8 46 (by rfl) rfl, tb_8 44 (by decide +kernel) rfl, tb_8 45 (by decide +kernel) rfl, tb_1 9 (by decide +kernel) rfl, nh_X9.1, nh_X9.2, pd_29⟩
theorem yv_X9_readOrder : YV yX9_readOrder cX9_readOrder 4 none 0 := ⟨tb_8 50 (by rfl) rfl, tb_8 49 (by decide +kernel) rfl, tp_6 (y := yX9_readOrder) (n := 58) 10 (by decide +kernel), tb_1 9 (by decide +kernel) rfl, nh_X9.1, nh_X9.2, pd_1⟩
theorem yv_X9_readSum : YV yX9_readSum cX9_readSum 2 none 1 := ⟨tb_8 54 (by rfl) rfl, tb_8 53 (by decide +kernel) rfl, tp_6 (y := yX9_readSum) (n := 58) 11 (by decide +kernel), tb_1 9 (by decide +kernel) rfl, nh_X9.1, nh_X9.2, pd_28⟩
theorem yv_X9_run : YV yX9_run cX9_run 5 (some .int) 1 := ⟨tb_8 59 (by rfl) rfl, tb_8 58 (by decide +kernel) rfl, tp_6 (y := yX9_run) (n := 58) 12 (by decide +kernel), tb_1 9 (by decide +kernel) rfl, nh_X9.1, nh_X9.2, pd_11⟩
theorem yv_X9_sumOf : YV yX9_sumOf cX9_sumOf 2 (some .int) 1 := ⟨tb_8 63 (by rfl) rfl, tb_8 62 (by decide +kernel) rfl, tp_6 (y := yX9_sumOf) (n := 58) 13 (by decide +kernel), tb_1 9 (by decide +kernel) rfl, nh_X9.1, nh_X9.2, pd_11⟩
theorem yv_X9_act : YV yX9_act cX9_act 4 (some .int) 3 := ⟨tb_8 67 (by rfl) rfl, tb_8 66 (by decide +kernel) rfl, tp_6 (y := yX9_act) (n := 58) 14 (by decide +kernel), tb_1 9 (by decide +kernel) rfl, nh_X9.1, nh_X9.2, pd_25⟩
theorem yv_X9_giveBack : YV yX9_giveBack cX9_giveBack 3 none 1 := ⟨tb_8 71 (by rfl) rfl, tb_8 70 (by decide +kernel) rfl, tp_6 (y := yX9_giveBack) (n := 58) 15 (by decide +kernel), tb_1 9 (by decide +kernel) rfl, nh_X9.1, nh_X9.2, pd_28⟩
theorem yv_X9_stopped : YV yX9_stopped cX9_stopped 1 (some .int) 0 := ⟨tb_8 75 (by rfl) rfl, tb_8 73 (by decide +kernel) rfl, tb_8 74 (by decide +kernel) rfl, tb_1 9 (by decide +kernel) rfl, nh_X9.1, nh_X9.2, pd_29⟩
theorem yv_X9_dusks : YV yX9_dusks cX9_dusks 8 (some .int) 2 := ⟨tb_8 79 (by rfl) rfl, tb_8 77 (by decide +kernel) rfl, tb_8 78 (by decide +kernel) rfl, tb_1 9 (by decide +kernel) rfl, nh_X9.1, nh_X9.2, pd_9⟩
theorem yv_X9_draw : YV yX9_draw cX9_draw 2 (some .int) 1 := ⟨tb_8 83 (by rfl) rfl, tb_8 82 (by decide +kernel) rfl, tp_7 (y := yX9_draw) (n := 58) 0 (by decide +kernel), tb_1 9 (by decide +kernel) rfl, nh_X9.1, nh_X9.2, pd_11⟩
theorem yv_X9_drawn : YV yX9_drawn cX9_drawn 3 (some .int) 2 := ⟨tb_8 90 (by rfl) rfl, tb_8 88 (by decide +kernel) rfl, tb_8 89 (by decide +kernel) rfl, tb_1 9 (by decide +kernel) rfl, nh_X9.1, nh_X9.2, pd_9⟩
theorem yv_X9_count : YV yX9_count cX9_count 2 (some .int) 1 := ⟨tb_8 94 (by rfl) rfl, tb_8 92 (by decide +kernel) rfl, tb_8 93 (by decide +kernel) rfl, tb_1 9 (by decide +kernel) rfl, nh_X9.1, nh_X9.2, pd_11⟩
theorem yv_X9_status : YV yX9_status cX9_status 1 (some .int) 0 := ⟨tb_8 100 (by rfl) rfl, tb_8 98 (by decide +kernel) rfl, tb_8 99 (by decide +kernel) rfl, tb_1 9 (by decide +kernel) rfl, nh_X9.1, nh_X9.2, pd_29⟩
