/-! ===== part 20: constructors: words, decode rows, Row(size): written by wip/whole/cons.py ===== -/
theorem ob_i : Cond.instanceMethod Lib.objectInit ∈ mm_GW := mm_g1 25 (by decide +kernel) rfl
theorem ob_c : Cond.code Lib.objectInit ⟨#[0xb1]⟩ 1 none ∈ mm_GW := mm_g1 26 (by decide +kernel) rfl
theorem ac_int : Cond.arrayClass (newarray.typeOf .int) ∈ mm_GW := mm_g1 46 (by decide +kernel) rfl
theorem ac_boolean : Cond.arrayClass (newarray.typeOf .boolean) ∈ mm_GW := mm_g6 96 (by decide +kernel) rfl
def M2_init : mm_M := (RX2, yX2_init, cX2_init, 4, none, 1)
theorem mc_2_init : Cond.code yX2_init cX2_init 4 none ∈ mm_GW := mm_g2 99 (by decide +kernel) rfl
def M6_init : mm_M := (RX6, yX6_init, cX6_init, 2, none, 1)
theorem mc_6_init : Cond.code yX6_init cX6_init 2 none ∈ mm_GW := mm_g1 37 (by decide +kernel) rfl
def M7_init : mm_M := (RX7, yX7_init, cX7_init, 1, none, 1)
theorem mc_7_init : Cond.code yX7_init cX7_init 1 none ∈ mm_GW := mm_g1 134 (by decide +kernel) rfl
def M9_init : mm_M := (RX9, yX9_init, cX9_init, 4, none, 1)
theorem mc_9_init : Cond.code yX9_init cX9_init 4 none ∈ mm_GW := mm_g2 77 (by decide +kernel) rfl
def M0_init : mm_M := (RX0, yX0_init, cX0_init, 1, none, 2)
theorem mc_0_init : Cond.code yX0_init cX0_init 1 none ∈ mm_GW := mm_g1 80 (by decide +kernel) rfl
def M3_init : mm_M := (RX3, yX3_init, cX3_init, 4, none, 2)
theorem mc_3_init : Cond.code yX3_init cX3_init 4 none ∈ mm_GW := mm_g2 117 (by decide +kernel) rfl
def M4_init : mm_M := (RX4, yX4_init, cX4_init, 1, none, 2)
theorem mc_4_init : Cond.code yX4_init cX4_init 1 none ∈ mm_GW := mm_g1 31 (by decide +kernel) rfl
def M5_init : mm_M := (RX5, yX5_init, cX5_init, 2, none, 2)
theorem mc_5_init : Cond.code yX5_init cX5_init 2 none ∈ mm_GW := mm_g2 151 (by decide +kernel) rfl
def M8_init : mm_M := (RX8, yX8_init, cX8_init, 1, none, 2)
theorem mc_8_init : Cond.code yX8_init cX8_init 1 none ∈ mm_GW := mm_g2 30 (by decide +kernel) rfl
def M1_init : mm_M := (RX1, yX1_init, cX1_init, 1, none, 3)
theorem mc_1_init : Cond.code yX1_init cX1_init 1 none ∈ mm_GW := mm_g1 178 (by decide +kernel) rfl
def M11_init : mm_M := (RX11, yX11_init, cX11_init, 1, none, 3)
theorem mc_11_init : Cond.code yX11_init cX11_init 1 none ∈ mm_GW := mm_g5 150 (by decide +kernel) rfl
def M10_init : mm_M := (RX10, yX10_init, cX10_init, 1, none, 4)
theorem mc_10_init : Cond.code yX10_init cX10_init 1 none ∈ mm_GW := mm_g1 23 (by decide +kernel) rfl
theorem d2_init_0 : decode (mm_cc M2_init) 0 = .ok (.aload_n 0, 1) := by decide +kernel
theorem d2_init_1 : decode (mm_cc M2_init) 1 = .ok (.invokespecial 3, 3) := by decide +kernel
theorem d2_init_4 : decode (mm_cc M2_init) 4 = .ok (.aload_n 0, 1) := by decide +kernel
theorem d2_init_5 : decode (mm_cc M2_init) 5 = .ok (.aload_n 1, 1) := by decide +kernel
theorem d2_init_6 : decode (mm_cc M2_init) 6 = .ok (.putfield 9, 3) := by decide +kernel
theorem d2_init_9 : decode (mm_cc M2_init) 9 = .ok (.aload_n 0, 1) := by decide +kernel
theorem d2_init_10 : decode (mm_cc M2_init) 10 = .ok (.aload_n 2, 1) := by decide +kernel
theorem d2_init_11 : decode (mm_cc M2_init) 11 = .ok (.putfield 15, 3) := by decide +kernel
theorem d2_init_14 : decode (mm_cc M2_init) 14 = .ok (.aload_n 0, 1) := by decide +kernel
theorem d2_init_15 : decode (mm_cc M2_init) 15 = .ok (.aload_n 3, 1) := by decide +kernel
theorem d2_init_16 : decode (mm_cc M2_init) 16 = .ok (.putfield 19, 3) := by decide +kernel
theorem d2_init_19 : decode (mm_cc M2_init) 19 = .ok (.return_, 1) := by decide +kernel
theorem ol_X2 : Cond.methodLink RX2 3 Lib.objectInit ∈ mm_GW := mm_g2 100 (by decide +kernel) rfl
theorem fc_X2_9 : mm_FC M2_init 9 2 0 (.object "ForgottenCrafts$Crafts") := ⟨_, _, _, mmcl_X2, by decide, mm_g2 101 (by decide +kernel) rfl, by decide +kernel, by decide +kernel⟩
theorem fc_X2_15 : mm_FC M2_init 15 2 1 (.object "ForgottenCrafts$Rules") := ⟨_, _, _, mmcl_X2, by decide, mm_g2 103 (by decide +kernel) rfl, by decide +kernel, by decide +kernel⟩
theorem fc_X2_19 : mm_FC M2_init 19 2 2 (.object "ForgottenCrafts$Folk") := ⟨_, _, _, mmcl_X2, by decide, mm_g2 104 (by decide +kernel) rfl, by decide +kernel, by decide +kernel⟩
theorem d6_init_0 : decode (mm_cc M6_init) 0 = .ok (.aload_n 0, 1) := by decide +kernel
theorem d6_init_1 : decode (mm_cc M6_init) 1 = .ok (.invokespecial 1, 3) := by decide +kernel
theorem d6_init_4 : decode (mm_cc M6_init) 4 = .ok (.aload_n 0, 1) := by decide +kernel
theorem d6_init_5 : decode (mm_cc M6_init) 5 = .ok (.iconst 0, 1) := by decide +kernel
theorem d6_init_6 : decode (mm_cc M6_init) 6 = .ok (.iload_n 1, 1) := by decide +kernel
theorem d6_init_7 : decode (mm_cc M6_init) 7 = .ok (.invokestatic 7, 3) := by decide +kernel
theorem d6_init_10 : decode (mm_cc M6_init) 10 = .ok (.newarray .int, 2) := by decide +kernel
theorem d6_init_12 : decode (mm_cc M6_init) 12 = .ok (.putfield 13, 3) := by decide +kernel
theorem d6_init_15 : decode (mm_cc M6_init) 15 = .ok (.return_, 1) := by decide +kernel
theorem ol_X6 : Cond.methodLink RX6 1 Lib.objectInit ∈ mm_GW := mm_g1 38 (by decide +kernel) rfl
theorem lm_X6_7 : mm_LM RX6 7 Lib.Math.max.name Lib.Math.max.code := ⟨mm_g1 39 (by decide +kernel) rfl, mm_g1 40 (by decide +kernel) rfl, mm_g1 4 (by decide +kernel) rfl, mm_g1 41 (by decide +kernel) rfl⟩
theorem fc_X6_13 : mm_FC M6_init 13 6 0 (.array .int) := ⟨_, _, _, mmcl_X6, by decide, mm_g1 42 (by decide +kernel) rfl, by decide +kernel, by decide +kernel⟩
theorem d7_init_0 : decode (mm_cc M7_init) 0 = .ok (.aload_n 0, 1) := by decide +kernel
theorem d7_init_1 : decode (mm_cc M7_init) 1 = .ok (.invokespecial 3, 3) := by decide +kernel
theorem d7_init_4 : decode (mm_cc M7_init) 4 = .ok (.aload_n 0, 1) := by decide +kernel
theorem d7_init_5 : decode (mm_cc M7_init) 5 = .ok (.invokevirtual 9, 3) := by decide +kernel
theorem d7_init_8 : decode (mm_cc M7_init) 8 = .ok (.return_, 1) := by decide +kernel
theorem ol_X7 : Cond.methodLink RX7 3 Lib.objectInit ∈ mm_GW := mm_g1 135 (by decide +kernel) rfl
theorem d9_init_0 : decode (mm_cc M9_init) 0 = .ok (.aload_n 0, 1) := by decide +kernel
theorem d9_init_1 : decode (mm_cc M9_init) 1 = .ok (.invokespecial 3, 3) := by decide +kernel
theorem d9_init_4 : decode (mm_cc M9_init) 4 = .ok (.aload_n 0, 1) := by decide +kernel
theorem d9_init_5 : decode (mm_cc M9_init) 5 = .ok (.iconst 0, 1) := by decide +kernel
theorem d9_init_6 : decode (mm_cc M9_init) 6 = .ok (.putfield 9, 3) := by decide +kernel
theorem d9_init_9 : decode (mm_cc M9_init) 9 = .ok (.aload_n 0, 1) := by decide +kernel
theorem d9_init_10 : decode (mm_cc M9_init) 10 = .ok (.lconst 0, 1) := by decide +kernel
theorem d9_init_11 : decode (mm_cc M9_init) 11 = .ok (.putfield 15, 3) := by decide +kernel
theorem d9_init_14 : decode (mm_cc M9_init) 14 = .ok (.aload_n 0, 1) := by decide +kernel
theorem d9_init_15 : decode (mm_cc M9_init) 15 = .ok (.aload_n 1, 1) := by decide +kernel
theorem d9_init_16 : decode (mm_cc M9_init) 16 = .ok (.putfield 19, 3) := by decide +kernel
theorem d9_init_19 : decode (mm_cc M9_init) 19 = .ok (.aload_n 0, 1) := by decide +kernel
theorem d9_init_20 : decode (mm_cc M9_init) 20 = .ok (.aload_n 2, 1) := by decide +kernel
theorem d9_init_21 : decode (mm_cc M9_init) 21 = .ok (.putfield 23, 3) := by decide +kernel
theorem d9_init_24 : decode (mm_cc M9_init) 24 = .ok (.aload_n 0, 1) := by decide +kernel
theorem d9_init_25 : decode (mm_cc M9_init) 25 = .ok (.aload_n 3, 1) := by decide +kernel
theorem d9_init_26 : decode (mm_cc M9_init) 26 = .ok (.putfield 27, 3) := by decide +kernel
theorem d9_init_29 : decode (mm_cc M9_init) 29 = .ok (.return_, 1) := by decide +kernel
theorem ol_X9 : Cond.methodLink RX9 3 Lib.objectInit ∈ mm_GW := mm_g2 78 (by decide +kernel) rfl
theorem fc_X9_9 : mm_FC M9_init 9 9 3 .int := ⟨_, _, _, mmcl_X9, by decide, mm_g2 82 (by decide +kernel) rfl, by decide +kernel, by decide +kernel⟩
theorem fc_X9_15 : mm_FC M9_init 15 9 4 .long := ⟨_, _, _, mmcl_X9, by decide, mm_g2 83 (by decide +kernel) rfl, by decide +kernel, by decide +kernel⟩
theorem fc_X9_19 : mm_FC M9_init 19 9 0 (.object "ForgottenCrafts$Reader") := ⟨_, _, _, mmcl_X9, by decide, mm_g2 79 (by decide +kernel) rfl, by decide +kernel, by decide +kernel⟩
theorem fc_X9_23 : mm_FC M9_init 23 9 1 (.object "ForgottenCrafts$Crafts") := ⟨_, _, _, mmcl_X9, by decide, mm_g2 80 (by decide +kernel) rfl, by decide +kernel, by decide +kernel⟩
theorem fc_X9_27 : mm_FC M9_init 27 9 2 (.object "ForgottenCrafts$Folk") := ⟨_, _, _, mmcl_X9, by decide, mm_g2 81 (by decide +kernel) rfl, by decide +kernel, by decide +kernel⟩
theorem d0_init_0 : decode (mm_cc M0_init) 0 = .ok (.aload_n 0, 1) := by decide +kernel
theorem d0_init_1 : decode (mm_cc M0_init) 1 = .ok (.invokespecial 3, 3) := by decide +kernel
theorem d0_init_4 : decode (mm_cc M0_init) 4 = .ok (.aload_n 0, 1) := by decide +kernel
theorem d0_init_5 : decode (mm_cc M0_init) 5 = .ok (.new 9, 3) := by decide +kernel
theorem d0_init_8 : decode (mm_cc M0_init) 8 = .ok (.dup, 1) := by decide +kernel
theorem d0_init_9 : decode (mm_cc M0_init) 9 = .ok (.bipush 6, 2) := by decide +kernel
theorem d0_init_11 : decode (mm_cc M0_init) 11 = .ok (.invokespecial 11, 3) := by decide +kernel
theorem d0_init_14 : decode (mm_cc M0_init) 14 = .ok (.putfield 14, 3) := by decide +kernel
theorem d0_init_17 : decode (mm_cc M0_init) 17 = .ok (.aload_n 0, 1) := by decide +kernel
theorem d0_init_18 : decode (mm_cc M0_init) 18 = .ok (.new 9, 3) := by decide +kernel
theorem d0_init_21 : decode (mm_cc M0_init) 21 = .ok (.dup, 1) := by decide +kernel
theorem d0_init_22 : decode (mm_cc M0_init) 22 = .ok (.bipush 6, 2) := by decide +kernel
theorem d0_init_24 : decode (mm_cc M0_init) 24 = .ok (.invokespecial 11, 3) := by decide +kernel
theorem d0_init_27 : decode (mm_cc M0_init) 27 = .ok (.putfield 20, 3) := by decide +kernel
theorem d0_init_30 : decode (mm_cc M0_init) 30 = .ok (.aload_n 0, 1) := by decide +kernel
theorem d0_init_31 : decode (mm_cc M0_init) 31 = .ok (.new 9, 3) := by decide +kernel
theorem d0_init_34 : decode (mm_cc M0_init) 34 = .ok (.dup, 1) := by decide +kernel
theorem d0_init_35 : decode (mm_cc M0_init) 35 = .ok (.bipush 6, 2) := by decide +kernel
theorem d0_init_37 : decode (mm_cc M0_init) 37 = .ok (.invokespecial 11, 3) := by decide +kernel
theorem d0_init_40 : decode (mm_cc M0_init) 40 = .ok (.putfield 23, 3) := by decide +kernel
theorem d0_init_43 : decode (mm_cc M0_init) 43 = .ok (.aload_n 0, 1) := by decide +kernel
theorem d0_init_44 : decode (mm_cc M0_init) 44 = .ok (.new 9, 3) := by decide +kernel
theorem d0_init_47 : decode (mm_cc M0_init) 47 = .ok (.dup, 1) := by decide +kernel
theorem d0_init_48 : decode (mm_cc M0_init) 48 = .ok (.bipush 6, 2) := by decide +kernel
theorem d0_init_50 : decode (mm_cc M0_init) 50 = .ok (.invokespecial 11, 3) := by decide +kernel
theorem d0_init_53 : decode (mm_cc M0_init) 53 = .ok (.putfield 26, 3) := by decide +kernel
theorem d0_init_56 : decode (mm_cc M0_init) 56 = .ok (.aload_n 0, 1) := by decide +kernel
theorem d0_init_57 : decode (mm_cc M0_init) 57 = .ok (.new 9, 3) := by decide +kernel
theorem d0_init_60 : decode (mm_cc M0_init) 60 = .ok (.dup, 1) := by decide +kernel
theorem d0_init_61 : decode (mm_cc M0_init) 61 = .ok (.bipush 48, 2) := by decide +kernel
theorem d0_init_63 : decode (mm_cc M0_init) 63 = .ok (.invokespecial 11, 3) := by decide +kernel
theorem d0_init_66 : decode (mm_cc M0_init) 66 = .ok (.putfield 29, 3) := by decide +kernel
theorem d0_init_69 : decode (mm_cc M0_init) 69 = .ok (.aload_n 0, 1) := by decide +kernel
theorem d0_init_70 : decode (mm_cc M0_init) 70 = .ok (.iconst 0, 1) := by decide +kernel
theorem d0_init_71 : decode (mm_cc M0_init) 71 = .ok (.putfield 32, 3) := by decide +kernel
theorem d0_init_74 : decode (mm_cc M0_init) 74 = .ok (.aload_n 0, 1) := by decide +kernel
theorem d0_init_75 : decode (mm_cc M0_init) 75 = .ok (.iconst 0, 1) := by decide +kernel
theorem d0_init_76 : decode (mm_cc M0_init) 76 = .ok (.putfield 36, 3) := by decide +kernel
theorem d0_init_79 : decode (mm_cc M0_init) 79 = .ok (.return_, 1) := by decide +kernel
theorem ol_X0 : Cond.methodLink RX0 3 Lib.objectInit ∈ mm_GW := mm_g1 81 (by decide +kernel) rfl
theorem nc_X0_9 : mm_NC RX0 9 6 RX6 1 := ⟨TX6, mmcl_X6, mm_g1 82 (by decide +kernel) rfl, mm_g1 34 (by decide +kernel) rfl, mm_g1 3 (by decide +kernel) rfl, tyX6, tyX6_ok, by decide +kernel⟩
theorem li_X0_11 : mm_LI RX0 11 M6_init 1 := ⟨Or.inr ⟨"ForgottenCrafts", mm_n1 83 (by decide +kernel) rfl⟩, rfl, rfl, mm_g1 36 (by decide +kernel) rfl, mm_g1 3 (by decide +kernel) rfl, mc_6_init, ⟨by decide +kernel, by decide +kernel⟩, by decide +kernel⟩
theorem fc_X0_14 : mm_FC M0_init 14 0 0 (.object "ForgottenCrafts$Row") := ⟨_, _, _, mmcl_X0, by decide, mm_g1 84 (by decide +kernel) rfl, by decide +kernel, by decide +kernel⟩
theorem fc_X0_20 : mm_FC M0_init 20 0 1 (.object "ForgottenCrafts$Row") := ⟨_, _, _, mmcl_X0, by decide, mm_g1 88 (by decide +kernel) rfl, by decide +kernel, by decide +kernel⟩
theorem fc_X0_23 : mm_FC M0_init 23 0 2 (.object "ForgottenCrafts$Row") := ⟨_, _, _, mmcl_X0, by decide, mm_g1 93 (by decide +kernel) rfl, by decide +kernel, by decide +kernel⟩
theorem fc_X0_26 : mm_FC M0_init 26 0 3 (.object "ForgottenCrafts$Row") := ⟨_, _, _, mmcl_X0, by decide, mm_g1 97 (by decide +kernel) rfl, by decide +kernel, by decide +kernel⟩
theorem fc_X0_29 : mm_FC M0_init 29 0 4 (.object "ForgottenCrafts$Row") := ⟨_, _, _, mmcl_X0, by decide, mm_g1 102 (by decide +kernel) rfl, by decide +kernel, by decide +kernel⟩
theorem fc_X0_32 : mm_FC M0_init 32 0 5 .int := ⟨_, _, _, mmcl_X0, by decide, mm_g1 104 (by decide +kernel) rfl, by decide +kernel, by decide +kernel⟩
theorem fc_X0_36 : mm_FC M0_init 36 0 6 .int := ⟨_, _, _, mmcl_X0, by decide, mm_g1 109 (by decide +kernel) rfl, by decide +kernel, by decide +kernel⟩
theorem d3_init_0 : decode (mm_cc M3_init) 0 = .ok (.aload_n 0, 1) := by decide +kernel
theorem d3_init_1 : decode (mm_cc M3_init) 1 = .ok (.invokespecial 3, 3) := by decide +kernel
theorem d3_init_4 : decode (mm_cc M3_init) 4 = .ok (.aload_n 0, 1) := by decide +kernel
theorem d3_init_5 : decode (mm_cc M3_init) 5 = .ok (.new 9, 3) := by decide +kernel
theorem d3_init_8 : decode (mm_cc M3_init) 8 = .ok (.dup, 1) := by decide +kernel
theorem d3_init_9 : decode (mm_cc M3_init) 9 = .ok (.bipush 6, 2) := by decide +kernel
theorem d3_init_11 : decode (mm_cc M3_init) 11 = .ok (.invokespecial 11, 3) := by decide +kernel
theorem d3_init_14 : decode (mm_cc M3_init) 14 = .ok (.putfield 14, 3) := by decide +kernel
theorem d3_init_17 : decode (mm_cc M3_init) 17 = .ok (.aload_n 0, 1) := by decide +kernel
theorem d3_init_18 : decode (mm_cc M3_init) 18 = .ok (.new 9, 3) := by decide +kernel
theorem d3_init_21 : decode (mm_cc M3_init) 21 = .ok (.dup, 1) := by decide +kernel
theorem d3_init_22 : decode (mm_cc M3_init) 22 = .ok (.bipush 48, 2) := by decide +kernel
theorem d3_init_24 : decode (mm_cc M3_init) 24 = .ok (.invokespecial 11, 3) := by decide +kernel
theorem d3_init_27 : decode (mm_cc M3_init) 27 = .ok (.putfield 20, 3) := by decide +kernel
theorem d3_init_30 : decode (mm_cc M3_init) 30 = .ok (.aload_n 0, 1) := by decide +kernel
theorem d3_init_31 : decode (mm_cc M3_init) 31 = .ok (.new 9, 3) := by decide +kernel
theorem d3_init_34 : decode (mm_cc M3_init) 34 = .ok (.dup, 1) := by decide +kernel
theorem d3_init_35 : decode (mm_cc M3_init) 35 = .ok (.sipush 1296, 3) := by decide +kernel
theorem d3_init_38 : decode (mm_cc M3_init) 38 = .ok (.invokespecial 11, 3) := by decide +kernel
theorem d3_init_41 : decode (mm_cc M3_init) 41 = .ok (.putfield 23, 3) := by decide +kernel
theorem d3_init_44 : decode (mm_cc M3_init) 44 = .ok (.aload_n 0, 1) := by decide +kernel
theorem d3_init_45 : decode (mm_cc M3_init) 45 = .ok (.new 9, 3) := by decide +kernel
theorem d3_init_48 : decode (mm_cc M3_init) 48 = .ok (.dup, 1) := by decide +kernel
theorem d3_init_49 : decode (mm_cc M3_init) 49 = .ok (.bipush 8, 2) := by decide +kernel
theorem d3_init_51 : decode (mm_cc M3_init) 51 = .ok (.invokespecial 11, 3) := by decide +kernel
theorem d3_init_54 : decode (mm_cc M3_init) 54 = .ok (.putfield 26, 3) := by decide +kernel
theorem d3_init_57 : decode (mm_cc M3_init) 57 = .ok (.aload_n 0, 1) := by decide +kernel
theorem d3_init_58 : decode (mm_cc M3_init) 58 = .ok (.iconst 1, 1) := by decide +kernel
theorem d3_init_59 : decode (mm_cc M3_init) 59 = .ok (.putfield 29, 3) := by decide +kernel
theorem d3_init_62 : decode (mm_cc M3_init) 62 = .ok (.aload_n 0, 1) := by decide +kernel
theorem d3_init_63 : decode (mm_cc M3_init) 63 = .ok (.aload_n 1, 1) := by decide +kernel
theorem d3_init_64 : decode (mm_cc M3_init) 64 = .ok (.putfield 33, 3) := by decide +kernel
theorem d3_init_67 : decode (mm_cc M3_init) 67 = .ok (.aload_n 0, 1) := by decide +kernel
theorem d3_init_68 : decode (mm_cc M3_init) 68 = .ok (.aload_n 2, 1) := by decide +kernel
theorem d3_init_69 : decode (mm_cc M3_init) 69 = .ok (.putfield 37, 3) := by decide +kernel
theorem d3_init_72 : decode (mm_cc M3_init) 72 = .ok (.aload_n 0, 1) := by decide +kernel
theorem d3_init_73 : decode (mm_cc M3_init) 73 = .ok (.aload_n 3, 1) := by decide +kernel
theorem d3_init_74 : decode (mm_cc M3_init) 74 = .ok (.putfield 41, 3) := by decide +kernel
theorem d3_init_77 : decode (mm_cc M3_init) 77 = .ok (.return_, 1) := by decide +kernel
theorem ol_X3 : Cond.methodLink RX3 3 Lib.objectInit ∈ mm_GW := mm_g2 118 (by decide +kernel) rfl
theorem nc_X3_9 : mm_NC RX3 9 6 RX6 1 := ⟨TX6, mmcl_X6, mm_g2 119 (by decide +kernel) rfl, mm_g1 34 (by decide +kernel) rfl, mm_g1 3 (by decide +kernel) rfl, tyX6, tyX6_ok, by decide +kernel⟩
theorem li_X3_11 : mm_LI RX3 11 M6_init 1 := ⟨Or.inr ⟨"ForgottenCrafts", mm_n2 120 (by decide +kernel) rfl⟩, rfl, rfl, mm_g1 36 (by decide +kernel) rfl, mm_g1 3 (by decide +kernel) rfl, mc_6_init, ⟨by decide +kernel, by decide +kernel⟩, by decide +kernel⟩
theorem fc_X3_14 : mm_FC M3_init 14 3 3 (.object "ForgottenCrafts$Row") := ⟨_, _, _, mmcl_X3, by decide, mm_g2 124 (by decide +kernel) rfl, by decide +kernel, by decide +kernel⟩
theorem fc_X3_20 : mm_FC M3_init 20 3 4 (.object "ForgottenCrafts$Row") := ⟨_, _, _, mmcl_X3, by decide, mm_g2 125 (by decide +kernel) rfl, by decide +kernel, by decide +kernel⟩
theorem fc_X3_23 : mm_FC M3_init 23 3 5 (.object "ForgottenCrafts$Row") := ⟨_, _, _, mmcl_X3, by decide, mm_g2 126 (by decide +kernel) rfl, by decide +kernel, by decide +kernel⟩
theorem fc_X3_26 : mm_FC M3_init 26 3 6 (.object "ForgottenCrafts$Row") := ⟨_, _, _, mmcl_X3, by decide, mm_g2 127 (by decide +kernel) rfl, by decide +kernel, by decide +kernel⟩
theorem fc_X3_29 : mm_FC M3_init 29 3 7 .int := ⟨_, _, _, mmcl_X3, by decide, mm_g2 129 (by decide +kernel) rfl, by decide +kernel, by decide +kernel⟩
theorem fc_X3_33 : mm_FC M3_init 33 3 0 (.object "ForgottenCrafts$Crafts") := ⟨_, _, _, mmcl_X3, by decide, mm_g2 121 (by decide +kernel) rfl, by decide +kernel, by decide +kernel⟩
theorem fc_X3_37 : mm_FC M3_init 37 3 1 (.object "ForgottenCrafts$Folk") := ⟨_, _, _, mmcl_X3, by decide, mm_g2 122 (by decide +kernel) rfl, by decide +kernel, by decide +kernel⟩
theorem fc_X3_41 : mm_FC M3_init 41 3 2 (.object "ForgottenCrafts$Row") := ⟨_, _, _, mmcl_X3, by decide, mm_g2 123 (by decide +kernel) rfl, by decide +kernel, by decide +kernel⟩
theorem d4_init_0 : decode (mm_cc M4_init) 0 = .ok (.aload_n 0, 1) := by decide +kernel
theorem d4_init_1 : decode (mm_cc M4_init) 1 = .ok (.invokespecial 3, 3) := by decide +kernel
theorem d4_init_4 : decode (mm_cc M4_init) 4 = .ok (.aload_n 0, 1) := by decide +kernel
theorem d4_init_5 : decode (mm_cc M4_init) 5 = .ok (.new 9, 3) := by decide +kernel
theorem d4_init_8 : decode (mm_cc M4_init) 8 = .ok (.dup, 1) := by decide +kernel
theorem d4_init_9 : decode (mm_cc M4_init) 9 = .ok (.sipush 500, 3) := by decide +kernel
theorem d4_init_12 : decode (mm_cc M4_init) 12 = .ok (.invokespecial 11, 3) := by decide +kernel
theorem d4_init_15 : decode (mm_cc M4_init) 15 = .ok (.putfield 14, 3) := by decide +kernel
theorem d4_init_18 : decode (mm_cc M4_init) 18 = .ok (.aload_n 0, 1) := by decide +kernel
theorem d4_init_19 : decode (mm_cc M4_init) 19 = .ok (.iconst 0, 1) := by decide +kernel
theorem d4_init_20 : decode (mm_cc M4_init) 20 = .ok (.putfield 20, 3) := by decide +kernel
theorem d4_init_23 : decode (mm_cc M4_init) 23 = .ok (.aload_n 0, 1) := by decide +kernel
theorem d4_init_24 : decode (mm_cc M4_init) 24 = .ok (.iconst 0, 1) := by decide +kernel
theorem d4_init_25 : decode (mm_cc M4_init) 25 = .ok (.putfield 24, 3) := by decide +kernel
theorem d4_init_28 : decode (mm_cc M4_init) 28 = .ok (.aload_n 0, 1) := by decide +kernel
theorem d4_init_29 : decode (mm_cc M4_init) 29 = .ok (.iconst 0, 1) := by decide +kernel
theorem d4_init_30 : decode (mm_cc M4_init) 30 = .ok (.putfield 27, 3) := by decide +kernel
theorem d4_init_33 : decode (mm_cc M4_init) 33 = .ok (.aload_n 0, 1) := by decide +kernel
theorem d4_init_34 : decode (mm_cc M4_init) 34 = .ok (.iconst 0, 1) := by decide +kernel
theorem d4_init_35 : decode (mm_cc M4_init) 35 = .ok (.putfield 30, 3) := by decide +kernel
theorem d4_init_38 : decode (mm_cc M4_init) 38 = .ok (.aload_n 0, 1) := by decide +kernel
theorem d4_init_39 : decode (mm_cc M4_init) 39 = .ok (.iconst 0, 1) := by decide +kernel
theorem d4_init_40 : decode (mm_cc M4_init) 40 = .ok (.putfield 33, 3) := by decide +kernel
theorem d4_init_43 : decode (mm_cc M4_init) 43 = .ok (.aload_n 0, 1) := by decide +kernel
theorem d4_init_44 : decode (mm_cc M4_init) 44 = .ok (.iconst (-1), 1) := by decide +kernel
theorem d4_init_45 : decode (mm_cc M4_init) 45 = .ok (.putfield 36, 3) := by decide +kernel
theorem d4_init_48 : decode (mm_cc M4_init) 48 = .ok (.return_, 1) := by decide +kernel
theorem ol_X4 : Cond.methodLink RX4 3 Lib.objectInit ∈ mm_GW := mm_g1 32 (by decide +kernel) rfl
theorem nc_X4_9 : mm_NC RX4 9 6 RX6 1 := ⟨TX6, mmcl_X6, mm_g1 33 (by decide +kernel) rfl, mm_g1 34 (by decide +kernel) rfl, mm_g1 3 (by decide +kernel) rfl, tyX6, tyX6_ok, by decide +kernel⟩
theorem li_X4_11 : mm_LI RX4 11 M6_init 1 := ⟨Or.inr ⟨"ForgottenCrafts", mm_n1 35 (by decide +kernel) rfl⟩, rfl, rfl, mm_g1 36 (by decide +kernel) rfl, mm_g1 3 (by decide +kernel) rfl, mc_6_init, ⟨by decide +kernel, by decide +kernel⟩, by decide +kernel⟩
theorem fc_X4_14 : mm_FC M4_init 14 4 0 (.object "ForgottenCrafts$Row") := ⟨_, _, _, mmcl_X4, by decide, mm_g1 47 (by decide +kernel) rfl, by decide +kernel, by decide +kernel⟩
theorem fc_X4_20 : mm_FC M4_init 20 4 1 .int := ⟨_, _, _, mmcl_X4, by decide, mm_g1 48 (by decide +kernel) rfl, by decide +kernel, by decide +kernel⟩
theorem fc_X4_24 : mm_FC M4_init 24 4 2 .int := ⟨_, _, _, mmcl_X4, by decide, mm_g1 50 (by decide +kernel) rfl, by decide +kernel, by decide +kernel⟩
theorem fc_X4_27 : mm_FC M4_init 27 4 3 .int := ⟨_, _, _, mmcl_X4, by decide, mm_g1 53 (by decide +kernel) rfl, by decide +kernel, by decide +kernel⟩
theorem fc_X4_30 : mm_FC M4_init 30 4 4 .int := ⟨_, _, _, mmcl_X4, by decide, mm_g1 56 (by decide +kernel) rfl, by decide +kernel, by decide +kernel⟩
theorem fc_X4_33 : mm_FC M4_init 33 4 5 .int := ⟨_, _, _, mmcl_X4, by decide, mm_g1 57 (by decide +kernel) rfl, by decide +kernel, by decide +kernel⟩
theorem fc_X4_36 : mm_FC M4_init 36 4 6 .int := ⟨_, _, _, mmcl_X4, by decide, mm_g1 59 (by decide +kernel) rfl, by decide +kernel, by decide +kernel⟩
theorem d5_init_0 : decode (mm_cc M5_init) 0 = .ok (.aload_n 0, 1) := by decide +kernel
theorem d5_init_1 : decode (mm_cc M5_init) 1 = .ok (.invokespecial 3, 3) := by decide +kernel
theorem d5_init_4 : decode (mm_cc M5_init) 4 = .ok (.aload_n 0, 1) := by decide +kernel
theorem d5_init_5 : decode (mm_cc M5_init) 5 = .ok (.new 9, 3) := by decide +kernel
theorem d5_init_8 : decode (mm_cc M5_init) 8 = .ok (.dup, 1) := by decide +kernel
theorem d5_init_9 : decode (mm_cc M5_init) 9 = .ok (.bipush 8, 2) := by decide +kernel
theorem d5_init_11 : decode (mm_cc M5_init) 11 = .ok (.invokespecial 11, 3) := by decide +kernel
theorem d5_init_14 : decode (mm_cc M5_init) 14 = .ok (.putfield 14, 3) := by decide +kernel
theorem d5_init_17 : decode (mm_cc M5_init) 17 = .ok (.aload_n 0, 1) := by decide +kernel
theorem d5_init_18 : decode (mm_cc M5_init) 18 = .ok (.new 9, 3) := by decide +kernel
theorem d5_init_21 : decode (mm_cc M5_init) 21 = .ok (.dup, 1) := by decide +kernel
theorem d5_init_22 : decode (mm_cc M5_init) 22 = .ok (.bipush 64, 2) := by decide +kernel
theorem d5_init_24 : decode (mm_cc M5_init) 24 = .ok (.invokespecial 11, 3) := by decide +kernel
theorem d5_init_27 : decode (mm_cc M5_init) 27 = .ok (.putfield 20, 3) := by decide +kernel
theorem d5_init_30 : decode (mm_cc M5_init) 30 = .ok (.aload_n 0, 1) := by decide +kernel
theorem d5_init_31 : decode (mm_cc M5_init) 31 = .ok (.new 9, 3) := by decide +kernel
theorem d5_init_34 : decode (mm_cc M5_init) 34 = .ok (.dup, 1) := by decide +kernel
theorem d5_init_35 : decode (mm_cc M5_init) 35 = .ok (.iconst 4, 1) := by decide +kernel
theorem d5_init_36 : decode (mm_cc M5_init) 36 = .ok (.invokespecial 11, 3) := by decide +kernel
theorem d5_init_39 : decode (mm_cc M5_init) 39 = .ok (.putfield 23, 3) := by decide +kernel
theorem d5_init_42 : decode (mm_cc M5_init) 42 = .ok (.aload_n 0, 1) := by decide +kernel
theorem d5_init_43 : decode (mm_cc M5_init) 43 = .ok (.new 9, 3) := by decide +kernel
theorem d5_init_46 : decode (mm_cc M5_init) 46 = .ok (.dup, 1) := by decide +kernel
theorem d5_init_47 : decode (mm_cc M5_init) 47 = .ok (.iconst 4, 1) := by decide +kernel
theorem d5_init_48 : decode (mm_cc M5_init) 48 = .ok (.invokespecial 11, 3) := by decide +kernel
theorem d5_init_51 : decode (mm_cc M5_init) 51 = .ok (.putfield 26, 3) := by decide +kernel
theorem d5_init_54 : decode (mm_cc M5_init) 54 = .ok (.aload_n 0, 1) := by decide +kernel
theorem d5_init_55 : decode (mm_cc M5_init) 55 = .ok (.iconst 0, 1) := by decide +kernel
theorem d5_init_56 : decode (mm_cc M5_init) 56 = .ok (.putfield 29, 3) := by decide +kernel
theorem d5_init_59 : decode (mm_cc M5_init) 59 = .ok (.aload_n 0, 1) := by decide +kernel
theorem d5_init_60 : decode (mm_cc M5_init) 60 = .ok (.iconst 0, 1) := by decide +kernel
theorem d5_init_61 : decode (mm_cc M5_init) 61 = .ok (.putfield 33, 3) := by decide +kernel
theorem d5_init_64 : decode (mm_cc M5_init) 64 = .ok (.aload_n 0, 1) := by decide +kernel
theorem d5_init_65 : decode (mm_cc M5_init) 65 = .ok (.aload_n 1, 1) := by decide +kernel
theorem d5_init_66 : decode (mm_cc M5_init) 66 = .ok (.putfield 36, 3) := by decide +kernel
theorem d5_init_69 : decode (mm_cc M5_init) 69 = .ok (.return_, 1) := by decide +kernel
theorem ol_X5 : Cond.methodLink RX5 3 Lib.objectInit ∈ mm_GW := mm_g2 152 (by decide +kernel) rfl
theorem nc_X5_9 : mm_NC RX5 9 6 RX6 1 := ⟨TX6, mmcl_X6, mm_g2 153 (by decide +kernel) rfl, mm_g1 34 (by decide +kernel) rfl, mm_g1 3 (by decide +kernel) rfl, tyX6, tyX6_ok, by decide +kernel⟩
theorem li_X5_11 : mm_LI RX5 11 M6_init 1 := ⟨Or.inr ⟨"ForgottenCrafts", mm_n2 154 (by decide +kernel) rfl⟩, rfl, rfl, mm_g1 36 (by decide +kernel) rfl, mm_g1 3 (by decide +kernel) rfl, mc_6_init, ⟨by decide +kernel, by decide +kernel⟩, by decide +kernel⟩
theorem fc_X5_14 : mm_FC M5_init 14 5 1 (.object "ForgottenCrafts$Row") := ⟨_, _, _, mmcl_X5, by decide, mm_g2 156 (by decide +kernel) rfl, by decide +kernel, by decide +kernel⟩
theorem fc_X5_20 : mm_FC M5_init 20 5 2 (.object "ForgottenCrafts$Row") := ⟨_, _, _, mmcl_X5, by decide, mm_g2 157 (by decide +kernel) rfl, by decide +kernel, by decide +kernel⟩
theorem fc_X5_23 : mm_FC M5_init 23 5 3 (.object "ForgottenCrafts$Row") := ⟨_, _, _, mmcl_X5, by decide, mm_g2 158 (by decide +kernel) rfl, by decide +kernel, by decide +kernel⟩
theorem fc_X5_26 : mm_FC M5_init 26 5 4 (.object "ForgottenCrafts$Row") := ⟨_, _, _, mmcl_X5, by decide, mm_g2 159 (by decide +kernel) rfl, by decide +kernel, by decide +kernel⟩
theorem fc_X5_29 : mm_FC M5_init 29 5 5 .int := ⟨_, _, _, mmcl_X5, by decide, mm_g2 161 (by decide +kernel) rfl, by decide +kernel, by decide +kernel⟩
theorem fc_X5_33 : mm_FC M5_init 33 5 6 .int := ⟨_, _, _, mmcl_X5, by decide, mm_g2 163 (by decide +kernel) rfl, by decide +kernel, by decide +kernel⟩
theorem fc_X5_36 : mm_FC M5_init 36 5 0 (.object "ForgottenCrafts$Life") := ⟨_, _, _, mmcl_X5, by decide, mm_g2 155 (by decide +kernel) rfl, by decide +kernel, by decide +kernel⟩
theorem d8_init_0 : decode (mm_cc M8_init) 0 = .ok (.aload_n 0, 1) := by decide +kernel
theorem d8_init_1 : decode (mm_cc M8_init) 1 = .ok (.invokespecial 3, 3) := by decide +kernel
theorem d8_init_4 : decode (mm_cc M8_init) 4 = .ok (.aload_n 0, 1) := by decide +kernel
theorem d8_init_5 : decode (mm_cc M8_init) 5 = .ok (.new 9, 3) := by decide +kernel
theorem d8_init_8 : decode (mm_cc M8_init) 8 = .ok (.dup, 1) := by decide +kernel
theorem d8_init_9 : decode (mm_cc M8_init) 9 = .ok (.bipush 12, 2) := by decide +kernel
theorem d8_init_11 : decode (mm_cc M8_init) 11 = .ok (.invokespecial 11, 3) := by decide +kernel
theorem d8_init_14 : decode (mm_cc M8_init) 14 = .ok (.putfield 14, 3) := by decide +kernel
theorem d8_init_17 : decode (mm_cc M8_init) 17 = .ok (.aload_n 0, 1) := by decide +kernel
theorem d8_init_18 : decode (mm_cc M8_init) 18 = .ok (.new 9, 3) := by decide +kernel
theorem d8_init_21 : decode (mm_cc M8_init) 21 = .ok (.dup, 1) := by decide +kernel
theorem d8_init_22 : decode (mm_cc M8_init) 22 = .ok (.bipush 12, 2) := by decide +kernel
theorem d8_init_24 : decode (mm_cc M8_init) 24 = .ok (.invokespecial 11, 3) := by decide +kernel
theorem d8_init_27 : decode (mm_cc M8_init) 27 = .ok (.putfield 20, 3) := by decide +kernel
theorem d8_init_30 : decode (mm_cc M8_init) 30 = .ok (.aload_n 0, 1) := by decide +kernel
theorem d8_init_31 : decode (mm_cc M8_init) 31 = .ok (.new 9, 3) := by decide +kernel
theorem d8_init_34 : decode (mm_cc M8_init) 34 = .ok (.dup, 1) := by decide +kernel
theorem d8_init_35 : decode (mm_cc M8_init) 35 = .ok (.bipush 12, 2) := by decide +kernel
theorem d8_init_37 : decode (mm_cc M8_init) 37 = .ok (.invokespecial 11, 3) := by decide +kernel
theorem d8_init_40 : decode (mm_cc M8_init) 40 = .ok (.putfield 23, 3) := by decide +kernel
theorem d8_init_43 : decode (mm_cc M8_init) 43 = .ok (.aload_n 0, 1) := by decide +kernel
theorem d8_init_44 : decode (mm_cc M8_init) 44 = .ok (.new 9, 3) := by decide +kernel
theorem d8_init_47 : decode (mm_cc M8_init) 47 = .ok (.dup, 1) := by decide +kernel
theorem d8_init_48 : decode (mm_cc M8_init) 48 = .ok (.bipush 40, 2) := by decide +kernel
theorem d8_init_50 : decode (mm_cc M8_init) 50 = .ok (.invokespecial 11, 3) := by decide +kernel
theorem d8_init_53 : decode (mm_cc M8_init) 53 = .ok (.putfield 26, 3) := by decide +kernel
theorem d8_init_56 : decode (mm_cc M8_init) 56 = .ok (.aload_n 0, 1) := by decide +kernel
theorem d8_init_57 : decode (mm_cc M8_init) 57 = .ok (.new 9, 3) := by decide +kernel
theorem d8_init_60 : decode (mm_cc M8_init) 60 = .ok (.dup, 1) := by decide +kernel
theorem d8_init_61 : decode (mm_cc M8_init) 61 = .ok (.bipush 40, 2) := by decide +kernel
theorem d8_init_63 : decode (mm_cc M8_init) 63 = .ok (.invokespecial 11, 3) := by decide +kernel
theorem d8_init_66 : decode (mm_cc M8_init) 66 = .ok (.putfield 29, 3) := by decide +kernel
theorem d8_init_69 : decode (mm_cc M8_init) 69 = .ok (.aload_n 0, 1) := by decide +kernel
theorem d8_init_70 : decode (mm_cc M8_init) 70 = .ok (.new 9, 3) := by decide +kernel
theorem d8_init_73 : decode (mm_cc M8_init) 73 = .ok (.dup, 1) := by decide +kernel
theorem d8_init_74 : decode (mm_cc M8_init) 74 = .ok (.bipush 40, 2) := by decide +kernel
theorem d8_init_76 : decode (mm_cc M8_init) 76 = .ok (.invokespecial 11, 3) := by decide +kernel
theorem d8_init_79 : decode (mm_cc M8_init) 79 = .ok (.putfield 32, 3) := by decide +kernel
theorem d8_init_82 : decode (mm_cc M8_init) 82 = .ok (.aload_n 0, 1) := by decide +kernel
theorem d8_init_83 : decode (mm_cc M8_init) 83 = .ok (.iconst 0, 1) := by decide +kernel
theorem d8_init_84 : decode (mm_cc M8_init) 84 = .ok (.putfield 35, 3) := by decide +kernel
theorem d8_init_87 : decode (mm_cc M8_init) 87 = .ok (.aload_n 0, 1) := by decide +kernel
theorem d8_init_88 : decode (mm_cc M8_init) 88 = .ok (.iconst 0, 1) := by decide +kernel
theorem d8_init_89 : decode (mm_cc M8_init) 89 = .ok (.putfield 39, 3) := by decide +kernel
theorem d8_init_92 : decode (mm_cc M8_init) 92 = .ok (.aload_n 0, 1) := by decide +kernel
theorem d8_init_93 : decode (mm_cc M8_init) 93 = .ok (.iconst 0, 1) := by decide +kernel
theorem d8_init_94 : decode (mm_cc M8_init) 94 = .ok (.putfield 42, 3) := by decide +kernel
theorem d8_init_97 : decode (mm_cc M8_init) 97 = .ok (.aload_n 0, 1) := by decide +kernel
theorem d8_init_98 : decode (mm_cc M8_init) 98 = .ok (.iconst 0, 1) := by decide +kernel
theorem d8_init_99 : decode (mm_cc M8_init) 99 = .ok (.putfield 45, 3) := by decide +kernel
theorem d8_init_102 : decode (mm_cc M8_init) 102 = .ok (.aload_n 0, 1) := by decide +kernel
theorem d8_init_103 : decode (mm_cc M8_init) 103 = .ok (.iconst 0, 1) := by decide +kernel
theorem d8_init_104 : decode (mm_cc M8_init) 104 = .ok (.putfield 48, 3) := by decide +kernel
theorem d8_init_107 : decode (mm_cc M8_init) 107 = .ok (.return_, 1) := by decide +kernel
theorem ol_X8 : Cond.methodLink RX8 3 Lib.objectInit ∈ mm_GW := mm_g2 31 (by decide +kernel) rfl
theorem nc_X8_9 : mm_NC RX8 9 6 RX6 1 := ⟨TX6, mmcl_X6, mm_g2 32 (by decide +kernel) rfl, mm_g1 34 (by decide +kernel) rfl, mm_g1 3 (by decide +kernel) rfl, tyX6, tyX6_ok, by decide +kernel⟩
theorem li_X8_11 : mm_LI RX8 11 M6_init 1 := ⟨Or.inr ⟨"ForgottenCrafts", mm_n2 33 (by decide +kernel) rfl⟩, rfl, rfl, mm_g1 36 (by decide +kernel) rfl, mm_g1 3 (by decide +kernel) rfl, mc_6_init, ⟨by decide +kernel, by decide +kernel⟩, by decide +kernel⟩
theorem fc_X8_14 : mm_FC M8_init 14 8 0 (.object "ForgottenCrafts$Row") := ⟨_, _, _, mmcl_X8, by decide, mm_g2 34 (by decide +kernel) rfl, by decide +kernel, by decide +kernel⟩
theorem fc_X8_20 : mm_FC M8_init 20 8 1 (.object "ForgottenCrafts$Row") := ⟨_, _, _, mmcl_X8, by decide, mm_g2 35 (by decide +kernel) rfl, by decide +kernel, by decide +kernel⟩
theorem fc_X8_23 : mm_FC M8_init 23 8 2 (.object "ForgottenCrafts$Row") := ⟨_, _, _, mmcl_X8, by decide, mm_g2 36 (by decide +kernel) rfl, by decide +kernel, by decide +kernel⟩
theorem fc_X8_26 : mm_FC M8_init 26 8 3 (.object "ForgottenCrafts$Row") := ⟨_, _, _, mmcl_X8, by decide, mm_g2 37 (by decide +kernel) rfl, by decide +kernel, by decide +kernel⟩
theorem fc_X8_29 : mm_FC M8_init 29 8 4 (.object "ForgottenCrafts$Row") := ⟨_, _, _, mmcl_X8, by decide, mm_g2 38 (by decide +kernel) rfl, by decide +kernel, by decide +kernel⟩
theorem fc_X8_32 : mm_FC M8_init 32 8 5 (.object "ForgottenCrafts$Row") := ⟨_, _, _, mmcl_X8, by decide, mm_g2 39 (by decide +kernel) rfl, by decide +kernel, by decide +kernel⟩
theorem fc_X8_35 : mm_FC M8_init 35 8 6 .int := ⟨_, _, _, mmcl_X8, by decide, mm_g2 40 (by decide +kernel) rfl, by decide +kernel, by decide +kernel⟩
theorem fc_X8_39 : mm_FC M8_init 39 8 7 .int := ⟨_, _, _, mmcl_X8, by decide, mm_g2 42 (by decide +kernel) rfl, by decide +kernel, by decide +kernel⟩
theorem fc_X8_42 : mm_FC M8_init 42 8 8 .int := ⟨_, _, _, mmcl_X8, by decide, mm_g2 44 (by decide +kernel) rfl, by decide +kernel, by decide +kernel⟩
theorem fc_X8_45 : mm_FC M8_init 45 8 9 .int := ⟨_, _, _, mmcl_X8, by decide, mm_g2 46 (by decide +kernel) rfl, by decide +kernel, by decide +kernel⟩
theorem fc_X8_48 : mm_FC M8_init 48 8 10 .int := ⟨_, _, _, mmcl_X8, by decide, mm_g2 48 (by decide +kernel) rfl, by decide +kernel, by decide +kernel⟩
theorem d1_init_0 : decode (mm_cc M1_init) 0 = .ok (.aload_n 0, 1) := by decide +kernel
theorem d1_init_1 : decode (mm_cc M1_init) 1 = .ok (.invokespecial 3, 3) := by decide +kernel
theorem d1_init_4 : decode (mm_cc M1_init) 4 = .ok (.aload_n 0, 1) := by decide +kernel
theorem d1_init_5 : decode (mm_cc M1_init) 5 = .ok (.new 9, 3) := by decide +kernel
theorem d1_init_8 : decode (mm_cc M1_init) 8 = .ok (.dup, 1) := by decide +kernel
theorem d1_init_9 : decode (mm_cc M1_init) 9 = .ok (.bipush 8, 2) := by decide +kernel
theorem d1_init_11 : decode (mm_cc M1_init) 11 = .ok (.invokespecial 11, 3) := by decide +kernel
theorem d1_init_14 : decode (mm_cc M1_init) 14 = .ok (.putfield 14, 3) := by decide +kernel
theorem d1_init_17 : decode (mm_cc M1_init) 17 = .ok (.aload_n 0, 1) := by decide +kernel
theorem d1_init_18 : decode (mm_cc M1_init) 18 = .ok (.new 9, 3) := by decide +kernel
theorem d1_init_21 : decode (mm_cc M1_init) 21 = .ok (.dup, 1) := by decide +kernel
theorem d1_init_22 : decode (mm_cc M1_init) 22 = .ok (.bipush 48, 2) := by decide +kernel
theorem d1_init_24 : decode (mm_cc M1_init) 24 = .ok (.invokespecial 11, 3) := by decide +kernel
theorem d1_init_27 : decode (mm_cc M1_init) 27 = .ok (.putfield 20, 3) := by decide +kernel
theorem d1_init_30 : decode (mm_cc M1_init) 30 = .ok (.aload_n 0, 1) := by decide +kernel
theorem d1_init_31 : decode (mm_cc M1_init) 31 = .ok (.new 9, 3) := by decide +kernel
theorem d1_init_34 : decode (mm_cc M1_init) 34 = .ok (.dup, 1) := by decide +kernel
theorem d1_init_35 : decode (mm_cc M1_init) 35 = .ok (.bipush 48, 2) := by decide +kernel
theorem d1_init_37 : decode (mm_cc M1_init) 37 = .ok (.invokespecial 11, 3) := by decide +kernel
theorem d1_init_40 : decode (mm_cc M1_init) 40 = .ok (.putfield 23, 3) := by decide +kernel
theorem d1_init_43 : decode (mm_cc M1_init) 43 = .ok (.aload_n 0, 1) := by decide +kernel
theorem d1_init_44 : decode (mm_cc M1_init) 44 = .ok (.new 9, 3) := by decide +kernel
theorem d1_init_47 : decode (mm_cc M1_init) 47 = .ok (.dup, 1) := by decide +kernel
theorem d1_init_48 : decode (mm_cc M1_init) 48 = .ok (.bipush 8, 2) := by decide +kernel
theorem d1_init_50 : decode (mm_cc M1_init) 50 = .ok (.invokespecial 11, 3) := by decide +kernel
theorem d1_init_53 : decode (mm_cc M1_init) 53 = .ok (.putfield 26, 3) := by decide +kernel
theorem d1_init_56 : decode (mm_cc M1_init) 56 = .ok (.aload_n 0, 1) := by decide +kernel
theorem d1_init_57 : decode (mm_cc M1_init) 57 = .ok (.new 9, 3) := by decide +kernel
theorem d1_init_60 : decode (mm_cc M1_init) 60 = .ok (.dup, 1) := by decide +kernel
theorem d1_init_61 : decode (mm_cc M1_init) 61 = .ok (.bipush 8, 2) := by decide +kernel
theorem d1_init_63 : decode (mm_cc M1_init) 63 = .ok (.invokespecial 11, 3) := by decide +kernel
theorem d1_init_66 : decode (mm_cc M1_init) 66 = .ok (.putfield 29, 3) := by decide +kernel
theorem d1_init_69 : decode (mm_cc M1_init) 69 = .ok (.aload_n 0, 1) := by decide +kernel
theorem d1_init_70 : decode (mm_cc M1_init) 70 = .ok (.new 9, 3) := by decide +kernel
theorem d1_init_73 : decode (mm_cc M1_init) 73 = .ok (.dup, 1) := by decide +kernel
theorem d1_init_74 : decode (mm_cc M1_init) 74 = .ok (.bipush 8, 2) := by decide +kernel
theorem d1_init_76 : decode (mm_cc M1_init) 76 = .ok (.invokespecial 11, 3) := by decide +kernel
theorem d1_init_79 : decode (mm_cc M1_init) 79 = .ok (.putfield 32, 3) := by decide +kernel
theorem d1_init_82 : decode (mm_cc M1_init) 82 = .ok (.aload_n 0, 1) := by decide +kernel
theorem d1_init_83 : decode (mm_cc M1_init) 83 = .ok (.new 9, 3) := by decide +kernel
theorem d1_init_86 : decode (mm_cc M1_init) 86 = .ok (.dup, 1) := by decide +kernel
theorem d1_init_87 : decode (mm_cc M1_init) 87 = .ok (.bipush 8, 2) := by decide +kernel
theorem d1_init_89 : decode (mm_cc M1_init) 89 = .ok (.invokespecial 11, 3) := by decide +kernel
theorem d1_init_92 : decode (mm_cc M1_init) 92 = .ok (.putfield 35, 3) := by decide +kernel
theorem d1_init_95 : decode (mm_cc M1_init) 95 = .ok (.aload_n 0, 1) := by decide +kernel
theorem d1_init_96 : decode (mm_cc M1_init) 96 = .ok (.new 9, 3) := by decide +kernel
theorem d1_init_99 : decode (mm_cc M1_init) 99 = .ok (.dup, 1) := by decide +kernel
theorem d1_init_100 : decode (mm_cc M1_init) 100 = .ok (.bipush 8, 2) := by decide +kernel
theorem d1_init_102 : decode (mm_cc M1_init) 102 = .ok (.invokespecial 11, 3) := by decide +kernel
theorem d1_init_105 : decode (mm_cc M1_init) 105 = .ok (.putfield 38, 3) := by decide +kernel
theorem d1_init_108 : decode (mm_cc M1_init) 108 = .ok (.aload_n 0, 1) := by decide +kernel
theorem d1_init_109 : decode (mm_cc M1_init) 109 = .ok (.invokevirtual 41, 3) := by decide +kernel
theorem d1_init_112 : decode (mm_cc M1_init) 112 = .ok (.return_, 1) := by decide +kernel
theorem ol_X1 : Cond.methodLink RX1 3 Lib.objectInit ∈ mm_GW := mm_g1 179 (by decide +kernel) rfl
theorem nc_X1_9 : mm_NC RX1 9 6 RX6 1 := ⟨TX6, mmcl_X6, mm_g1 180 (by decide +kernel) rfl, mm_g1 34 (by decide +kernel) rfl, mm_g1 3 (by decide +kernel) rfl, tyX6, tyX6_ok, by decide +kernel⟩
theorem li_X1_11 : mm_LI RX1 11 M6_init 1 := ⟨Or.inr ⟨"ForgottenCrafts", mm_n1 181 (by decide +kernel) rfl⟩, rfl, rfl, mm_g1 36 (by decide +kernel) rfl, mm_g1 3 (by decide +kernel) rfl, mc_6_init, ⟨by decide +kernel, by decide +kernel⟩, by decide +kernel⟩
theorem fc_X1_14 : mm_FC M1_init 14 1 0 (.object "ForgottenCrafts$Row") := ⟨_, _, _, mmcl_X1, by decide, mm_g1 197 (by decide +kernel) rfl, by decide +kernel, by decide +kernel⟩
theorem fc_X1_20 : mm_FC M1_init 20 1 1 (.object "ForgottenCrafts$Row") := ⟨_, _, _, mmcl_X1, by decide, mm_g1 201 (by decide +kernel) rfl, by decide +kernel, by decide +kernel⟩
theorem fc_X1_23 : mm_FC M1_init 23 1 2 (.object "ForgottenCrafts$Row") := ⟨_, _, _, mmcl_X1, by decide, mm_g1 202 (by decide +kernel) rfl, by decide +kernel, by decide +kernel⟩
theorem fc_X1_26 : mm_FC M1_init 26 1 3 (.object "ForgottenCrafts$Row") := ⟨_, _, _, mmcl_X1, by decide, mm_g1 204 (by decide +kernel) rfl, by decide +kernel, by decide +kernel⟩
theorem fc_X1_29 : mm_FC M1_init 29 1 4 (.object "ForgottenCrafts$Row") := ⟨_, _, _, mmcl_X1, by decide, mm_g1 208 (by decide +kernel) rfl, by decide +kernel, by decide +kernel⟩
theorem fc_X1_32 : mm_FC M1_init 32 1 5 (.object "ForgottenCrafts$Row") := ⟨_, _, _, mmcl_X1, by decide, mm_g1 212 (by decide +kernel) rfl, by decide +kernel, by decide +kernel⟩
theorem fc_X1_35 : mm_FC M1_init 35 1 6 (.object "ForgottenCrafts$Row") := ⟨_, _, _, mmcl_X1, by decide, mm_g1 214 (by decide +kernel) rfl, by decide +kernel, by decide +kernel⟩
theorem fc_X1_38 : mm_FC M1_init 38 1 7 (.object "ForgottenCrafts$Row") := ⟨_, _, _, mmcl_X1, by decide, mm_g1 217 (by decide +kernel) rfl, by decide +kernel, by decide +kernel⟩
theorem lk_X1_41 : mm_LV RX1 41 M1_clear 0 := ⟨Or.inl (mm_g1 182 (by decide +kernel) rfl), ms_1_clear⟩
theorem d11_init_0 : decode (mm_cc M11_init) 0 = .ok (.aload_n 0, 1) := by decide +kernel
theorem d11_init_1 : decode (mm_cc M11_init) 1 = .ok (.invokespecial 1, 3) := by decide +kernel
theorem d11_init_4 : decode (mm_cc M11_init) 4 = .ok (.aload_n 0, 1) := by decide +kernel
theorem d11_init_5 : decode (mm_cc M11_init) 5 = .ok (.bipush 24, 2) := by decide +kernel
theorem d11_init_7 : decode (mm_cc M11_init) 7 = .ok (.newarray .int, 2) := by decide +kernel
theorem d11_init_9 : decode (mm_cc M11_init) 9 = .ok (.putfield 7, 3) := by decide +kernel
theorem d11_init_12 : decode (mm_cc M11_init) 12 = .ok (.aload_n 0, 1) := by decide +kernel
theorem d11_init_13 : decode (mm_cc M11_init) 13 = .ok (.bipush 8, 2) := by decide +kernel
theorem d11_init_15 : decode (mm_cc M11_init) 15 = .ok (.newarray .int, 2) := by decide +kernel
theorem d11_init_17 : decode (mm_cc M11_init) 17 = .ok (.putfield 13, 3) := by decide +kernel
theorem d11_init_20 : decode (mm_cc M11_init) 20 = .ok (.aload_n 0, 1) := by decide +kernel
theorem d11_init_21 : decode (mm_cc M11_init) 21 = .ok (.bipush 48, 2) := by decide +kernel
theorem d11_init_23 : decode (mm_cc M11_init) 23 = .ok (.newarray .int, 2) := by decide +kernel
theorem d11_init_25 : decode (mm_cc M11_init) 25 = .ok (.putfield 16, 3) := by decide +kernel
theorem d11_init_28 : decode (mm_cc M11_init) 28 = .ok (.aload_n 0, 1) := by decide +kernel
theorem d11_init_29 : decode (mm_cc M11_init) 29 = .ok (.bipush 48, 2) := by decide +kernel
theorem d11_init_31 : decode (mm_cc M11_init) 31 = .ok (.newarray .int, 2) := by decide +kernel
theorem d11_init_33 : decode (mm_cc M11_init) 33 = .ok (.putfield 19, 3) := by decide +kernel
theorem d11_init_36 : decode (mm_cc M11_init) 36 = .ok (.aload_n 0, 1) := by decide +kernel
theorem d11_init_37 : decode (mm_cc M11_init) 37 = .ok (.iconst 2, 1) := by decide +kernel
theorem d11_init_38 : decode (mm_cc M11_init) 38 = .ok (.putfield 22, 3) := by decide +kernel
theorem d11_init_41 : decode (mm_cc M11_init) 41 = .ok (.aload_n 0, 1) := by decide +kernel
theorem d11_init_42 : decode (mm_cc M11_init) 42 = .ok (.iconst 2, 1) := by decide +kernel
theorem d11_init_43 : decode (mm_cc M11_init) 43 = .ok (.putfield 26, 3) := by decide +kernel
theorem d11_init_46 : decode (mm_cc M11_init) 46 = .ok (.aload_n 0, 1) := by decide +kernel
theorem d11_init_47 : decode (mm_cc M11_init) 47 = .ok (.bipush 25, 2) := by decide +kernel
theorem d11_init_49 : decode (mm_cc M11_init) 49 = .ok (.putfield 29, 3) := by decide +kernel
theorem d11_init_52 : decode (mm_cc M11_init) 52 = .ok (.aload_n 0, 1) := by decide +kernel
theorem d11_init_53 : decode (mm_cc M11_init) 53 = .ok (.iconst 5, 1) := by decide +kernel
theorem d11_init_54 : decode (mm_cc M11_init) 54 = .ok (.putfield 32, 3) := by decide +kernel
theorem d11_init_57 : decode (mm_cc M11_init) 57 = .ok (.aload_n 0, 1) := by decide +kernel
theorem d11_init_58 : decode (mm_cc M11_init) 58 = .ok (.bipush 70, 2) := by decide +kernel
theorem d11_init_60 : decode (mm_cc M11_init) 60 = .ok (.putfield 35, 3) := by decide +kernel
theorem d11_init_63 : decode (mm_cc M11_init) 63 = .ok (.aload_n 0, 1) := by decide +kernel
theorem d11_init_64 : decode (mm_cc M11_init) 64 = .ok (.bipush 8, 2) := by decide +kernel
theorem d11_init_66 : decode (mm_cc M11_init) 66 = .ok (.newarray .int, 2) := by decide +kernel
theorem d11_init_68 : decode (mm_cc M11_init) 68 = .ok (.putfield 38, 3) := by decide +kernel
theorem d11_init_71 : decode (mm_cc M11_init) 71 = .ok (.aload_n 0, 1) := by decide +kernel
theorem d11_init_72 : decode (mm_cc M11_init) 72 = .ok (.bipush 8, 2) := by decide +kernel
theorem d11_init_74 : decode (mm_cc M11_init) 74 = .ok (.newarray .boolean, 2) := by decide +kernel
theorem d11_init_76 : decode (mm_cc M11_init) 76 = .ok (.putfield 41, 3) := by decide +kernel
theorem d11_init_79 : decode (mm_cc M11_init) 79 = .ok (.aload_n 0, 1) := by decide +kernel
theorem d11_init_80 : decode (mm_cc M11_init) 80 = .ok (.bipush 48, 2) := by decide +kernel
theorem d11_init_82 : decode (mm_cc M11_init) 82 = .ok (.newarray .int, 2) := by decide +kernel
theorem d11_init_84 : decode (mm_cc M11_init) 84 = .ok (.putfield 45, 3) := by decide +kernel
theorem d11_init_87 : decode (mm_cc M11_init) 87 = .ok (.aload_n 0, 1) := by decide +kernel
theorem d11_init_88 : decode (mm_cc M11_init) 88 = .ok (.bipush 48, 2) := by decide +kernel
theorem d11_init_90 : decode (mm_cc M11_init) 90 = .ok (.newarray .int, 2) := by decide +kernel
theorem d11_init_92 : decode (mm_cc M11_init) 92 = .ok (.putfield 48, 3) := by decide +kernel
theorem d11_init_95 : decode (mm_cc M11_init) 95 = .ok (.aload_n 0, 1) := by decide +kernel
theorem d11_init_96 : decode (mm_cc M11_init) 96 = .ok (.bipush 8, 2) := by decide +kernel
theorem d11_init_98 : decode (mm_cc M11_init) 98 = .ok (.newarray .int, 2) := by decide +kernel
theorem d11_init_100 : decode (mm_cc M11_init) 100 = .ok (.putfield 51, 3) := by decide +kernel
theorem d11_init_103 : decode (mm_cc M11_init) 103 = .ok (.aload_n 0, 1) := by decide +kernel
theorem d11_init_104 : decode (mm_cc M11_init) 104 = .ok (.bipush 8, 2) := by decide +kernel
theorem d11_init_106 : decode (mm_cc M11_init) 106 = .ok (.newarray .int, 2) := by decide +kernel
theorem d11_init_108 : decode (mm_cc M11_init) 108 = .ok (.putfield 54, 3) := by decide +kernel
theorem d11_init_111 : decode (mm_cc M11_init) 111 = .ok (.aload_n 0, 1) := by decide +kernel
theorem d11_init_112 : decode (mm_cc M11_init) 112 = .ok (.bipush 8, 2) := by decide +kernel
theorem d11_init_114 : decode (mm_cc M11_init) 114 = .ok (.newarray .int, 2) := by decide +kernel
theorem d11_init_116 : decode (mm_cc M11_init) 116 = .ok (.putfield 57, 3) := by decide +kernel
theorem d11_init_119 : decode (mm_cc M11_init) 119 = .ok (.aload_n 0, 1) := by decide +kernel
theorem d11_init_120 : decode (mm_cc M11_init) 120 = .ok (.bipush 8, 2) := by decide +kernel
theorem d11_init_122 : decode (mm_cc M11_init) 122 = .ok (.newarray .int, 2) := by decide +kernel
theorem d11_init_124 : decode (mm_cc M11_init) 124 = .ok (.putfield 60, 3) := by decide +kernel
theorem d11_init_127 : decode (mm_cc M11_init) 127 = .ok (.aload_n 0, 1) := by decide +kernel
theorem d11_init_128 : decode (mm_cc M11_init) 128 = .ok (.bipush 8, 2) := by decide +kernel
theorem d11_init_130 : decode (mm_cc M11_init) 130 = .ok (.newarray .int, 2) := by decide +kernel
theorem d11_init_132 : decode (mm_cc M11_init) 132 = .ok (.putfield 63, 3) := by decide +kernel
theorem d11_init_135 : decode (mm_cc M11_init) 135 = .ok (.aload_n 0, 1) := by decide +kernel
theorem d11_init_136 : decode (mm_cc M11_init) 136 = .ok (.bipush 8, 2) := by decide +kernel
theorem d11_init_138 : decode (mm_cc M11_init) 138 = .ok (.newarray .boolean, 2) := by decide +kernel
theorem d11_init_140 : decode (mm_cc M11_init) 140 = .ok (.putfield 66, 3) := by decide +kernel
theorem d11_init_143 : decode (mm_cc M11_init) 143 = .ok (.aload_n 0, 1) := by decide +kernel
theorem d11_init_144 : decode (mm_cc M11_init) 144 = .ok (.bipush 8, 2) := by decide +kernel
theorem d11_init_146 : decode (mm_cc M11_init) 146 = .ok (.newarray .boolean, 2) := by decide +kernel
theorem d11_init_148 : decode (mm_cc M11_init) 148 = .ok (.putfield 69, 3) := by decide +kernel
theorem d11_init_151 : decode (mm_cc M11_init) 151 = .ok (.aload_n 0, 1) := by decide +kernel
theorem d11_init_152 : decode (mm_cc M11_init) 152 = .ok (.bipush 6, 2) := by decide +kernel
theorem d11_init_154 : decode (mm_cc M11_init) 154 = .ok (.newarray .int, 2) := by decide +kernel
theorem d11_init_156 : decode (mm_cc M11_init) 156 = .ok (.putfield 72, 3) := by decide +kernel
theorem d11_init_159 : decode (mm_cc M11_init) 159 = .ok (.aload_n 0, 1) := by decide +kernel
theorem d11_init_160 : decode (mm_cc M11_init) 160 = .ok (.sipush 500, 3) := by decide +kernel
theorem d11_init_163 : decode (mm_cc M11_init) 163 = .ok (.newarray .int, 2) := by decide +kernel
theorem d11_init_165 : decode (mm_cc M11_init) 165 = .ok (.putfield 75, 3) := by decide +kernel
theorem d11_init_168 : decode (mm_cc M11_init) 168 = .ok (.aload_n 0, 1) := by decide +kernel
theorem d11_init_169 : decode (mm_cc M11_init) 169 = .ok (.iconst (-1), 1) := by decide +kernel
theorem d11_init_170 : decode (mm_cc M11_init) 170 = .ok (.putfield 78, 3) := by decide +kernel
theorem d11_init_173 : decode (mm_cc M11_init) 173 = .ok (.aload_n 0, 1) := by decide +kernel
theorem d11_init_174 : decode (mm_cc M11_init) 174 = .ok (.bipush 24, 2) := by decide +kernel
theorem d11_init_176 : decode (mm_cc M11_init) 176 = .ok (.newarray .int, 2) := by decide +kernel
theorem d11_init_178 : decode (mm_cc M11_init) 178 = .ok (.putfield 81, 3) := by decide +kernel
theorem d11_init_181 : decode (mm_cc M11_init) 181 = .ok (.aload_n 0, 1) := by decide +kernel
theorem d11_init_182 : decode (mm_cc M11_init) 182 = .ok (.bipush 8, 2) := by decide +kernel
theorem d11_init_184 : decode (mm_cc M11_init) 184 = .ok (.newarray .int, 2) := by decide +kernel
theorem d11_init_186 : decode (mm_cc M11_init) 186 = .ok (.putfield 84, 3) := by decide +kernel
theorem d11_init_189 : decode (mm_cc M11_init) 189 = .ok (.aload_n 0, 1) := by decide +kernel
theorem d11_init_190 : decode (mm_cc M11_init) 190 = .ok (.bipush 48, 2) := by decide +kernel
theorem d11_init_192 : decode (mm_cc M11_init) 192 = .ok (.newarray .int, 2) := by decide +kernel
theorem d11_init_194 : decode (mm_cc M11_init) 194 = .ok (.putfield 87, 3) := by decide +kernel
theorem d11_init_197 : decode (mm_cc M11_init) 197 = .ok (.aload_n 0, 1) := by decide +kernel
theorem d11_init_198 : decode (mm_cc M11_init) 198 = .ok (.bipush 48, 2) := by decide +kernel
theorem d11_init_200 : decode (mm_cc M11_init) 200 = .ok (.newarray .int, 2) := by decide +kernel
theorem d11_init_202 : decode (mm_cc M11_init) 202 = .ok (.putfield 90, 3) := by decide +kernel
theorem d11_init_205 : decode (mm_cc M11_init) 205 = .ok (.aload_n 0, 1) := by decide +kernel
theorem d11_init_206 : decode (mm_cc M11_init) 206 = .ok (.bipush 6, 2) := by decide +kernel
theorem d11_init_208 : decode (mm_cc M11_init) 208 = .ok (.newarray .int, 2) := by decide +kernel
theorem d11_init_210 : decode (mm_cc M11_init) 210 = .ok (.putfield 93, 3) := by decide +kernel
theorem d11_init_213 : decode (mm_cc M11_init) 213 = .ok (.aload_n 0, 1) := by decide +kernel
theorem d11_init_214 : decode (mm_cc M11_init) 214 = .ok (.sipush 2304, 3) := by decide +kernel
theorem d11_init_217 : decode (mm_cc M11_init) 217 = .ok (.newarray .int, 2) := by decide +kernel
theorem d11_init_219 : decode (mm_cc M11_init) 219 = .ok (.putfield 96, 3) := by decide +kernel
theorem d11_init_222 : decode (mm_cc M11_init) 222 = .ok (.aload_n 0, 1) := by decide +kernel
theorem d11_init_223 : decode (mm_cc M11_init) 223 = .ok (.bipush 6, 2) := by decide +kernel
theorem d11_init_225 : decode (mm_cc M11_init) 225 = .ok (.newarray .int, 2) := by decide +kernel
theorem d11_init_227 : decode (mm_cc M11_init) 227 = .ok (.putfield 99, 3) := by decide +kernel
theorem d11_init_230 : decode (mm_cc M11_init) 230 = .ok (.aload_n 0, 1) := by decide +kernel
theorem d11_init_231 : decode (mm_cc M11_init) 231 = .ok (.iconst 4, 1) := by decide +kernel
theorem d11_init_232 : decode (mm_cc M11_init) 232 = .ok (.newarray .int, 2) := by decide +kernel
theorem d11_init_234 : decode (mm_cc M11_init) 234 = .ok (.putfield 102, 3) := by decide +kernel
theorem d11_init_237 : decode (mm_cc M11_init) 237 = .ok (.aload_n 0, 1) := by decide +kernel
theorem d11_init_238 : decode (mm_cc M11_init) 238 = .ok (.iconst 4, 1) := by decide +kernel
theorem d11_init_239 : decode (mm_cc M11_init) 239 = .ok (.newarray .int, 2) := by decide +kernel
theorem d11_init_241 : decode (mm_cc M11_init) 241 = .ok (.putfield 105, 3) := by decide +kernel
theorem d11_init_244 : decode (mm_cc M11_init) 244 = .ok (.aload_n 0, 1) := by decide +kernel
theorem d11_init_245 : decode (mm_cc M11_init) 245 = .ok (.bipush 12, 2) := by decide +kernel
theorem d11_init_247 : decode (mm_cc M11_init) 247 = .ok (.newarray .int, 2) := by decide +kernel
theorem d11_init_249 : decode (mm_cc M11_init) 249 = .ok (.putfield 108, 3) := by decide +kernel
theorem d11_init_252 : decode (mm_cc M11_init) 252 = .ok (.aload_n 0, 1) := by decide +kernel
theorem d11_init_253 : decode (mm_cc M11_init) 253 = .ok (.bipush 12, 2) := by decide +kernel
theorem d11_init_255 : decode (mm_cc M11_init) 255 = .ok (.newarray .int, 2) := by decide +kernel
theorem d11_init_257 : decode (mm_cc M11_init) 257 = .ok (.putfield 111, 3) := by decide +kernel
theorem d11_init_260 : decode (mm_cc M11_init) 260 = .ok (.aload_n 0, 1) := by decide +kernel
theorem d11_init_261 : decode (mm_cc M11_init) 261 = .ok (.bipush 40, 2) := by decide +kernel
theorem d11_init_263 : decode (mm_cc M11_init) 263 = .ok (.newarray .int, 2) := by decide +kernel
theorem d11_init_265 : decode (mm_cc M11_init) 265 = .ok (.putfield 114, 3) := by decide +kernel
theorem d11_init_268 : decode (mm_cc M11_init) 268 = .ok (.aload_n 0, 1) := by decide +kernel
theorem d11_init_269 : decode (mm_cc M11_init) 269 = .ok (.bipush 40, 2) := by decide +kernel
theorem d11_init_271 : decode (mm_cc M11_init) 271 = .ok (.newarray .int, 2) := by decide +kernel
theorem d11_init_273 : decode (mm_cc M11_init) 273 = .ok (.putfield 117, 3) := by decide +kernel
theorem d11_init_276 : decode (mm_cc M11_init) 276 = .ok (.aload_n 0, 1) := by decide +kernel
theorem d11_init_277 : decode (mm_cc M11_init) 277 = .ok (.bipush 40, 2) := by decide +kernel
theorem d11_init_279 : decode (mm_cc M11_init) 279 = .ok (.newarray .int, 2) := by decide +kernel
theorem d11_init_281 : decode (mm_cc M11_init) 281 = .ok (.putfield 120, 3) := by decide +kernel
theorem d11_init_284 : decode (mm_cc M11_init) 284 = .ok (.aload_n 0, 1) := by decide +kernel
theorem d11_init_285 : decode (mm_cc M11_init) 285 = .ok (.sipush 540, 3) := by decide +kernel
theorem d11_init_288 : decode (mm_cc M11_init) 288 = .ok (.newarray .int, 2) := by decide +kernel
theorem d11_init_290 : decode (mm_cc M11_init) 290 = .ok (.putfield 123, 3) := by decide +kernel
theorem d11_init_293 : decode (mm_cc M11_init) 293 = .ok (.aload_n 0, 1) := by decide +kernel
theorem d11_init_294 : decode (mm_cc M11_init) 294 = .ok (.iconst 2, 1) := by decide +kernel
theorem d11_init_295 : decode (mm_cc M11_init) 295 = .ok (.newarray .boolean, 2) := by decide +kernel
theorem d11_init_297 : decode (mm_cc M11_init) 297 = .ok (.putfield 126, 3) := by decide +kernel
theorem d11_init_300 : decode (mm_cc M11_init) 300 = .ok (.aload_n 0, 1) := by decide +kernel
theorem d11_init_301 : decode (mm_cc M11_init) 301 = .ok (.invokevirtual 129, 3) := by decide +kernel
theorem d11_init_304 : decode (mm_cc M11_init) 304 = .ok (.pop, 1) := by decide +kernel
theorem d11_init_305 : decode (mm_cc M11_init) 305 = .ok (.return_, 1) := by decide +kernel
theorem ol_X11 : Cond.methodLink RX11 1 Lib.objectInit ∈ mm_GW := mm_g5 151 (by decide +kernel) rfl
theorem fc_X11_7 : mm_FC M11_init 7 11 1 (.array .int) := ⟨_, _, _, mmcl_X11, by decide, mm_g5 165 (by decide +kernel) rfl, by decide +kernel, by decide +kernel⟩
theorem fc_X11_13 : mm_FC M11_init 13 11 3 (.array .int) := ⟨_, _, _, mmcl_X11, by decide, mm_g5 167 (by decide +kernel) rfl, by decide +kernel, by decide +kernel⟩
theorem fc_X11_16 : mm_FC M11_init 16 11 4 (.array .int) := ⟨_, _, _, mmcl_X11, by decide, mm_g5 168 (by decide +kernel) rfl, by decide +kernel, by decide +kernel⟩
theorem fc_X11_19 : mm_FC M11_init 19 11 5 (.array .int) := ⟨_, _, _, mmcl_X11, by decide, mm_g5 169 (by decide +kernel) rfl, by decide +kernel, by decide +kernel⟩
theorem fc_X11_22 : mm_FC M11_init 22 11 6 .int := ⟨_, _, _, mmcl_X11, by decide, mm_g5 170 (by decide +kernel) rfl, by decide +kernel, by decide +kernel⟩
theorem fc_X11_26 : mm_FC M11_init 26 11 7 .int := ⟨_, _, _, mmcl_X11, by decide, mm_g5 171 (by decide +kernel) rfl, by decide +kernel, by decide +kernel⟩
theorem fc_X11_29 : mm_FC M11_init 29 11 8 .int := ⟨_, _, _, mmcl_X11, by decide, mm_g5 172 (by decide +kernel) rfl, by decide +kernel, by decide +kernel⟩
theorem fc_X11_32 : mm_FC M11_init 32 11 9 .int := ⟨_, _, _, mmcl_X11, by decide, mm_g5 173 (by decide +kernel) rfl, by decide +kernel, by decide +kernel⟩
theorem fc_X11_35 : mm_FC M11_init 35 11 10 .int := ⟨_, _, _, mmcl_X11, by decide, mm_g5 174 (by decide +kernel) rfl, by decide +kernel, by decide +kernel⟩
theorem fc_X11_38 : mm_FC M11_init 38 11 12 (.array .int) := ⟨_, _, _, mmcl_X11, by decide, mm_g5 176 (by decide +kernel) rfl, by decide +kernel, by decide +kernel⟩
theorem fc_X11_41 : mm_FC M11_init 41 11 13 (.array .boolean) := ⟨_, _, _, mmcl_X11, by decide, mm_g5 177 (by decide +kernel) rfl, by decide +kernel, by decide +kernel⟩
theorem fc_X11_45 : mm_FC M11_init 45 11 14 (.array .int) := ⟨_, _, _, mmcl_X11, by decide, mm_g5 178 (by decide +kernel) rfl, by decide +kernel, by decide +kernel⟩
theorem fc_X11_48 : mm_FC M11_init 48 11 15 (.array .int) := ⟨_, _, _, mmcl_X11, by decide, mm_g5 179 (by decide +kernel) rfl, by decide +kernel, by decide +kernel⟩
theorem fc_X11_51 : mm_FC M11_init 51 11 16 (.array .int) := ⟨_, _, _, mmcl_X11, by decide, mm_g5 180 (by decide +kernel) rfl, by decide +kernel, by decide +kernel⟩
theorem fc_X11_54 : mm_FC M11_init 54 11 17 (.array .int) := ⟨_, _, _, mmcl_X11, by decide, mm_g5 181 (by decide +kernel) rfl, by decide +kernel, by decide +kernel⟩
theorem fc_X11_57 : mm_FC M11_init 57 11 18 (.array .int) := ⟨_, _, _, mmcl_X11, by decide, mm_g5 182 (by decide +kernel) rfl, by decide +kernel, by decide +kernel⟩
theorem fc_X11_60 : mm_FC M11_init 60 11 19 (.array .int) := ⟨_, _, _, mmcl_X11, by decide, mm_g5 183 (by decide +kernel) rfl, by decide +kernel, by decide +kernel⟩
theorem fc_X11_63 : mm_FC M11_init 63 11 20 (.array .int) := ⟨_, _, _, mmcl_X11, by decide, mm_g5 184 (by decide +kernel) rfl, by decide +kernel, by decide +kernel⟩
theorem fc_X11_66 : mm_FC M11_init 66 11 21 (.array .boolean) := ⟨_, _, _, mmcl_X11, by decide, mm_g5 185 (by decide +kernel) rfl, by decide +kernel, by decide +kernel⟩
theorem fc_X11_69 : mm_FC M11_init 69 11 22 (.array .boolean) := ⟨_, _, _, mmcl_X11, by decide, mm_g5 186 (by decide +kernel) rfl, by decide +kernel, by decide +kernel⟩
theorem fc_X11_72 : mm_FC M11_init 72 11 25 (.array .int) := ⟨_, _, _, mmcl_X11, by decide, mm_g5 189 (by decide +kernel) rfl, by decide +kernel, by decide +kernel⟩
theorem fc_X11_75 : mm_FC M11_init 75 11 26 (.array .int) := ⟨_, _, _, mmcl_X11, by decide, mm_g5 190 (by decide +kernel) rfl, by decide +kernel, by decide +kernel⟩
theorem fc_X11_78 : mm_FC M11_init 78 11 28 .int := ⟨_, _, _, mmcl_X11, by decide, mm_g5 192 (by decide +kernel) rfl, by decide +kernel, by decide +kernel⟩
theorem fc_X11_81 : mm_FC M11_init 81 11 35 (.array .int) := ⟨_, _, _, mmcl_X11, by decide, mm_g5 199 (by decide +kernel) rfl, by decide +kernel, by decide +kernel⟩
theorem fc_X11_84 : mm_FC M11_init 84 11 37 (.array .int) := ⟨_, _, _, mmcl_X11, by decide, mm_g5 201 (by decide +kernel) rfl, by decide +kernel, by decide +kernel⟩
theorem fc_X11_87 : mm_FC M11_init 87 11 38 (.array .int) := ⟨_, _, _, mmcl_X11, by decide, mm_g5 202 (by decide +kernel) rfl, by decide +kernel, by decide +kernel⟩
theorem fc_X11_90 : mm_FC M11_init 90 11 40 (.array .int) := ⟨_, _, _, mmcl_X11, by decide, mm_g5 204 (by decide +kernel) rfl, by decide +kernel, by decide +kernel⟩
theorem fc_X11_93 : mm_FC M11_init 93 11 41 (.array .int) := ⟨_, _, _, mmcl_X11, by decide, mm_g5 205 (by decide +kernel) rfl, by decide +kernel, by decide +kernel⟩
theorem fc_X11_96 : mm_FC M11_init 96 11 42 (.array .int) := ⟨_, _, _, mmcl_X11, by decide, mm_g5 206 (by decide +kernel) rfl, by decide +kernel, by decide +kernel⟩
theorem fc_X11_99 : mm_FC M11_init 99 11 43 (.array .int) := ⟨_, _, _, mmcl_X11, by decide, mm_g5 207 (by decide +kernel) rfl, by decide +kernel, by decide +kernel⟩
theorem fc_X11_102 : mm_FC M11_init 102 11 45 (.array .int) := ⟨_, _, _, mmcl_X11, by decide, mm_g5 209 (by decide +kernel) rfl, by decide +kernel, by decide +kernel⟩
theorem fc_X11_105 : mm_FC M11_init 105 11 46 (.array .int) := ⟨_, _, _, mmcl_X11, by decide, mm_g5 210 (by decide +kernel) rfl, by decide +kernel, by decide +kernel⟩
theorem fc_X11_108 : mm_FC M11_init 108 11 49 (.array .int) := ⟨_, _, _, mmcl_X11, by decide, mm_g5 213 (by decide +kernel) rfl, by decide +kernel, by decide +kernel⟩
theorem fc_X11_111 : mm_FC M11_init 111 11 50 (.array .int) := ⟨_, _, _, mmcl_X11, by decide, mm_g5 214 (by decide +kernel) rfl, by decide +kernel, by decide +kernel⟩
theorem fc_X11_114 : mm_FC M11_init 114 11 52 (.array .int) := ⟨_, _, _, mmcl_X11, by decide, mm_g5 216 (by decide +kernel) rfl, by decide +kernel, by decide +kernel⟩
theorem fc_X11_117 : mm_FC M11_init 117 11 53 (.array .int) := ⟨_, _, _, mmcl_X11, by decide, mm_g5 217 (by decide +kernel) rfl, by decide +kernel, by decide +kernel⟩
theorem fc_X11_120 : mm_FC M11_init 120 11 54 (.array .int) := ⟨_, _, _, mmcl_X11, by decide, mm_g5 218 (by decide +kernel) rfl, by decide +kernel, by decide +kernel⟩
theorem fc_X11_123 : mm_FC M11_init 123 11 55 (.array .int) := ⟨_, _, _, mmcl_X11, by decide, mm_g5 219 (by decide +kernel) rfl, by decide +kernel, by decide +kernel⟩
theorem fc_X11_126 : mm_FC M11_init 126 11 56 (.array .boolean) := ⟨_, _, _, mmcl_X11, by decide, mm_g5 220 (by decide +kernel) rfl, by decide +kernel, by decide +kernel⟩
theorem d10_init_0 : decode (mm_cc M10_init) 0 = .ok (.aload_n 0, 1) := by decide +kernel
theorem d10_init_1 : decode (mm_cc M10_init) 1 = .ok (.invokespecial 1, 3) := by decide +kernel
theorem d10_init_4 : decode (mm_cc M10_init) 4 = .ok (.aload_n 0, 1) := by decide +kernel
theorem d10_init_5 : decode (mm_cc M10_init) 5 = .ok (.new 7, 3) := by decide +kernel
theorem d10_init_8 : decode (mm_cc M10_init) 8 = .ok (.dup, 1) := by decide +kernel
theorem d10_init_9 : decode (mm_cc M10_init) 9 = .ok (.invokespecial 9, 3) := by decide +kernel
theorem d10_init_12 : decode (mm_cc M10_init) 12 = .ok (.putfield 10, 3) := by decide +kernel
theorem d10_init_15 : decode (mm_cc M10_init) 15 = .ok (.aload_n 0, 1) := by decide +kernel
theorem d10_init_16 : decode (mm_cc M10_init) 16 = .ok (.new 16, 3) := by decide +kernel
theorem d10_init_19 : decode (mm_cc M10_init) 19 = .ok (.dup, 1) := by decide +kernel
theorem d10_init_20 : decode (mm_cc M10_init) 20 = .ok (.invokespecial 18, 3) := by decide +kernel
theorem d10_init_23 : decode (mm_cc M10_init) 23 = .ok (.putfield 19, 3) := by decide +kernel
theorem d10_init_26 : decode (mm_cc M10_init) 26 = .ok (.aload_n 0, 1) := by decide +kernel
theorem d10_init_27 : decode (mm_cc M10_init) 27 = .ok (.new 16, 3) := by decide +kernel
theorem d10_init_30 : decode (mm_cc M10_init) 30 = .ok (.dup, 1) := by decide +kernel
theorem d10_init_31 : decode (mm_cc M10_init) 31 = .ok (.invokespecial 18, 3) := by decide +kernel
theorem d10_init_34 : decode (mm_cc M10_init) 34 = .ok (.putfield 23, 3) := by decide +kernel
theorem d10_init_37 : decode (mm_cc M10_init) 37 = .ok (.aload_n 0, 1) := by decide +kernel
theorem d10_init_38 : decode (mm_cc M10_init) 38 = .ok (.new 26, 3) := by decide +kernel
theorem d10_init_41 : decode (mm_cc M10_init) 41 = .ok (.dup, 1) := by decide +kernel
theorem d10_init_42 : decode (mm_cc M10_init) 42 = .ok (.invokespecial 28, 3) := by decide +kernel
theorem d10_init_45 : decode (mm_cc M10_init) 45 = .ok (.putfield 29, 3) := by decide +kernel
theorem d10_init_48 : decode (mm_cc M10_init) 48 = .ok (.aload_n 0, 1) := by decide +kernel
theorem d10_init_49 : decode (mm_cc M10_init) 49 = .ok (.new 26, 3) := by decide +kernel
theorem d10_init_52 : decode (mm_cc M10_init) 52 = .ok (.dup, 1) := by decide +kernel
theorem d10_init_53 : decode (mm_cc M10_init) 53 = .ok (.invokespecial 28, 3) := by decide +kernel
theorem d10_init_56 : decode (mm_cc M10_init) 56 = .ok (.putfield 33, 3) := by decide +kernel
theorem d10_init_59 : decode (mm_cc M10_init) 59 = .ok (.aload_n 0, 1) := by decide +kernel
theorem d10_init_60 : decode (mm_cc M10_init) 60 = .ok (.new 26, 3) := by decide +kernel
theorem d10_init_63 : decode (mm_cc M10_init) 63 = .ok (.dup, 1) := by decide +kernel
theorem d10_init_64 : decode (mm_cc M10_init) 64 = .ok (.invokespecial 28, 3) := by decide +kernel
theorem d10_init_67 : decode (mm_cc M10_init) 67 = .ok (.putfield 36, 3) := by decide +kernel
theorem d10_init_70 : decode (mm_cc M10_init) 70 = .ok (.aload_n 0, 1) := by decide +kernel
theorem d10_init_71 : decode (mm_cc M10_init) 71 = .ok (.new 39, 3) := by decide +kernel
theorem d10_init_74 : decode (mm_cc M10_init) 74 = .ok (.dup, 1) := by decide +kernel
theorem d10_init_75 : decode (mm_cc M10_init) 75 = .ok (.invokespecial 41, 3) := by decide +kernel
theorem d10_init_78 : decode (mm_cc M10_init) 78 = .ok (.putfield 42, 3) := by decide +kernel
theorem d10_init_81 : decode (mm_cc M10_init) 81 = .ok (.aload_n 0, 1) := by decide +kernel
theorem d10_init_82 : decode (mm_cc M10_init) 82 = .ok (.new 39, 3) := by decide +kernel
theorem d10_init_85 : decode (mm_cc M10_init) 85 = .ok (.dup, 1) := by decide +kernel
theorem d10_init_86 : decode (mm_cc M10_init) 86 = .ok (.invokespecial 41, 3) := by decide +kernel
theorem d10_init_89 : decode (mm_cc M10_init) 89 = .ok (.putfield 46, 3) := by decide +kernel
theorem d10_init_92 : decode (mm_cc M10_init) 92 = .ok (.aload_n 0, 1) := by decide +kernel
theorem d10_init_93 : decode (mm_cc M10_init) 93 = .ok (.new 39, 3) := by decide +kernel
theorem d10_init_96 : decode (mm_cc M10_init) 96 = .ok (.dup, 1) := by decide +kernel
theorem d10_init_97 : decode (mm_cc M10_init) 97 = .ok (.invokespecial 41, 3) := by decide +kernel
theorem d10_init_100 : decode (mm_cc M10_init) 100 = .ok (.putfield 49, 3) := by decide +kernel
theorem d10_init_103 : decode (mm_cc M10_init) 103 = .ok (.aload_n 0, 1) := by decide +kernel
theorem d10_init_104 : decode (mm_cc M10_init) 104 = .ok (.new 39, 3) := by decide +kernel
theorem d10_init_107 : decode (mm_cc M10_init) 107 = .ok (.dup, 1) := by decide +kernel
theorem d10_init_108 : decode (mm_cc M10_init) 108 = .ok (.invokespecial 41, 3) := by decide +kernel
theorem d10_init_111 : decode (mm_cc M10_init) 111 = .ok (.putfield 52, 3) := by decide +kernel
theorem d10_init_114 : decode (mm_cc M10_init) 114 = .ok (.aload_n 0, 1) := by decide +kernel
theorem d10_init_115 : decode (mm_cc M10_init) 115 = .ok (.new 39, 3) := by decide +kernel
theorem d10_init_118 : decode (mm_cc M10_init) 118 = .ok (.dup, 1) := by decide +kernel
theorem d10_init_119 : decode (mm_cc M10_init) 119 = .ok (.invokespecial 41, 3) := by decide +kernel
theorem d10_init_122 : decode (mm_cc M10_init) 122 = .ok (.putfield 55, 3) := by decide +kernel
theorem d10_init_125 : decode (mm_cc M10_init) 125 = .ok (.aload_n 0, 1) := by decide +kernel
theorem d10_init_126 : decode (mm_cc M10_init) 126 = .ok (.new 39, 3) := by decide +kernel
theorem d10_init_129 : decode (mm_cc M10_init) 129 = .ok (.dup, 1) := by decide +kernel
theorem d10_init_130 : decode (mm_cc M10_init) 130 = .ok (.invokespecial 41, 3) := by decide +kernel
theorem d10_init_133 : decode (mm_cc M10_init) 133 = .ok (.putfield 58, 3) := by decide +kernel
theorem d10_init_136 : decode (mm_cc M10_init) 136 = .ok (.aload_n 0, 1) := by decide +kernel
theorem d10_init_137 : decode (mm_cc M10_init) 137 = .ok (.new 61, 3) := by decide +kernel
theorem d10_init_140 : decode (mm_cc M10_init) 140 = .ok (.dup, 1) := by decide +kernel
theorem d10_init_141 : decode (mm_cc M10_init) 141 = .ok (.bipush 6, 2) := by decide +kernel
theorem d10_init_143 : decode (mm_cc M10_init) 143 = .ok (.invokespecial 63, 3) := by decide +kernel
theorem d10_init_146 : decode (mm_cc M10_init) 146 = .ok (.putfield 66, 3) := by decide +kernel
theorem d10_init_149 : decode (mm_cc M10_init) 149 = .ok (.aload_n 0, 1) := by decide +kernel
theorem d10_init_150 : decode (mm_cc M10_init) 150 = .ok (.new 70, 3) := by decide +kernel
theorem d10_init_153 : decode (mm_cc M10_init) 153 = .ok (.dup, 1) := by decide +kernel
theorem d10_init_154 : decode (mm_cc M10_init) 154 = .ok (.invokespecial 72, 3) := by decide +kernel
theorem d10_init_157 : decode (mm_cc M10_init) 157 = .ok (.putfield 73, 3) := by decide +kernel
theorem d10_init_160 : decode (mm_cc M10_init) 160 = .ok (.aload_n 0, 1) := by decide +kernel
theorem d10_init_161 : decode (mm_cc M10_init) 161 = .ok (.new 77, 3) := by decide +kernel
theorem d10_init_164 : decode (mm_cc M10_init) 164 = .ok (.dup, 1) := by decide +kernel
theorem d10_init_165 : decode (mm_cc M10_init) 165 = .ok (.aload_n 0, 1) := by decide +kernel
theorem d10_init_166 : decode (mm_cc M10_init) 166 = .ok (.getfield 10, 3) := by decide +kernel
theorem d10_init_169 : decode (mm_cc M10_init) 169 = .ok (.aload_n 0, 1) := by decide +kernel
theorem d10_init_170 : decode (mm_cc M10_init) 170 = .ok (.getfield 23, 3) := by decide +kernel
theorem d10_init_173 : decode (mm_cc M10_init) 173 = .ok (.aload_n 0, 1) := by decide +kernel
theorem d10_init_174 : decode (mm_cc M10_init) 174 = .ok (.getfield 49, 3) := by decide +kernel
theorem d10_init_177 : decode (mm_cc M10_init) 177 = .ok (.invokespecial 79, 3) := by decide +kernel
theorem d10_init_180 : decode (mm_cc M10_init) 180 = .ok (.putfield 82, 3) := by decide +kernel
theorem d10_init_183 : decode (mm_cc M10_init) 183 = .ok (.aload_n 0, 1) := by decide +kernel
theorem d10_init_184 : decode (mm_cc M10_init) 184 = .ok (.new 86, 3) := by decide +kernel
theorem d10_init_187 : decode (mm_cc M10_init) 187 = .ok (.dup, 1) := by decide +kernel
theorem d10_init_188 : decode (mm_cc M10_init) 188 = .ok (.aload_n 0, 1) := by decide +kernel
theorem d10_init_189 : decode (mm_cc M10_init) 189 = .ok (.getfield 19, 3) := by decide +kernel
theorem d10_init_192 : decode (mm_cc M10_init) 192 = .ok (.aload_n 0, 1) := by decide +kernel
theorem d10_init_193 : decode (mm_cc M10_init) 193 = .ok (.getfield 29, 3) := by decide +kernel
theorem d10_init_196 : decode (mm_cc M10_init) 196 = .ok (.aload_n 0, 1) := by decide +kernel
theorem d10_init_197 : decode (mm_cc M10_init) 197 = .ok (.getfield 42, 3) := by decide +kernel
theorem d10_init_200 : decode (mm_cc M10_init) 200 = .ok (.invokespecial 88, 3) := by decide +kernel
theorem d10_init_203 : decode (mm_cc M10_init) 203 = .ok (.putfield 91, 3) := by decide +kernel
theorem d10_init_206 : decode (mm_cc M10_init) 206 = .ok (.aload_n 0, 1) := by decide +kernel
theorem d10_init_207 : decode (mm_cc M10_init) 207 = .ok (.new 86, 3) := by decide +kernel
theorem d10_init_210 : decode (mm_cc M10_init) 210 = .ok (.dup, 1) := by decide +kernel
theorem d10_init_211 : decode (mm_cc M10_init) 211 = .ok (.aload_n 0, 1) := by decide +kernel
theorem d10_init_212 : decode (mm_cc M10_init) 212 = .ok (.getfield 19, 3) := by decide +kernel
theorem d10_init_215 : decode (mm_cc M10_init) 215 = .ok (.aload_n 0, 1) := by decide +kernel
theorem d10_init_216 : decode (mm_cc M10_init) 216 = .ok (.getfield 36, 3) := by decide +kernel
theorem d10_init_219 : decode (mm_cc M10_init) 219 = .ok (.aload_n 0, 1) := by decide +kernel
theorem d10_init_220 : decode (mm_cc M10_init) 220 = .ok (.getfield 52, 3) := by decide +kernel
theorem d10_init_223 : decode (mm_cc M10_init) 223 = .ok (.invokespecial 88, 3) := by decide +kernel
theorem d10_init_226 : decode (mm_cc M10_init) 226 = .ok (.putfield 95, 3) := by decide +kernel
theorem d10_init_229 : decode (mm_cc M10_init) 229 = .ok (.aload_n 0, 1) := by decide +kernel
theorem d10_init_230 : decode (mm_cc M10_init) 230 = .ok (.new 98, 3) := by decide +kernel
theorem d10_init_233 : decode (mm_cc M10_init) 233 = .ok (.dup, 1) := by decide +kernel
theorem d10_init_234 : decode (mm_cc M10_init) 234 = .ok (.aload_n 0, 1) := by decide +kernel
theorem d10_init_235 : decode (mm_cc M10_init) 235 = .ok (.getfield 19, 3) := by decide +kernel
theorem d10_init_238 : decode (mm_cc M10_init) 238 = .ok (.aload_n 0, 1) := by decide +kernel
theorem d10_init_239 : decode (mm_cc M10_init) 239 = .ok (.getfield 42, 3) := by decide +kernel
theorem d10_init_242 : decode (mm_cc M10_init) 242 = .ok (.aload_n 0, 1) := by decide +kernel
theorem d10_init_243 : decode (mm_cc M10_init) 243 = .ok (.getfield 66, 3) := by decide +kernel
theorem d10_init_246 : decode (mm_cc M10_init) 246 = .ok (.invokespecial 100, 3) := by decide +kernel
theorem d10_init_249 : decode (mm_cc M10_init) 249 = .ok (.putfield 103, 3) := by decide +kernel
theorem d10_init_252 : decode (mm_cc M10_init) 252 = .ok (.aload_n 0, 1) := by decide +kernel
theorem d10_init_253 : decode (mm_cc M10_init) 253 = .ok (.new 107, 3) := by decide +kernel
theorem d10_init_256 : decode (mm_cc M10_init) 256 = .ok (.dup, 1) := by decide +kernel
theorem d10_init_257 : decode (mm_cc M10_init) 257 = .ok (.aload_n 0, 1) := by decide +kernel
theorem d10_init_258 : decode (mm_cc M10_init) 258 = .ok (.getfield 91, 3) := by decide +kernel
theorem d10_init_261 : decode (mm_cc M10_init) 261 = .ok (.invokespecial 109, 3) := by decide +kernel
theorem d10_init_264 : decode (mm_cc M10_init) 264 = .ok (.putfield 112, 3) := by decide +kernel
theorem d10_init_267 : decode (mm_cc M10_init) 267 = .ok (.aload_n 0, 1) := by decide +kernel
theorem d10_init_268 : decode (mm_cc M10_init) 268 = .ok (.iconst 0, 1) := by decide +kernel
theorem d10_init_269 : decode (mm_cc M10_init) 269 = .ok (.putfield 116, 3) := by decide +kernel
theorem d10_init_272 : decode (mm_cc M10_init) 272 = .ok (.return_, 1) := by decide +kernel
theorem ol_X10 : Cond.methodLink RX10 1 Lib.objectInit ∈ mm_GW := mm_g1 24 (by decide +kernel) rfl
theorem nc_X10_7 : mm_NC RX10 7 4 RX4 7 := ⟨TX4, mmcl_X4, mm_g1 27 (by decide +kernel) rfl, mm_g1 28 (by decide +kernel) rfl, mm_g1 2 (by decide +kernel) rfl, tyX4, tyX4_ok, by decide +kernel⟩
theorem li_X10_9 : mm_LI RX10 9 M4_init 0 := ⟨Or.inr ⟨"ForgottenCrafts", mm_n1 29 (by decide +kernel) rfl⟩, rfl, rfl, mm_g1 30 (by decide +kernel) rfl, mm_g1 2 (by decide +kernel) rfl, mc_4_init, ⟨by decide +kernel, by decide +kernel⟩, by decide +kernel⟩
theorem fc_X10_10 : mm_FC M10_init 10 10 0 (.object "ForgottenCrafts$Reader") := ⟨_, _, _, mmcl_X10, by decide, mm_g2 180 (by decide +kernel) rfl, by decide +kernel, by decide +kernel⟩
theorem nc_X10_16 : mm_NC RX10 16 0 RX0 7 := ⟨TX0, mmcl_X0, mm_g1 76 (by decide +kernel) rfl, mm_g1 77 (by decide +kernel) rfl, mm_g1 5 (by decide +kernel) rfl, tyX0, tyX0_ok, by decide +kernel⟩
theorem li_X10_18 : mm_LI RX10 18 M0_init 0 := ⟨Or.inr ⟨"ForgottenCrafts", mm_n1 78 (by decide +kernel) rfl⟩, rfl, rfl, mm_g1 79 (by decide +kernel) rfl, mm_g1 5 (by decide +kernel) rfl, mc_0_init, ⟨by decide +kernel, by decide +kernel⟩, by decide +kernel⟩
theorem fc_X10_19 : mm_FC M10_init 19 10 1 (.object "ForgottenCrafts$Crafts") := ⟨_, _, _, mmcl_X10, by decide, mm_g2 181 (by decide +kernel) rfl, by decide +kernel, by decide +kernel⟩
theorem fc_X10_23 : mm_FC M10_init 23 10 2 (.object "ForgottenCrafts$Crafts") := ⟨_, _, _, mmcl_X10, by decide, mm_g2 182 (by decide +kernel) rfl, by decide +kernel, by decide +kernel⟩
theorem nc_X10_26 : mm_NC RX10 26 7 RX7 7 := ⟨TX7, mmcl_X7, mm_g1 130 (by decide +kernel) rfl, mm_g1 131 (by decide +kernel) rfl, mm_g1 6 (by decide +kernel) rfl, tyX7, tyX7_ok, by decide +kernel⟩
theorem li_X10_28 : mm_LI RX10 28 M7_init 0 := ⟨Or.inr ⟨"ForgottenCrafts", mm_n1 132 (by decide +kernel) rfl⟩, rfl, rfl, mm_g1 133 (by decide +kernel) rfl, mm_g1 6 (by decide +kernel) rfl, mc_7_init, ⟨by decide +kernel, by decide +kernel⟩, by decide +kernel⟩
theorem fc_X10_29 : mm_FC M10_init 29 10 3 (.object "ForgottenCrafts$Rules") := ⟨_, _, _, mmcl_X10, by decide, mm_g2 183 (by decide +kernel) rfl, by decide +kernel, by decide +kernel⟩
theorem fc_X10_33 : mm_FC M10_init 33 10 4 (.object "ForgottenCrafts$Rules") := ⟨_, _, _, mmcl_X10, by decide, mm_g2 184 (by decide +kernel) rfl, by decide +kernel, by decide +kernel⟩
theorem fc_X10_36 : mm_FC M10_init 36 10 5 (.object "ForgottenCrafts$Rules") := ⟨_, _, _, mmcl_X10, by decide, mm_g2 185 (by decide +kernel) rfl, by decide +kernel, by decide +kernel⟩
theorem nc_X10_39 : mm_NC RX10 39 1 RX1 13 := ⟨TX1, mmcl_X1, mm_g1 174 (by decide +kernel) rfl, mm_g1 175 (by decide +kernel) rfl, mm_g1 7 (by decide +kernel) rfl, tyX1, tyX1_ok, by decide +kernel⟩
theorem li_X10_41 : mm_LI RX10 41 M1_init 0 := ⟨Or.inr ⟨"ForgottenCrafts", mm_n1 176 (by decide +kernel) rfl⟩, rfl, rfl, mm_g1 177 (by decide +kernel) rfl, mm_g1 7 (by decide +kernel) rfl, mc_1_init, ⟨by decide +kernel, by decide +kernel⟩, by decide +kernel⟩
theorem fc_X10_42 : mm_FC M10_init 42 10 6 (.object "ForgottenCrafts$Folk") := ⟨_, _, _, mmcl_X10, by decide, mm_g2 186 (by decide +kernel) rfl, by decide +kernel, by decide +kernel⟩
theorem fc_X10_46 : mm_FC M10_init 46 10 7 (.object "ForgottenCrafts$Folk") := ⟨_, _, _, mmcl_X10, by decide, mm_g2 187 (by decide +kernel) rfl, by decide +kernel, by decide +kernel⟩
theorem fc_X10_49 : mm_FC M10_init 49 10 8 (.object "ForgottenCrafts$Folk") := ⟨_, _, _, mmcl_X10, by decide, mm_g2 188 (by decide +kernel) rfl, by decide +kernel, by decide +kernel⟩
theorem fc_X10_52 : mm_FC M10_init 52 10 9 (.object "ForgottenCrafts$Folk") := ⟨_, _, _, mmcl_X10, by decide, mm_g2 189 (by decide +kernel) rfl, by decide +kernel, by decide +kernel⟩
theorem fc_X10_55 : mm_FC M10_init 55 10 10 (.object "ForgottenCrafts$Folk") := ⟨_, _, _, mmcl_X10, by decide, mm_g2 190 (by decide +kernel) rfl, by decide +kernel, by decide +kernel⟩
theorem fc_X10_58 : mm_FC M10_init 58 10 11 (.object "ForgottenCrafts$Folk") := ⟨_, _, _, mmcl_X10, by decide, mm_g2 191 (by decide +kernel) rfl, by decide +kernel, by decide +kernel⟩
theorem nc_X10_61 : mm_NC RX10 61 6 RX6 1 := ⟨TX6, mmcl_X6, mm_g2 24 (by decide +kernel) rfl, mm_g1 34 (by decide +kernel) rfl, mm_g1 3 (by decide +kernel) rfl, tyX6, tyX6_ok, by decide +kernel⟩
theorem li_X10_63 : mm_LI RX10 63 M6_init 1 := ⟨Or.inr ⟨"ForgottenCrafts", mm_n2 25 (by decide +kernel) rfl⟩, rfl, rfl, mm_g1 36 (by decide +kernel) rfl, mm_g1 3 (by decide +kernel) rfl, mc_6_init, ⟨by decide +kernel, by decide +kernel⟩, by decide +kernel⟩
theorem fc_X10_66 : mm_FC M10_init 66 10 12 (.object "ForgottenCrafts$Row") := ⟨_, _, _, mmcl_X10, by decide, mm_g2 192 (by decide +kernel) rfl, by decide +kernel, by decide +kernel⟩
theorem nc_X10_70 : mm_NC RX10 70 8 RX8 11 := ⟨TX8, mmcl_X8, mm_g2 26 (by decide +kernel) rfl, mm_g2 27 (by decide +kernel) rfl, mm_g1 8 (by decide +kernel) rfl, tyX8, tyX8_ok, by decide +kernel⟩
theorem li_X10_72 : mm_LI RX10 72 M8_init 0 := ⟨Or.inr ⟨"ForgottenCrafts", mm_n2 28 (by decide +kernel) rfl⟩, rfl, rfl, mm_g2 29 (by decide +kernel) rfl, mm_g1 8 (by decide +kernel) rfl, mc_8_init, ⟨by decide +kernel, by decide +kernel⟩, by decide +kernel⟩
theorem fc_X10_73 : mm_FC M10_init 73 10 13 (.object "ForgottenCrafts$Shelf") := ⟨_, _, _, mmcl_X10, by decide, mm_g2 193 (by decide +kernel) rfl, by decide +kernel, by decide +kernel⟩
theorem nc_X10_77 : mm_NC RX10 77 9 RX9 5 := ⟨TX9, mmcl_X9, mm_g2 73 (by decide +kernel) rfl, mm_g2 74 (by decide +kernel) rfl, mm_g1 9 (by decide +kernel) rfl, tyX9, tyX9_ok, by decide +kernel⟩
theorem li_X10_79 : mm_LI RX10 79 M9_init 3 := ⟨Or.inr ⟨"ForgottenCrafts", mm_n2 75 (by decide +kernel) rfl⟩, rfl, rfl, mm_g2 76 (by decide +kernel) rfl, mm_g1 9 (by decide +kernel) rfl, mc_9_init, ⟨by decide +kernel, by decide +kernel⟩, by decide +kernel⟩
theorem fc_X10_82 : mm_FC M10_init 82 10 14 (.object "ForgottenCrafts$TownTeller") := ⟨_, _, _, mmcl_X10, by decide, mm_g2 194 (by decide +kernel) rfl, by decide +kernel, by decide +kernel⟩
theorem nc_X10_86 : mm_NC RX10 86 2 RX2 3 := ⟨TX2, mmcl_X2, mm_g2 95 (by decide +kernel) rfl, mm_g2 96 (by decide +kernel) rfl, mm_g1 10 (by decide +kernel) rfl, tyX2, tyX2_ok, by decide +kernel⟩
theorem li_X10_88 : mm_LI RX10 88 M2_init 3 := ⟨Or.inr ⟨"ForgottenCrafts", mm_n2 97 (by decide +kernel) rfl⟩, rfl, rfl, mm_g2 98 (by decide +kernel) rfl, mm_g1 10 (by decide +kernel) rfl, mc_2_init, ⟨by decide +kernel, by decide +kernel⟩, by decide +kernel⟩
theorem fc_X10_91 : mm_FC M10_init 91 10 15 (.object "ForgottenCrafts$Life") := ⟨_, _, _, mmcl_X10, by decide, mm_g2 195 (by decide +kernel) rfl, by decide +kernel, by decide +kernel⟩
theorem fc_X10_95 : mm_FC M10_init 95 10 16 (.object "ForgottenCrafts$Life") := ⟨_, _, _, mmcl_X10, by decide, mm_g2 196 (by decide +kernel) rfl, by decide +kernel, by decide +kernel⟩
theorem nc_X10_98 : mm_NC RX10 98 3 RX3 8 := ⟨TX3, mmcl_X3, mm_g2 113 (by decide +kernel) rfl, mm_g2 114 (by decide +kernel) rfl, mm_g1 11 (by decide +kernel) rfl, tyX3, tyX3_ok, by decide +kernel⟩
theorem li_X10_100 : mm_LI RX10 100 M3_init 3 := ⟨Or.inr ⟨"ForgottenCrafts", mm_n2 115 (by decide +kernel) rfl⟩, rfl, rfl, mm_g2 116 (by decide +kernel) rfl, mm_g1 11 (by decide +kernel) rfl, mc_3_init, ⟨by decide +kernel, by decide +kernel⟩, by decide +kernel⟩
theorem fc_X10_103 : mm_FC M10_init 103 10 17 (.object "ForgottenCrafts$Plan") := ⟨_, _, _, mmcl_X10, by decide, mm_g2 197 (by decide +kernel) rfl, by decide +kernel, by decide +kernel⟩
theorem nc_X10_107 : mm_NC RX10 107 5 RX5 7 := ⟨TX5, mmcl_X5, mm_g2 147 (by decide +kernel) rfl, mm_g2 148 (by decide +kernel) rfl, mm_g1 12 (by decide +kernel) rfl, tyX5, tyX5_ok, by decide +kernel⟩
theorem li_X10_109 : mm_LI RX10 109 M5_init 1 := ⟨Or.inr ⟨"ForgottenCrafts", mm_n2 149 (by decide +kernel) rfl⟩, rfl, rfl, mm_g2 150 (by decide +kernel) rfl, mm_g1 12 (by decide +kernel) rfl, mc_5_init, ⟨by decide +kernel, by decide +kernel⟩, by decide +kernel⟩
theorem fc_X10_112 : mm_FC M10_init 112 10 18 (.object "ForgottenCrafts$Rings") := ⟨_, _, _, mmcl_X10, by decide, mm_g2 198 (by decide +kernel) rfl, by decide +kernel, by decide +kernel⟩
theorem fc_X10_116 : mm_FC M10_init 116 10 19 .int := ⟨_, _, _, mmcl_X10, by decide, mm_g2 199 (by decide +kernel) rfl, by decide +kernel, by decide +kernel⟩
theorem mm_maxn {n : Nat} (hn : n < 2 ^ 31) : (if (0 : Int32) < nI n then nI n else 0) = nI n := by
  by_cases h : n = 0
  · subst h
    rw [nI_0]
    split <;> rfl
  · rw [if_pos]
    have := nI_lt (a := 0) (b := n) (by omega) hn
    rw [nI_0] at this
    exact this
set_option maxHeartbeats 4000000 in
set_option maxRecDepth 100000 in
/-- Row(n): an array of n zeros -/
theorem kRow (l : Launch) {S S' : mm_Sh} {r n q : Nat} {v : Int32} {I : mm_I} {J : mm_J} (hr : S[r]? = some (.inr (6, mm_born 6))) (hv : nI n = v) (hlen : S.length = q) (hsm : Nat.blt q 1000000 = true) (hcd : mm_closed q S = true) (hI : mm_zero q I) (hn : Nat.ble n 100000 = true) (hS' : mm_setf (S ++ [.inl (0, n)]) r 0 q = S') : mm_K l M6_init S [.ref r, .int v] I J S' I J 1 n := by
  subst hv
  have hn := Nat.le_of_ble_eq_true hn
  have hrl : r < S.length := (List.getElem?_eq_some_iff.mp hr).1
  have hold : (mm_oldv q (.ref r)) = true := by
    show (Nat.blt r q || Nat.ble 1000000 r) = true
    rw [Nat.blt_eq.mpr (by omega)]; rfl
  have hlv : (lv_args 0 [.ref r, .int (nI n)]).all (fun x => mm_oldv q x.2) = true := by
    show (mm_oldv q (.ref r) && (mm_oldv q (.int (nI n)) && true)) = true
    rw [hold]; rfl
  have hst : ([.ref r] : List Value).all (mm_oldv q) = true := by
    show (mm_oldv q (.ref r) && true) = true
    rw [hold]; rfl
  refine mm_Kenter rfl (by decide +kernel) rfl ?_
  refine mv_aload_n d6_init_0 rfl ?_
  refine mv_objInit ol_X6 ob_i ob_c d6_init_1 ⟨Nat.le_of_ble_eq_true rfl, Nat.le_of_ble_eq_true rfl⟩ ?_
  refine mv_aload_n d6_init_4 rfl ?_
  refine mv_iconst (v := 0) d6_init_5 (by decide +kernel) ?_
  refine mv_iload_n d6_init_6 rfl ?_
  refine mv_mmax lm_X6_7 d6_init_7 ⟨Nat.le_of_ble_eq_true rfl, Nat.le_of_ble_eq_true rfl, Nat.zero_le _, Nat.zero_le _⟩ ?_
  rw [mm_maxn (by omega)]
  refine mv_newa2 (n0 := S.length) (kd := 0) (n := n) q mm_Kmono hlen (Nat.ble_eq.mpr (by omega)) hsm hcd (Or.inl ⟨rfl, rfl⟩) ac_int hI (nI_pos (by omega)) (nI_clamp (by omega)) (by omega) d6_init_10 (Nat.le_refl 1) (by show 0 + n ≤ n; omega) hlv hst rfl ?_
  refine mv_putR2 fc_X6_13 (Or.inr ⟨_, rfl⟩) d6_init_12 ⟨mm_born 6, by rw [List.getElem?_append_left hrl]; exact hr, by decide⟩ hS' ?_
  exact mv_vret rfl d6_init_15 rfl rfl rfl rfl (by omega)

