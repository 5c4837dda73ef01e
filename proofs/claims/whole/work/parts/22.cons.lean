/-! ===== part 22: the constructors, run: written by wip/whole/cons.py ===== -/
theorem mv_cVv {l : Launch} {M : mm_M} {R : Room} {cs ss : Nat} {S : mm_Sh} {E : mm_VE} {pc : Nat} {lv : List (Nat × Value)} {stk : List Value} {I I1 : mm_I} {J J1 : mm_J} {z : mm_M} {idx n b ci : Nat} {As : List Value} {st0 : List Value} {T : u_T} {N : Nat} {fs : List (Nat ⊕ Nat)} (hz : mm_C l z S (.ref b :: As) I J (mm_Qv I1 J1)) (hL : mm_LV (mm_own M) idx z n) (hn : As.length = n) (hd : decode (mm_cc M) pc = .ok (.invokevirtual idx, 3)) (hR : mm_roomy R cs ss z) (hcl : vwCl[ci]? = some (mm_own z, T, N)) (hb : S[b]? = some (.inr (ci, fs))) (hst : st0 = As.reverse ++ .ref b :: stk) (hsm : Nat.ble (stk.map fun v => v.category).sum 8 = true) (kk : mm_V l M R S E (pc + 3) lv (stk) I1 J1 cs ss) : mm_V l M R S E pc lv st0 I J cs ss := by
  refine mv_callV hz hL hn hd hR hcl hb hst hsm (fun r I' J' hq => ?_)
  obtain ⟨rfl, rfl, rfl⟩ := hq
  exact kk
theorem mv_cVi {l : Launch} {M : mm_M} {R : Room} {cs ss : Nat} {S : mm_Sh} {E : mm_VE} {pc : Nat} {lv : List (Nat × Value)} {stk : List Value} {I I1 : mm_I} {J J1 : mm_J} {v : Int32} {z : mm_M} {idx n b ci : Nat} {As : List Value} {st0 : List Value} {T : u_T} {N : Nat} {fs : List (Nat ⊕ Nat)} (hz : mm_C l z S (.ref b :: As) I J (mm_Qi v I1 J1)) (hL : mm_LV (mm_own M) idx z n) (hn : As.length = n) (hd : decode (mm_cc M) pc = .ok (.invokevirtual idx, 3)) (hR : mm_roomy R cs ss z) (hcl : vwCl[ci]? = some (mm_own z, T, N)) (hb : S[b]? = some (.inr (ci, fs))) (hst : st0 = As.reverse ++ .ref b :: stk) (hsm : Nat.ble (stk.map fun v => v.category).sum 8 = true) (kk : mm_V l M R S E (pc + 3) lv (.int v :: stk) I1 J1 cs ss) : mm_V l M R S E pc lv st0 I J cs ss := by
  refine mv_callV hz hL hn hd hR hcl hb hst hsm (fun r I' J' hq => ?_)
  obtain ⟨rfl, rfl, rfl⟩ := hq
  exact kk
set_option maxHeartbeats 4000000 in
set_option maxRecDepth 100000 in
/-- ForgottenCrafts$Reader -/
theorem kc_1 (l : Launch) : mm_K l M4_init SS_2 [.ref 1] II_0 JJ_0 SS_5 II_1 JJ_0 2 501 := by
  refine mm_Kenter rfl (by decide +kernel) rfl ?_
  refine mv_aload_n d4_init_0 rfl ?_
  refine mv_objInit ol_X4 ob_i ob_c d4_init_1 ⟨Nat.le_of_ble_eq_true rfl, Nat.le_of_ble_eq_true rfl⟩ ?_
  refine mv_aload_n d4_init_4 rfl ?_
  refine mv_new2 2 mm_Kmono (by decide +kernel) (by decide +kernel) rfl (by decide +kernel) nc_X4_9 (iz_0.mono (n2 := 2) rfl) (jz_0.mono (n2 := 2) rfl) d4_init_5 (Nat.le_of_ble_eq_true rfl) (Nat.le_of_ble_eq_true rfl) rfl rfl (S' := SS_3) (by decide +kernel) ?_
  refine mv_dup d4_init_8 rfl ?_
  refine mv_sipush (v := 500) d4_init_9 (by decide +kernel) ?_
  refine mv_callK mm_Kmono (by decide +kernel) (kRow l (q := 3) (n := 500) (S' := SS_4) (by decide +kernel) (by decide +kernel) (by decide +kernel) rfl (by decide +kernel) (iz_0.mono (n2 := 3) rfl) rfl (by decide +kernel)) li_X4_11 rfl d4_init_12 ⟨Nat.le_of_ble_eq_true rfl, Nat.le_of_ble_eq_true rfl, Nat.le_of_ble_eq_true rfl, Nat.le_of_ble_eq_true rfl⟩ (As := [.int 500]) rfl rfl (by decide +kernel) (by decide +kernel) ?_
  refine mv_putR2 fc_X4_14 (Or.inl ⟨_, rfl⟩) d4_init_15 ⟨[.inr 2, .inr 0, .inr 0, .inr 0, .inr 0, .inr 0, .inr 0], by decide +kernel, by decide⟩ (S' := SS_5) (by decide +kernel) ?_
  refine mv_aload_n d4_init_18 rfl ?_
  refine mv_iconst (v := 0) d4_init_19 (by decide +kernel) ?_
  refine mv_putI fc_X4_20 d4_init_20 ⟨[.inl 2, .inr 0, .inr 0, .inr 0, .inr 0, .inr 0, .inr 0], by decide +kernel, by decide +kernel⟩ ?_
  refine mv_aload_n d4_init_23 rfl ?_
  refine mv_iconst (v := 0) d4_init_24 (by decide +kernel) ?_
  refine mv_putI fc_X4_24 d4_init_25 ⟨[.inl 2, .inr 0, .inr 0, .inr 0, .inr 0, .inr 0, .inr 0], by decide +kernel, by decide +kernel⟩ ?_
  refine mv_aload_n d4_init_28 rfl ?_
  refine mv_iconst (v := 0) d4_init_29 (by decide +kernel) ?_
  refine mv_putI fc_X4_27 d4_init_30 ⟨[.inl 2, .inr 0, .inr 0, .inr 0, .inr 0, .inr 0, .inr 0], by decide +kernel, by decide +kernel⟩ ?_
  refine mv_aload_n d4_init_33 rfl ?_
  refine mv_iconst (v := 0) d4_init_34 (by decide +kernel) ?_
  refine mv_putI fc_X4_30 d4_init_35 ⟨[.inl 2, .inr 0, .inr 0, .inr 0, .inr 0, .inr 0, .inr 0], by decide +kernel, by decide +kernel⟩ ?_
  refine mv_aload_n d4_init_38 rfl ?_
  refine mv_iconst (v := 0) d4_init_39 (by decide +kernel) ?_
  refine mv_putI fc_X4_33 d4_init_40 ⟨[.inl 2, .inr 0, .inr 0, .inr 0, .inr 0, .inr 0, .inr 0], by decide +kernel, by decide +kernel⟩ ?_
  refine mv_aload_n d4_init_43 rfl ?_
  refine mv_iconst (v := (-1)) d4_init_44 (by decide +kernel) ?_
  refine mv_putI fc_X4_36 d4_init_45 ⟨[.inl 2, .inr 0, .inr 0, .inr 0, .inr 0, .inr 0, .inr 0], by decide +kernel, by decide +kernel⟩ ?_
  exact mv_vret rfl d4_init_48 rfl rfl rfl rfl rfl
set_option maxHeartbeats 4000000 in
set_option maxRecDepth 100000 in
/-- ForgottenCrafts$Crafts -/
theorem kc_2 (l : Launch) : mm_K l M0_init SS_7 [.ref 4] II_1 JJ_0 SS_22 II_2 JJ_0 10 77 := by
  refine mm_Kenter rfl (by decide +kernel) rfl ?_
  refine mv_aload_n d0_init_0 rfl ?_
  refine mv_objInit ol_X0 ob_i ob_c d0_init_1 ⟨Nat.le_of_ble_eq_true rfl, Nat.le_of_ble_eq_true rfl⟩ ?_
  refine mv_aload_n d0_init_4 rfl ?_
  refine mv_new2 5 mm_Kmono (by decide +kernel) (by decide +kernel) rfl (by decide +kernel) nc_X0_9 (iz_1.mono (n2 := 5) rfl) (jz_0.mono (n2 := 5) rfl) d0_init_5 (Nat.le_of_ble_eq_true rfl) (Nat.le_of_ble_eq_true rfl) rfl rfl (S' := SS_8) (by decide +kernel) ?_
  refine mv_dup d0_init_8 rfl ?_
  refine mv_bipush (v := 6) d0_init_9 (by decide +kernel) ?_
  refine mv_callK mm_Kmono (by decide +kernel) (kRow l (q := 6) (n := 6) (S' := SS_9) (by decide +kernel) (by decide +kernel) (by decide +kernel) rfl (by decide +kernel) (iz_1.mono (n2 := 6) rfl) rfl (by decide +kernel)) li_X0_11 rfl d0_init_11 ⟨Nat.le_of_ble_eq_true rfl, Nat.le_of_ble_eq_true rfl, Nat.le_of_ble_eq_true rfl, Nat.le_of_ble_eq_true rfl⟩ (As := [.int 6]) rfl rfl (by decide +kernel) (by decide +kernel) ?_
  refine mv_putR2 fc_X0_14 (Or.inl ⟨_, rfl⟩) d0_init_14 ⟨[.inr 2, .inr 2, .inr 2, .inr 2, .inr 2, .inr 0, .inr 0], by decide +kernel, by decide⟩ (S' := SS_10) (by decide +kernel) ?_
  refine mv_aload_n d0_init_17 rfl ?_
  refine mv_new2 7 mm_Kmono (by decide +kernel) (by decide +kernel) rfl (by decide +kernel) nc_X0_9 (iz_1.mono (n2 := 7) rfl) (jz_0.mono (n2 := 7) rfl) d0_init_18 (Nat.le_of_ble_eq_true rfl) (Nat.le_of_ble_eq_true rfl) rfl rfl (S' := SS_11) (by decide +kernel) ?_
  refine mv_dup d0_init_21 rfl ?_
  refine mv_bipush (v := 6) d0_init_22 (by decide +kernel) ?_
  refine mv_callK mm_Kmono (by decide +kernel) (kRow l (q := 8) (n := 6) (S' := SS_12) (by decide +kernel) (by decide +kernel) (by decide +kernel) rfl (by decide +kernel) (iz_1.mono (n2 := 8) rfl) rfl (by decide +kernel)) li_X0_11 rfl d0_init_24 ⟨Nat.le_of_ble_eq_true rfl, Nat.le_of_ble_eq_true rfl, Nat.le_of_ble_eq_true rfl, Nat.le_of_ble_eq_true rfl⟩ (As := [.int 6]) rfl rfl (by decide +kernel) (by decide +kernel) ?_
  refine mv_putR2 fc_X0_20 (Or.inl ⟨_, rfl⟩) d0_init_27 ⟨[.inl 5, .inr 2, .inr 2, .inr 2, .inr 2, .inr 0, .inr 0], by decide +kernel, by decide⟩ (S' := SS_13) (by decide +kernel) ?_
  refine mv_aload_n d0_init_30 rfl ?_
  refine mv_new2 9 mm_Kmono (by decide +kernel) (by decide +kernel) rfl (by decide +kernel) nc_X0_9 (iz_1.mono (n2 := 9) rfl) (jz_0.mono (n2 := 9) rfl) d0_init_31 (Nat.le_of_ble_eq_true rfl) (Nat.le_of_ble_eq_true rfl) rfl rfl (S' := SS_14) (by decide +kernel) ?_
  refine mv_dup d0_init_34 rfl ?_
  refine mv_bipush (v := 6) d0_init_35 (by decide +kernel) ?_
  refine mv_callK mm_Kmono (by decide +kernel) (kRow l (q := 10) (n := 6) (S' := SS_15) (by decide +kernel) (by decide +kernel) (by decide +kernel) rfl (by decide +kernel) (iz_1.mono (n2 := 10) rfl) rfl (by decide +kernel)) li_X0_11 rfl d0_init_37 ⟨Nat.le_of_ble_eq_true rfl, Nat.le_of_ble_eq_true rfl, Nat.le_of_ble_eq_true rfl, Nat.le_of_ble_eq_true rfl⟩ (As := [.int 6]) rfl rfl (by decide +kernel) (by decide +kernel) ?_
  refine mv_putR2 fc_X0_23 (Or.inl ⟨_, rfl⟩) d0_init_40 ⟨[.inl 5, .inl 7, .inr 2, .inr 2, .inr 2, .inr 0, .inr 0], by decide +kernel, by decide⟩ (S' := SS_16) (by decide +kernel) ?_
  refine mv_aload_n d0_init_43 rfl ?_
  refine mv_new2 11 mm_Kmono (by decide +kernel) (by decide +kernel) rfl (by decide +kernel) nc_X0_9 (iz_1.mono (n2 := 11) rfl) (jz_0.mono (n2 := 11) rfl) d0_init_44 (Nat.le_of_ble_eq_true rfl) (Nat.le_of_ble_eq_true rfl) rfl rfl (S' := SS_17) (by decide +kernel) ?_
  refine mv_dup d0_init_47 rfl ?_
  refine mv_bipush (v := 6) d0_init_48 (by decide +kernel) ?_
  refine mv_callK mm_Kmono (by decide +kernel) (kRow l (q := 12) (n := 6) (S' := SS_18) (by decide +kernel) (by decide +kernel) (by decide +kernel) rfl (by decide +kernel) (iz_1.mono (n2 := 12) rfl) rfl (by decide +kernel)) li_X0_11 rfl d0_init_50 ⟨Nat.le_of_ble_eq_true rfl, Nat.le_of_ble_eq_true rfl, Nat.le_of_ble_eq_true rfl, Nat.le_of_ble_eq_true rfl⟩ (As := [.int 6]) rfl rfl (by decide +kernel) (by decide +kernel) ?_
  refine mv_putR2 fc_X0_26 (Or.inl ⟨_, rfl⟩) d0_init_53 ⟨[.inl 5, .inl 7, .inl 9, .inr 2, .inr 2, .inr 0, .inr 0], by decide +kernel, by decide⟩ (S' := SS_19) (by decide +kernel) ?_
  refine mv_aload_n d0_init_56 rfl ?_
  refine mv_new2 13 mm_Kmono (by decide +kernel) (by decide +kernel) rfl (by decide +kernel) nc_X0_9 (iz_1.mono (n2 := 13) rfl) (jz_0.mono (n2 := 13) rfl) d0_init_57 (Nat.le_of_ble_eq_true rfl) (Nat.le_of_ble_eq_true rfl) rfl rfl (S' := SS_20) (by decide +kernel) ?_
  refine mv_dup d0_init_60 rfl ?_
  refine mv_bipush (v := 48) d0_init_61 (by decide +kernel) ?_
  refine mv_callK mm_Kmono (by decide +kernel) (kRow l (q := 14) (n := 48) (S' := SS_21) (by decide +kernel) (by decide +kernel) (by decide +kernel) rfl (by decide +kernel) (iz_1.mono (n2 := 14) rfl) rfl (by decide +kernel)) li_X0_11 rfl d0_init_63 ⟨Nat.le_of_ble_eq_true rfl, Nat.le_of_ble_eq_true rfl, Nat.le_of_ble_eq_true rfl, Nat.le_of_ble_eq_true rfl⟩ (As := [.int 48]) rfl rfl (by decide +kernel) (by decide +kernel) ?_
  refine mv_putR2 fc_X0_29 (Or.inl ⟨_, rfl⟩) d0_init_66 ⟨[.inl 5, .inl 7, .inl 9, .inl 11, .inr 2, .inr 0, .inr 0], by decide +kernel, by decide⟩ (S' := SS_22) (by decide +kernel) ?_
  refine mv_aload_n d0_init_69 rfl ?_
  refine mv_iconst (v := 0) d0_init_70 (by decide +kernel) ?_
  refine mv_putI fc_X0_32 d0_init_71 ⟨[.inl 5, .inl 7, .inl 9, .inl 11, .inl 13, .inr 0, .inr 0], by decide +kernel, by decide +kernel⟩ ?_
  refine mv_aload_n d0_init_74 rfl ?_
  refine mv_iconst (v := 0) d0_init_75 (by decide +kernel) ?_
  refine mv_putI fc_X0_36 d0_init_76 ⟨[.inl 5, .inl 7, .inl 9, .inl 11, .inl 13, .inr 0, .inr 0], by decide +kernel, by decide +kernel⟩ ?_
  exact mv_vret rfl d0_init_79 rfl rfl rfl rfl rfl
set_option maxHeartbeats 4000000 in
set_option maxRecDepth 100000 in
/-- ForgottenCrafts$Crafts -/
theorem kc_3 (l : Launch) : mm_K l M0_init SS_24 [.ref 15] II_2 JJ_0 SS_39 II_3 JJ_0 10 77 := by
  refine mm_Kenter rfl (by decide +kernel) rfl ?_
  refine mv_aload_n d0_init_0 rfl ?_
  refine mv_objInit ol_X0 ob_i ob_c d0_init_1 ⟨Nat.le_of_ble_eq_true rfl, Nat.le_of_ble_eq_true rfl⟩ ?_
  refine mv_aload_n d0_init_4 rfl ?_
  refine mv_new2 16 mm_Kmono (by decide +kernel) (by decide +kernel) rfl (by decide +kernel) nc_X0_9 (iz_2.mono (n2 := 16) rfl) (jz_0.mono (n2 := 16) rfl) d0_init_5 (Nat.le_of_ble_eq_true rfl) (Nat.le_of_ble_eq_true rfl) rfl rfl (S' := SS_25) (by decide +kernel) ?_
  refine mv_dup d0_init_8 rfl ?_
  refine mv_bipush (v := 6) d0_init_9 (by decide +kernel) ?_
  refine mv_callK mm_Kmono (by decide +kernel) (kRow l (q := 17) (n := 6) (S' := SS_26) (by decide +kernel) (by decide +kernel) (by decide +kernel) rfl (by decide +kernel) (iz_2.mono (n2 := 17) rfl) rfl (by decide +kernel)) li_X0_11 rfl d0_init_11 ⟨Nat.le_of_ble_eq_true rfl, Nat.le_of_ble_eq_true rfl, Nat.le_of_ble_eq_true rfl, Nat.le_of_ble_eq_true rfl⟩ (As := [.int 6]) rfl rfl (by decide +kernel) (by decide +kernel) ?_
  refine mv_putR2 fc_X0_14 (Or.inl ⟨_, rfl⟩) d0_init_14 ⟨[.inr 2, .inr 2, .inr 2, .inr 2, .inr 2, .inr 0, .inr 0], by decide +kernel, by decide⟩ (S' := SS_27) (by decide +kernel) ?_
  refine mv_aload_n d0_init_17 rfl ?_
  refine mv_new2 18 mm_Kmono (by decide +kernel) (by decide +kernel) rfl (by decide +kernel) nc_X0_9 (iz_2.mono (n2 := 18) rfl) (jz_0.mono (n2 := 18) rfl) d0_init_18 (Nat.le_of_ble_eq_true rfl) (Nat.le_of_ble_eq_true rfl) rfl rfl (S' := SS_28) (by decide +kernel) ?_
  refine mv_dup d0_init_21 rfl ?_
  refine mv_bipush (v := 6) d0_init_22 (by decide +kernel) ?_
  refine mv_callK mm_Kmono (by decide +kernel) (kRow l (q := 19) (n := 6) (S' := SS_29) (by decide +kernel) (by decide +kernel) (by decide +kernel) rfl (by decide +kernel) (iz_2.mono (n2 := 19) rfl) rfl (by decide +kernel)) li_X0_11 rfl d0_init_24 ⟨Nat.le_of_ble_eq_true rfl, Nat.le_of_ble_eq_true rfl, Nat.le_of_ble_eq_true rfl, Nat.le_of_ble_eq_true rfl⟩ (As := [.int 6]) rfl rfl (by decide +kernel) (by decide +kernel) ?_
  refine mv_putR2 fc_X0_20 (Or.inl ⟨_, rfl⟩) d0_init_27 ⟨[.inl 16, .inr 2, .inr 2, .inr 2, .inr 2, .inr 0, .inr 0], by decide +kernel, by decide⟩ (S' := SS_30) (by decide +kernel) ?_
  refine mv_aload_n d0_init_30 rfl ?_
  refine mv_new2 20 mm_Kmono (by decide +kernel) (by decide +kernel) rfl (by decide +kernel) nc_X0_9 (iz_2.mono (n2 := 20) rfl) (jz_0.mono (n2 := 20) rfl) d0_init_31 (Nat.le_of_ble_eq_true rfl) (Nat.le_of_ble_eq_true rfl) rfl rfl (S' := SS_31) (by decide +kernel) ?_
  refine mv_dup d0_init_34 rfl ?_
  refine mv_bipush (v := 6) d0_init_35 (by decide +kernel) ?_
  refine mv_callK mm_Kmono (by decide +kernel) (kRow l (q := 21) (n := 6) (S' := SS_32) (by decide +kernel) (by decide +kernel) (by decide +kernel) rfl (by decide +kernel) (iz_2.mono (n2 := 21) rfl) rfl (by decide +kernel)) li_X0_11 rfl d0_init_37 ⟨Nat.le_of_ble_eq_true rfl, Nat.le_of_ble_eq_true rfl, Nat.le_of_ble_eq_true rfl, Nat.le_of_ble_eq_true rfl⟩ (As := [.int 6]) rfl rfl (by decide +kernel) (by decide +kernel) ?_
  refine mv_putR2 fc_X0_23 (Or.inl ⟨_, rfl⟩) d0_init_40 ⟨[.inl 16, .inl 18, .inr 2, .inr 2, .inr 2, .inr 0, .inr 0], by decide +kernel, by decide⟩ (S' := SS_33) (by decide +kernel) ?_
  refine mv_aload_n d0_init_43 rfl ?_
  refine mv_new2 22 mm_Kmono (by decide +kernel) (by decide +kernel) rfl (by decide +kernel) nc_X0_9 (iz_2.mono (n2 := 22) rfl) (jz_0.mono (n2 := 22) rfl) d0_init_44 (Nat.le_of_ble_eq_true rfl) (Nat.le_of_ble_eq_true rfl) rfl rfl (S' := SS_34) (by decide +kernel) ?_
  refine mv_dup d0_init_47 rfl ?_
  refine mv_bipush (v := 6) d0_init_48 (by decide +kernel) ?_
  refine mv_callK mm_Kmono (by decide +kernel) (kRow l (q := 23) (n := 6) (S' := SS_35) (by decide +kernel) (by decide +kernel) (by decide +kernel) rfl (by decide +kernel) (iz_2.mono (n2 := 23) rfl) rfl (by decide +kernel)) li_X0_11 rfl d0_init_50 ⟨Nat.le_of_ble_eq_true rfl, Nat.le_of_ble_eq_true rfl, Nat.le_of_ble_eq_true rfl, Nat.le_of_ble_eq_true rfl⟩ (As := [.int 6]) rfl rfl (by decide +kernel) (by decide +kernel) ?_
  refine mv_putR2 fc_X0_26 (Or.inl ⟨_, rfl⟩) d0_init_53 ⟨[.inl 16, .inl 18, .inl 20, .inr 2, .inr 2, .inr 0, .inr 0], by decide +kernel, by decide⟩ (S' := SS_36) (by decide +kernel) ?_
  refine mv_aload_n d0_init_56 rfl ?_
  refine mv_new2 24 mm_Kmono (by decide +kernel) (by decide +kernel) rfl (by decide +kernel) nc_X0_9 (iz_2.mono (n2 := 24) rfl) (jz_0.mono (n2 := 24) rfl) d0_init_57 (Nat.le_of_ble_eq_true rfl) (Nat.le_of_ble_eq_true rfl) rfl rfl (S' := SS_37) (by decide +kernel) ?_
  refine mv_dup d0_init_60 rfl ?_
  refine mv_bipush (v := 48) d0_init_61 (by decide +kernel) ?_
  refine mv_callK mm_Kmono (by decide +kernel) (kRow l (q := 25) (n := 48) (S' := SS_38) (by decide +kernel) (by decide +kernel) (by decide +kernel) rfl (by decide +kernel) (iz_2.mono (n2 := 25) rfl) rfl (by decide +kernel)) li_X0_11 rfl d0_init_63 ⟨Nat.le_of_ble_eq_true rfl, Nat.le_of_ble_eq_true rfl, Nat.le_of_ble_eq_true rfl, Nat.le_of_ble_eq_true rfl⟩ (As := [.int 48]) rfl rfl (by decide +kernel) (by decide +kernel) ?_
  refine mv_putR2 fc_X0_29 (Or.inl ⟨_, rfl⟩) d0_init_66 ⟨[.inl 16, .inl 18, .inl 20, .inl 22, .inr 2, .inr 0, .inr 0], by decide +kernel, by decide⟩ (S' := SS_39) (by decide +kernel) ?_
  refine mv_aload_n d0_init_69 rfl ?_
  refine mv_iconst (v := 0) d0_init_70 (by decide +kernel) ?_
  refine mv_putI fc_X0_32 d0_init_71 ⟨[.inl 16, .inl 18, .inl 20, .inl 22, .inl 24, .inr 0, .inr 0], by decide +kernel, by decide +kernel⟩ ?_
  refine mv_aload_n d0_init_74 rfl ?_
  refine mv_iconst (v := 0) d0_init_75 (by decide +kernel) ?_
  refine mv_putI fc_X0_36 d0_init_76 ⟨[.inl 16, .inl 18, .inl 20, .inl 22, .inl 24, .inr 0, .inr 0], by decide +kernel, by decide +kernel⟩ ?_
  exact mv_vret rfl d0_init_79 rfl rfl rfl rfl rfl
set_option maxHeartbeats 4000000 in
set_option maxRecDepth 100000 in
/-- ForgottenCrafts$Rules -/
theorem kc_4 (l : Launch) : mm_K l M7_init SS_41 [.ref 26] II_3 JJ_0 SS_41 II_4 JJ_4 0 0 := by
  refine mm_Kenter rfl (by decide +kernel) rfl ?_
  refine mv_aload_n d7_init_0 rfl ?_
  refine mv_objInit ol_X7 ob_i ob_c d7_init_1 ⟨Nat.le_of_ble_eq_true rfl, Nat.le_of_ble_eq_true rfl⟩ ?_
  refine mv_aload_n d7_init_4 rfl ?_
  refine mv_cVv (ci := 7) (As := []) (fs := [.inr 0, .inr 0, .inr 0, .inr 0, .inr 0, .inr 0, .inr 0]) (ok7_clear l wt_SS_41 ⟨[.inr 0, .inr 0, .inr 0, .inr 0, .inr 0, .inr 0, .inr 0], by decide +kernel, by decide +kernel⟩ ev_4) lk_X7_9 rfl d7_init_5 ⟨Nat.le_of_ble_eq_true rfl, Nat.le_of_ble_eq_true rfl, Nat.le_of_ble_eq_true rfl, Nat.le_of_ble_eq_true rfl⟩ rfl (by decide +kernel) rfl rfl ?_
  refine mv_cut 27 (by decide +kernel) ?_
  exact mv_vret rfl d7_init_8 rfl rfl rfl rfl rfl
set_option maxHeartbeats 4000000 in
set_option maxRecDepth 100000 in
/-- ForgottenCrafts$Rules -/
theorem kc_5 (l : Launch) : mm_K l M7_init SS_43 [.ref 27] II_4 JJ_4 SS_43 II_5 JJ_5 0 0 := by
  refine mm_Kenter rfl (by decide +kernel) rfl ?_
  refine mv_aload_n d7_init_0 rfl ?_
  refine mv_objInit ol_X7 ob_i ob_c d7_init_1 ⟨Nat.le_of_ble_eq_true rfl, Nat.le_of_ble_eq_true rfl⟩ ?_
  refine mv_aload_n d7_init_4 rfl ?_
  refine mv_cVv (ci := 7) (As := []) (fs := [.inr 0, .inr 0, .inr 0, .inr 0, .inr 0, .inr 0, .inr 0]) (ok7_clear l wt_SS_43 ⟨[.inr 0, .inr 0, .inr 0, .inr 0, .inr 0, .inr 0, .inr 0], by decide +kernel, by decide +kernel⟩ ev_5) lk_X7_9 rfl d7_init_5 ⟨Nat.le_of_ble_eq_true rfl, Nat.le_of_ble_eq_true rfl, Nat.le_of_ble_eq_true rfl, Nat.le_of_ble_eq_true rfl⟩ rfl (by decide +kernel) rfl rfl ?_
  refine mv_cut 28 (by decide +kernel) ?_
  exact mv_vret rfl d7_init_8 rfl rfl rfl rfl rfl
set_option maxHeartbeats 4000000 in
set_option maxRecDepth 100000 in
/-- ForgottenCrafts$Rules -/
theorem kc_6 (l : Launch) : mm_K l M7_init SS_45 [.ref 28] II_5 JJ_5 SS_45 II_6 JJ_6 0 0 := by
  refine mm_Kenter rfl (by decide +kernel) rfl ?_
  refine mv_aload_n d7_init_0 rfl ?_
  refine mv_objInit ol_X7 ob_i ob_c d7_init_1 ⟨Nat.le_of_ble_eq_true rfl, Nat.le_of_ble_eq_true rfl⟩ ?_
  refine mv_aload_n d7_init_4 rfl ?_
  refine mv_cVv (ci := 7) (As := []) (fs := [.inr 0, .inr 0, .inr 0, .inr 0, .inr 0, .inr 0, .inr 0]) (ok7_clear l wt_SS_45 ⟨[.inr 0, .inr 0, .inr 0, .inr 0, .inr 0, .inr 0, .inr 0], by decide +kernel, by decide +kernel⟩ ev_6) lk_X7_9 rfl d7_init_5 ⟨Nat.le_of_ble_eq_true rfl, Nat.le_of_ble_eq_true rfl, Nat.le_of_ble_eq_true rfl, Nat.le_of_ble_eq_true rfl⟩ rfl (by decide +kernel) rfl rfl ?_
  refine mv_cut 29 (by decide +kernel) ?_
  exact mv_vret rfl d7_init_8 rfl rfl rfl rfl rfl
set_option maxHeartbeats 4000000 in
set_option maxRecDepth 100000 in
/-- ForgottenCrafts$Folk -/
theorem kc_7 (l : Launch) : mm_K l M1_init SS_47 [.ref 29] II_6 JJ_6 SS_71 II_7 JJ_7 16 152 := by
  refine mm_Kenter rfl (by decide +kernel) rfl ?_
  refine mv_aload_n d1_init_0 rfl ?_
  refine mv_objInit ol_X1 ob_i ob_c d1_init_1 ⟨Nat.le_of_ble_eq_true rfl, Nat.le_of_ble_eq_true rfl⟩ ?_
  refine mv_aload_n d1_init_4 rfl ?_
  refine mv_new2 30 mm_Kmono (by decide +kernel) (by decide +kernel) rfl (by decide +kernel) nc_X1_9 (iz_6.mono (n2 := 30) rfl) (jz_6.mono (n2 := 30) rfl) d1_init_5 (Nat.le_of_ble_eq_true rfl) (Nat.le_of_ble_eq_true rfl) rfl rfl (S' := SS_48) (by decide +kernel) ?_
  refine mv_dup d1_init_8 rfl ?_
  refine mv_bipush (v := 8) d1_init_9 (by decide +kernel) ?_
  refine mv_callK mm_Kmono (by decide +kernel) (kRow l (q := 31) (n := 8) (S' := SS_49) (by decide +kernel) (by decide +kernel) (by decide +kernel) rfl (by decide +kernel) (iz_6.mono (n2 := 31) rfl) rfl (by decide +kernel)) li_X1_11 rfl d1_init_11 ⟨Nat.le_of_ble_eq_true rfl, Nat.le_of_ble_eq_true rfl, Nat.le_of_ble_eq_true rfl, Nat.le_of_ble_eq_true rfl⟩ (As := [.int 8]) rfl rfl (by decide +kernel) (by decide +kernel) ?_
  refine mv_putR2 fc_X1_14 (Or.inl ⟨_, rfl⟩) d1_init_14 ⟨[.inr 2, .inr 2, .inr 2, .inr 2, .inr 2, .inr 2, .inr 2, .inr 2, .inr 0, .inr 0, .inr 0, .inr 0, .inr 0], by decide +kernel, by decide⟩ (S' := SS_50) (by decide +kernel) ?_
  refine mv_aload_n d1_init_17 rfl ?_
  refine mv_new2 32 mm_Kmono (by decide +kernel) (by decide +kernel) rfl (by decide +kernel) nc_X1_9 (iz_6.mono (n2 := 32) rfl) (jz_6.mono (n2 := 32) rfl) d1_init_18 (Nat.le_of_ble_eq_true rfl) (Nat.le_of_ble_eq_true rfl) rfl rfl (S' := SS_51) (by decide +kernel) ?_
  refine mv_dup d1_init_21 rfl ?_
  refine mv_bipush (v := 48) d1_init_22 (by decide +kernel) ?_
  refine mv_callK mm_Kmono (by decide +kernel) (kRow l (q := 33) (n := 48) (S' := SS_52) (by decide +kernel) (by decide +kernel) (by decide +kernel) rfl (by decide +kernel) (iz_6.mono (n2 := 33) rfl) rfl (by decide +kernel)) li_X1_11 rfl d1_init_24 ⟨Nat.le_of_ble_eq_true rfl, Nat.le_of_ble_eq_true rfl, Nat.le_of_ble_eq_true rfl, Nat.le_of_ble_eq_true rfl⟩ (As := [.int 48]) rfl rfl (by decide +kernel) (by decide +kernel) ?_
  refine mv_putR2 fc_X1_20 (Or.inl ⟨_, rfl⟩) d1_init_27 ⟨[.inl 30, .inr 2, .inr 2, .inr 2, .inr 2, .inr 2, .inr 2, .inr 2, .inr 0, .inr 0, .inr 0, .inr 0, .inr 0], by decide +kernel, by decide⟩ (S' := SS_53) (by decide +kernel) ?_
  refine mv_aload_n d1_init_30 rfl ?_
  refine mv_new2 34 mm_Kmono (by decide +kernel) (by decide +kernel) rfl (by decide +kernel) nc_X1_9 (iz_6.mono (n2 := 34) rfl) (jz_6.mono (n2 := 34) rfl) d1_init_31 (Nat.le_of_ble_eq_true rfl) (Nat.le_of_ble_eq_true rfl) rfl rfl (S' := SS_54) (by decide +kernel) ?_
  refine mv_dup d1_init_34 rfl ?_
  refine mv_bipush (v := 48) d1_init_35 (by decide +kernel) ?_
  refine mv_callK mm_Kmono (by decide +kernel) (kRow l (q := 35) (n := 48) (S' := SS_55) (by decide +kernel) (by decide +kernel) (by decide +kernel) rfl (by decide +kernel) (iz_6.mono (n2 := 35) rfl) rfl (by decide +kernel)) li_X1_11 rfl d1_init_37 ⟨Nat.le_of_ble_eq_true rfl, Nat.le_of_ble_eq_true rfl, Nat.le_of_ble_eq_true rfl, Nat.le_of_ble_eq_true rfl⟩ (As := [.int 48]) rfl rfl (by decide +kernel) (by decide +kernel) ?_
  refine mv_putR2 fc_X1_23 (Or.inl ⟨_, rfl⟩) d1_init_40 ⟨[.inl 30, .inl 32, .inr 2, .inr 2, .inr 2, .inr 2, .inr 2, .inr 2, .inr 0, .inr 0, .inr 0, .inr 0, .inr 0], by decide +kernel, by decide⟩ (S' := SS_56) (by decide +kernel) ?_
  refine mv_aload_n d1_init_43 rfl ?_
  refine mv_new2 36 mm_Kmono (by decide +kernel) (by decide +kernel) rfl (by decide +kernel) nc_X1_9 (iz_6.mono (n2 := 36) rfl) (jz_6.mono (n2 := 36) rfl) d1_init_44 (Nat.le_of_ble_eq_true rfl) (Nat.le_of_ble_eq_true rfl) rfl rfl (S' := SS_57) (by decide +kernel) ?_
  refine mv_dup d1_init_47 rfl ?_
  refine mv_bipush (v := 8) d1_init_48 (by decide +kernel) ?_
  refine mv_callK mm_Kmono (by decide +kernel) (kRow l (q := 37) (n := 8) (S' := SS_58) (by decide +kernel) (by decide +kernel) (by decide +kernel) rfl (by decide +kernel) (iz_6.mono (n2 := 37) rfl) rfl (by decide +kernel)) li_X1_11 rfl d1_init_50 ⟨Nat.le_of_ble_eq_true rfl, Nat.le_of_ble_eq_true rfl, Nat.le_of_ble_eq_true rfl, Nat.le_of_ble_eq_true rfl⟩ (As := [.int 8]) rfl rfl (by decide +kernel) (by decide +kernel) ?_
  refine mv_putR2 fc_X1_26 (Or.inl ⟨_, rfl⟩) d1_init_53 ⟨[.inl 30, .inl 32, .inl 34, .inr 2, .inr 2, .inr 2, .inr 2, .inr 2, .inr 0, .inr 0, .inr 0, .inr 0, .inr 0], by decide +kernel, by decide⟩ (S' := SS_59) (by decide +kernel) ?_
  refine mv_aload_n d1_init_56 rfl ?_
  refine mv_new2 38 mm_Kmono (by decide +kernel) (by decide +kernel) rfl (by decide +kernel) nc_X1_9 (iz_6.mono (n2 := 38) rfl) (jz_6.mono (n2 := 38) rfl) d1_init_57 (Nat.le_of_ble_eq_true rfl) (Nat.le_of_ble_eq_true rfl) rfl rfl (S' := SS_60) (by decide +kernel) ?_
  refine mv_dup d1_init_60 rfl ?_
  refine mv_bipush (v := 8) d1_init_61 (by decide +kernel) ?_
  refine mv_callK mm_Kmono (by decide +kernel) (kRow l (q := 39) (n := 8) (S' := SS_61) (by decide +kernel) (by decide +kernel) (by decide +kernel) rfl (by decide +kernel) (iz_6.mono (n2 := 39) rfl) rfl (by decide +kernel)) li_X1_11 rfl d1_init_63 ⟨Nat.le_of_ble_eq_true rfl, Nat.le_of_ble_eq_true rfl, Nat.le_of_ble_eq_true rfl, Nat.le_of_ble_eq_true rfl⟩ (As := [.int 8]) rfl rfl (by decide +kernel) (by decide +kernel) ?_
  refine mv_putR2 fc_X1_29 (Or.inl ⟨_, rfl⟩) d1_init_66 ⟨[.inl 30, .inl 32, .inl 34, .inl 36, .inr 2, .inr 2, .inr 2, .inr 2, .inr 0, .inr 0, .inr 0, .inr 0, .inr 0], by decide +kernel, by decide⟩ (S' := SS_62) (by decide +kernel) ?_
  refine mv_aload_n d1_init_69 rfl ?_
  refine mv_new2 40 mm_Kmono (by decide +kernel) (by decide +kernel) rfl (by decide +kernel) nc_X1_9 (iz_6.mono (n2 := 40) rfl) (jz_6.mono (n2 := 40) rfl) d1_init_70 (Nat.le_of_ble_eq_true rfl) (Nat.le_of_ble_eq_true rfl) rfl rfl (S' := SS_63) (by decide +kernel) ?_
  refine mv_dup d1_init_73 rfl ?_
  refine mv_bipush (v := 8) d1_init_74 (by decide +kernel) ?_
  refine mv_callK mm_Kmono (by decide +kernel) (kRow l (q := 41) (n := 8) (S' := SS_64) (by decide +kernel) (by decide +kernel) (by decide +kernel) rfl (by decide +kernel) (iz_6.mono (n2 := 41) rfl) rfl (by decide +kernel)) li_X1_11 rfl d1_init_76 ⟨Nat.le_of_ble_eq_true rfl, Nat.le_of_ble_eq_true rfl, Nat.le_of_ble_eq_true rfl, Nat.le_of_ble_eq_true rfl⟩ (As := [.int 8]) rfl rfl (by decide +kernel) (by decide +kernel) ?_
  refine mv_putR2 fc_X1_32 (Or.inl ⟨_, rfl⟩) d1_init_79 ⟨[.inl 30, .inl 32, .inl 34, .inl 36, .inl 38, .inr 2, .inr 2, .inr 2, .inr 0, .inr 0, .inr 0, .inr 0, .inr 0], by decide +kernel, by decide⟩ (S' := SS_65) (by decide +kernel) ?_
  refine mv_aload_n d1_init_82 rfl ?_
  refine mv_new2 42 mm_Kmono (by decide +kernel) (by decide +kernel) rfl (by decide +kernel) nc_X1_9 (iz_6.mono (n2 := 42) rfl) (jz_6.mono (n2 := 42) rfl) d1_init_83 (Nat.le_of_ble_eq_true rfl) (Nat.le_of_ble_eq_true rfl) rfl rfl (S' := SS_66) (by decide +kernel) ?_
  refine mv_dup d1_init_86 rfl ?_
  refine mv_bipush (v := 8) d1_init_87 (by decide +kernel) ?_
  refine mv_callK mm_Kmono (by decide +kernel) (kRow l (q := 43) (n := 8) (S' := SS_67) (by decide +kernel) (by decide +kernel) (by decide +kernel) rfl (by decide +kernel) (iz_6.mono (n2 := 43) rfl) rfl (by decide +kernel)) li_X1_11 rfl d1_init_89 ⟨Nat.le_of_ble_eq_true rfl, Nat.le_of_ble_eq_true rfl, Nat.le_of_ble_eq_true rfl, Nat.le_of_ble_eq_true rfl⟩ (As := [.int 8]) rfl rfl (by decide +kernel) (by decide +kernel) ?_
  refine mv_putR2 fc_X1_35 (Or.inl ⟨_, rfl⟩) d1_init_92 ⟨[.inl 30, .inl 32, .inl 34, .inl 36, .inl 38, .inl 40, .inr 2, .inr 2, .inr 0, .inr 0, .inr 0, .inr 0, .inr 0], by decide +kernel, by decide⟩ (S' := SS_68) (by decide +kernel) ?_
  refine mv_aload_n d1_init_95 rfl ?_
  refine mv_new2 44 mm_Kmono (by decide +kernel) (by decide +kernel) rfl (by decide +kernel) nc_X1_9 (iz_6.mono (n2 := 44) rfl) (jz_6.mono (n2 := 44) rfl) d1_init_96 (Nat.le_of_ble_eq_true rfl) (Nat.le_of_ble_eq_true rfl) rfl rfl (S' := SS_69) (by decide +kernel) ?_
  refine mv_dup d1_init_99 rfl ?_
  refine mv_bipush (v := 8) d1_init_100 (by decide +kernel) ?_
  refine mv_callK mm_Kmono (by decide +kernel) (kRow l (q := 45) (n := 8) (S' := SS_70) (by decide +kernel) (by decide +kernel) (by decide +kernel) rfl (by decide +kernel) (iz_6.mono (n2 := 45) rfl) rfl (by decide +kernel)) li_X1_11 rfl d1_init_102 ⟨Nat.le_of_ble_eq_true rfl, Nat.le_of_ble_eq_true rfl, Nat.le_of_ble_eq_true rfl, Nat.le_of_ble_eq_true rfl⟩ (As := [.int 8]) rfl rfl (by decide +kernel) (by decide +kernel) ?_
  refine mv_putR2 fc_X1_38 (Or.inl ⟨_, rfl⟩) d1_init_105 ⟨[.inl 30, .inl 32, .inl 34, .inl 36, .inl 38, .inl 40, .inl 42, .inr 2, .inr 0, .inr 0, .inr 0, .inr 0, .inr 0], by decide +kernel, by decide⟩ (S' := SS_71) (by decide +kernel) ?_
  refine mv_aload_n d1_init_108 rfl ?_
  refine mv_cVv (ci := 1) (As := []) (fs := [.inl 30, .inl 32, .inl 34, .inl 36, .inl 38, .inl 40, .inl 42, .inl 44, .inr 0, .inr 0, .inr 0, .inr 0, .inr 0]) (ok1_clear l wt_SS_71 ⟨[.inl 30, .inl 32, .inl 34, .inl 36, .inl 38, .inl 40, .inl 42, .inl 44, .inr 0, .inr 0, .inr 0, .inr 0, .inr 0], by decide +kernel, by decide +kernel⟩ ev_7) lk_X1_41 rfl d1_init_109 ⟨Nat.le_of_ble_eq_true rfl, Nat.le_of_ble_eq_true rfl, Nat.le_of_ble_eq_true rfl, Nat.le_of_ble_eq_true rfl⟩ rfl (by decide +kernel) rfl rfl ?_
  refine mv_cut 46 (by decide +kernel) ?_
  exact mv_vret rfl d1_init_112 rfl rfl rfl rfl rfl
set_option maxHeartbeats 4000000 in
set_option maxRecDepth 100000 in
/-- ForgottenCrafts$Folk -/
theorem kc_8 (l : Launch) : mm_K l M1_init SS_73 [.ref 46] II_7 JJ_7 SS_97 II_8 JJ_8 16 152 := by
  refine mm_Kenter rfl (by decide +kernel) rfl ?_
  refine mv_aload_n d1_init_0 rfl ?_
  refine mv_objInit ol_X1 ob_i ob_c d1_init_1 ⟨Nat.le_of_ble_eq_true rfl, Nat.le_of_ble_eq_true rfl⟩ ?_
  refine mv_aload_n d1_init_4 rfl ?_
  refine mv_new2 47 mm_Kmono (by decide +kernel) (by decide +kernel) rfl (by decide +kernel) nc_X1_9 (iz_7.mono (n2 := 47) rfl) (jz_7.mono (n2 := 47) rfl) d1_init_5 (Nat.le_of_ble_eq_true rfl) (Nat.le_of_ble_eq_true rfl) rfl rfl (S' := SS_74) (by decide +kernel) ?_
  refine mv_dup d1_init_8 rfl ?_
  refine mv_bipush (v := 8) d1_init_9 (by decide +kernel) ?_
  refine mv_callK mm_Kmono (by decide +kernel) (kRow l (q := 48) (n := 8) (S' := SS_75) (by decide +kernel) (by decide +kernel) (by decide +kernel) rfl (by decide +kernel) (iz_7.mono (n2 := 48) rfl) rfl (by decide +kernel)) li_X1_11 rfl d1_init_11 ⟨Nat.le_of_ble_eq_true rfl, Nat.le_of_ble_eq_true rfl, Nat.le_of_ble_eq_true rfl, Nat.le_of_ble_eq_true rfl⟩ (As := [.int 8]) rfl rfl (by decide +kernel) (by decide +kernel) ?_
  refine mv_putR2 fc_X1_14 (Or.inl ⟨_, rfl⟩) d1_init_14 ⟨[.inr 2, .inr 2, .inr 2, .inr 2, .inr 2, .inr 2, .inr 2, .inr 2, .inr 0, .inr 0, .inr 0, .inr 0, .inr 0], by decide +kernel, by decide⟩ (S' := SS_76) (by decide +kernel) ?_
  refine mv_aload_n d1_init_17 rfl ?_
  refine mv_new2 49 mm_Kmono (by decide +kernel) (by decide +kernel) rfl (by decide +kernel) nc_X1_9 (iz_7.mono (n2 := 49) rfl) (jz_7.mono (n2 := 49) rfl) d1_init_18 (Nat.le_of_ble_eq_true rfl) (Nat.le_of_ble_eq_true rfl) rfl rfl (S' := SS_77) (by decide +kernel) ?_
  refine mv_dup d1_init_21 rfl ?_
  refine mv_bipush (v := 48) d1_init_22 (by decide +kernel) ?_
  refine mv_callK mm_Kmono (by decide +kernel) (kRow l (q := 50) (n := 48) (S' := SS_78) (by decide +kernel) (by decide +kernel) (by decide +kernel) rfl (by decide +kernel) (iz_7.mono (n2 := 50) rfl) rfl (by decide +kernel)) li_X1_11 rfl d1_init_24 ⟨Nat.le_of_ble_eq_true rfl, Nat.le_of_ble_eq_true rfl, Nat.le_of_ble_eq_true rfl, Nat.le_of_ble_eq_true rfl⟩ (As := [.int 48]) rfl rfl (by decide +kernel) (by decide +kernel) ?_
  refine mv_putR2 fc_X1_20 (Or.inl ⟨_, rfl⟩) d1_init_27 ⟨[.inl 47, .inr 2, .inr 2, .inr 2, .inr 2, .inr 2, .inr 2, .inr 2, .inr 0, .inr 0, .inr 0, .inr 0, .inr 0], by decide +kernel, by decide⟩ (S' := SS_79) (by decide +kernel) ?_
  refine mv_aload_n d1_init_30 rfl ?_
  refine mv_new2 51 mm_Kmono (by decide +kernel) (by decide +kernel) rfl (by decide +kernel) nc_X1_9 (iz_7.mono (n2 := 51) rfl) (jz_7.mono (n2 := 51) rfl) d1_init_31 (Nat.le_of_ble_eq_true rfl) (Nat.le_of_ble_eq_true rfl) rfl rfl (S' := SS_80) (by decide +kernel) ?_
  refine mv_dup d1_init_34 rfl ?_
  refine mv_bipush (v := 48) d1_init_35 (by decide +kernel) ?_
  refine mv_callK mm_Kmono (by decide +kernel) (kRow l (q := 52) (n := 48) (S' := SS_81) (by decide +kernel) (by decide +kernel) (by decide +kernel) rfl (by decide +kernel) (iz_7.mono (n2 := 52) rfl) rfl (by decide +kernel)) li_X1_11 rfl d1_init_37 ⟨Nat.le_of_ble_eq_true rfl, Nat.le_of_ble_eq_true rfl, Nat.le_of_ble_eq_true rfl, Nat.le_of_ble_eq_true rfl⟩ (As := [.int 48]) rfl rfl (by decide +kernel) (by decide +kernel) ?_
  refine mv_putR2 fc_X1_23 (Or.inl ⟨_, rfl⟩) d1_init_40 ⟨[.inl 47, .inl 49, .inr 2, .inr 2, .inr 2, .inr 2, .inr 2, .inr 2, .inr 0, .inr 0, .inr 0, .inr 0, .inr 0], by decide +kernel, by decide⟩ (S' := SS_82) (by decide +kernel) ?_
  refine mv_aload_n d1_init_43 rfl ?_
  refine mv_new2 53 mm_Kmono (by decide +kernel) (by decide +kernel) rfl (by decide +kernel) nc_X1_9 (iz_7.mono (n2 := 53) rfl) (jz_7.mono (n2 := 53) rfl) d1_init_44 (Nat.le_of_ble_eq_true rfl) (Nat.le_of_ble_eq_true rfl) rfl rfl (S' := SS_83) (by decide +kernel) ?_
  refine mv_dup d1_init_47 rfl ?_
  refine mv_bipush (v := 8) d1_init_48 (by decide +kernel) ?_
  refine mv_callK mm_Kmono (by decide +kernel) (kRow l (q := 54) (n := 8) (S' := SS_84) (by decide +kernel) (by decide +kernel) (by decide +kernel) rfl (by decide +kernel) (iz_7.mono (n2 := 54) rfl) rfl (by decide +kernel)) li_X1_11 rfl d1_init_50 ⟨Nat.le_of_ble_eq_true rfl, Nat.le_of_ble_eq_true rfl, Nat.le_of_ble_eq_true rfl, Nat.le_of_ble_eq_true rfl⟩ (As := [.int 8]) rfl rfl (by decide +kernel) (by decide +kernel) ?_
  refine mv_putR2 fc_X1_26 (Or.inl ⟨_, rfl⟩) d1_init_53 ⟨[.inl 47, .inl 49, .inl 51, .inr 2, .inr 2, .inr 2, .inr 2, .inr 2, .inr 0, .inr 0, .inr 0, .inr 0, .inr 0], by decide +kernel, by decide⟩ (S' := SS_85) (by decide +kernel) ?_
  refine mv_aload_n d1_init_56 rfl ?_
  refine mv_new2 55 mm_Kmono (by decide +kernel) (by decide +kernel) rfl (by decide +kernel) nc_X1_9 (iz_7.mono (n2 := 55) rfl) (jz_7.mono (n2 := 55) rfl) d1_init_57 (Nat.le_of_ble_eq_true rfl) (Nat.le_of_ble_eq_true rfl) rfl rfl (S' := SS_86) (by decide +kernel) ?_
  refine mv_dup d1_init_60 rfl ?_
  refine mv_bipush (v := 8) d1_init_61 (by decide +kernel) ?_
  refine mv_callK mm_Kmono (by decide +kernel) (kRow l (q := 56) (n := 8) (S' := SS_87) (by decide +kernel) (by decide +kernel) (by decide +kernel) rfl (by decide +kernel) (iz_7.mono (n2 := 56) rfl) rfl (by decide +kernel)) li_X1_11 rfl d1_init_63 ⟨Nat.le_of_ble_eq_true rfl, Nat.le_of_ble_eq_true rfl, Nat.le_of_ble_eq_true rfl, Nat.le_of_ble_eq_true rfl⟩ (As := [.int 8]) rfl rfl (by decide +kernel) (by decide +kernel) ?_
  refine mv_putR2 fc_X1_29 (Or.inl ⟨_, rfl⟩) d1_init_66 ⟨[.inl 47, .inl 49, .inl 51, .inl 53, .inr 2, .inr 2, .inr 2, .inr 2, .inr 0, .inr 0, .inr 0, .inr 0, .inr 0], by decide +kernel, by decide⟩ (S' := SS_88) (by decide +kernel) ?_
  refine mv_aload_n d1_init_69 rfl ?_
  refine mv_new2 57 mm_Kmono (by decide +kernel) (by decide +kernel) rfl (by decide +kernel) nc_X1_9 (iz_7.mono (n2 := 57) rfl) (jz_7.mono (n2 := 57) rfl) d1_init_70 (Nat.le_of_ble_eq_true rfl) (Nat.le_of_ble_eq_true rfl) rfl rfl (S' := SS_89) (by decide +kernel) ?_
  refine mv_dup d1_init_73 rfl ?_
  refine mv_bipush (v := 8) d1_init_74 (by decide +kernel) ?_
  refine mv_callK mm_Kmono (by decide +kernel) (kRow l (q := 58) (n := 8) (S' := SS_90) (by decide +kernel) (by decide +kernel) (by decide +kernel) rfl (by decide +kernel) (iz_7.mono (n2 := 58) rfl) rfl (by decide +kernel)) li_X1_11 rfl d1_init_76 ⟨Nat.le_of_ble_eq_true rfl, Nat.le_of_ble_eq_true rfl, Nat.le_of_ble_eq_true rfl, Nat.le_of_ble_eq_true rfl⟩ (As := [.int 8]) rfl rfl (by decide +kernel) (by decide +kernel) ?_
  refine mv_putR2 fc_X1_32 (Or.inl ⟨_, rfl⟩) d1_init_79 ⟨[.inl 47, .inl 49, .inl 51, .inl 53, .inl 55, .inr 2, .inr 2, .inr 2, .inr 0, .inr 0, .inr 0, .inr 0, .inr 0], by decide +kernel, by decide⟩ (S' := SS_91) (by decide +kernel) ?_
  refine mv_aload_n d1_init_82 rfl ?_
  refine mv_new2 59 mm_Kmono (by decide +kernel) (by decide +kernel) rfl (by decide +kernel) nc_X1_9 (iz_7.mono (n2 := 59) rfl) (jz_7.mono (n2 := 59) rfl) d1_init_83 (Nat.le_of_ble_eq_true rfl) (Nat.le_of_ble_eq_true rfl) rfl rfl (S' := SS_92) (by decide +kernel) ?_
  refine mv_dup d1_init_86 rfl ?_
  refine mv_bipush (v := 8) d1_init_87 (by decide +kernel) ?_
  refine mv_callK mm_Kmono (by decide +kernel) (kRow l (q := 60) (n := 8) (S' := SS_93) (by decide +kernel) (by decide +kernel) (by decide +kernel) rfl (by decide +kernel) (iz_7.mono (n2 := 60) rfl) rfl (by decide +kernel)) li_X1_11 rfl d1_init_89 ⟨Nat.le_of_ble_eq_true rfl, Nat.le_of_ble_eq_true rfl, Nat.le_of_ble_eq_true rfl, Nat.le_of_ble_eq_true rfl⟩ (As := [.int 8]) rfl rfl (by decide +kernel) (by decide +kernel) ?_
  refine mv_putR2 fc_X1_35 (Or.inl ⟨_, rfl⟩) d1_init_92 ⟨[.inl 47, .inl 49, .inl 51, .inl 53, .inl 55, .inl 57, .inr 2, .inr 2, .inr 0, .inr 0, .inr 0, .inr 0, .inr 0], by decide +kernel, by decide⟩ (S' := SS_94) (by decide +kernel) ?_
  refine mv_aload_n d1_init_95 rfl ?_
  refine mv_new2 61 mm_Kmono (by decide +kernel) (by decide +kernel) rfl (by decide +kernel) nc_X1_9 (iz_7.mono (n2 := 61) rfl) (jz_7.mono (n2 := 61) rfl) d1_init_96 (Nat.le_of_ble_eq_true rfl) (Nat.le_of_ble_eq_true rfl) rfl rfl (S' := SS_95) (by decide +kernel) ?_
  refine mv_dup d1_init_99 rfl ?_
  refine mv_bipush (v := 8) d1_init_100 (by decide +kernel) ?_
  refine mv_callK mm_Kmono (by decide +kernel) (kRow l (q := 62) (n := 8) (S' := SS_96) (by decide +kernel) (by decide +kernel) (by decide +kernel) rfl (by decide +kernel) (iz_7.mono (n2 := 62) rfl) rfl (by decide +kernel)) li_X1_11 rfl d1_init_102 ⟨Nat.le_of_ble_eq_true rfl, Nat.le_of_ble_eq_true rfl, Nat.le_of_ble_eq_true rfl, Nat.le_of_ble_eq_true rfl⟩ (As := [.int 8]) rfl rfl (by decide +kernel) (by decide +kernel) ?_
  refine mv_putR2 fc_X1_38 (Or.inl ⟨_, rfl⟩) d1_init_105 ⟨[.inl 47, .inl 49, .inl 51, .inl 53, .inl 55, .inl 57, .inl 59, .inr 2, .inr 0, .inr 0, .inr 0, .inr 0, .inr 0], by decide +kernel, by decide⟩ (S' := SS_97) (by decide +kernel) ?_
  refine mv_aload_n d1_init_108 rfl ?_
  refine mv_cVv (ci := 1) (As := []) (fs := [.inl 47, .inl 49, .inl 51, .inl 53, .inl 55, .inl 57, .inl 59, .inl 61, .inr 0, .inr 0, .inr 0, .inr 0, .inr 0]) (ok1_clear l wt_SS_97 ⟨[.inl 47, .inl 49, .inl 51, .inl 53, .inl 55, .inl 57, .inl 59, .inl 61, .inr 0, .inr 0, .inr 0, .inr 0, .inr 0], by decide +kernel, by decide +kernel⟩ ev_8) lk_X1_41 rfl d1_init_109 ⟨Nat.le_of_ble_eq_true rfl, Nat.le_of_ble_eq_true rfl, Nat.le_of_ble_eq_true rfl, Nat.le_of_ble_eq_true rfl⟩ rfl (by decide +kernel) rfl rfl ?_
  refine mv_cut 63 (by decide +kernel) ?_
  exact mv_vret rfl d1_init_112 rfl rfl rfl rfl rfl
set_option maxHeartbeats 4000000 in
set_option maxRecDepth 100000 in
/-- ForgottenCrafts$Folk -/
theorem kc_9 (l : Launch) : mm_K l M1_init SS_99 [.ref 63] II_8 JJ_8 SS_123 II_9 JJ_9 16 152 := by
  refine mm_Kenter rfl (by decide +kernel) rfl ?_
  refine mv_aload_n d1_init_0 rfl ?_
  refine mv_objInit ol_X1 ob_i ob_c d1_init_1 ⟨Nat.le_of_ble_eq_true rfl, Nat.le_of_ble_eq_true rfl⟩ ?_
  refine mv_aload_n d1_init_4 rfl ?_
  refine mv_new2 64 mm_Kmono (by decide +kernel) (by decide +kernel) rfl (by decide +kernel) nc_X1_9 (iz_8.mono (n2 := 64) rfl) (jz_8.mono (n2 := 64) rfl) d1_init_5 (Nat.le_of_ble_eq_true rfl) (Nat.le_of_ble_eq_true rfl) rfl rfl (S' := SS_100) (by decide +kernel) ?_
  refine mv_dup d1_init_8 rfl ?_
  refine mv_bipush (v := 8) d1_init_9 (by decide +kernel) ?_
  refine mv_callK mm_Kmono (by decide +kernel) (kRow l (q := 65) (n := 8) (S' := SS_101) (by decide +kernel) (by decide +kernel) (by decide +kernel) rfl (by decide +kernel) (iz_8.mono (n2 := 65) rfl) rfl (by decide +kernel)) li_X1_11 rfl d1_init_11 ⟨Nat.le_of_ble_eq_true rfl, Nat.le_of_ble_eq_true rfl, Nat.le_of_ble_eq_true rfl, Nat.le_of_ble_eq_true rfl⟩ (As := [.int 8]) rfl rfl (by decide +kernel) (by decide +kernel) ?_
  refine mv_putR2 fc_X1_14 (Or.inl ⟨_, rfl⟩) d1_init_14 ⟨[.inr 2, .inr 2, .inr 2, .inr 2, .inr 2, .inr 2, .inr 2, .inr 2, .inr 0, .inr 0, .inr 0, .inr 0, .inr 0], by decide +kernel, by decide⟩ (S' := SS_102) (by decide +kernel) ?_
  refine mv_aload_n d1_init_17 rfl ?_
  refine mv_new2 66 mm_Kmono (by decide +kernel) (by decide +kernel) rfl (by decide +kernel) nc_X1_9 (iz_8.mono (n2 := 66) rfl) (jz_8.mono (n2 := 66) rfl) d1_init_18 (Nat.le_of_ble_eq_true rfl) (Nat.le_of_ble_eq_true rfl) rfl rfl (S' := SS_103) (by decide +kernel) ?_
  refine mv_dup d1_init_21 rfl ?_
  refine mv_bipush (v := 48) d1_init_22 (by decide +kernel) ?_
  refine mv_callK mm_Kmono (by decide +kernel) (kRow l (q := 67) (n := 48) (S' := SS_104) (by decide +kernel) (by decide +kernel) (by decide +kernel) rfl (by decide +kernel) (iz_8.mono (n2 := 67) rfl) rfl (by decide +kernel)) li_X1_11 rfl d1_init_24 ⟨Nat.le_of_ble_eq_true rfl, Nat.le_of_ble_eq_true rfl, Nat.le_of_ble_eq_true rfl, Nat.le_of_ble_eq_true rfl⟩ (As := [.int 48]) rfl rfl (by decide +kernel) (by decide +kernel) ?_
  refine mv_putR2 fc_X1_20 (Or.inl ⟨_, rfl⟩) d1_init_27 ⟨[.inl 64, .inr 2, .inr 2, .inr 2, .inr 2, .inr 2, .inr 2, .inr 2, .inr 0, .inr 0, .inr 0, .inr 0, .inr 0], by decide +kernel, by decide⟩ (S' := SS_105) (by decide +kernel) ?_
  refine mv_aload_n d1_init_30 rfl ?_
  refine mv_new2 68 mm_Kmono (by decide +kernel) (by decide +kernel) rfl (by decide +kernel) nc_X1_9 (iz_8.mono (n2 := 68) rfl) (jz_8.mono (n2 := 68) rfl) d1_init_31 (Nat.le_of_ble_eq_true rfl) (Nat.le_of_ble_eq_true rfl) rfl rfl (S' := SS_106) (by decide +kernel) ?_
  refine mv_dup d1_init_34 rfl ?_
  refine mv_bipush (v := 48) d1_init_35 (by decide +kernel) ?_
  refine mv_callK mm_Kmono (by decide +kernel) (kRow l (q := 69) (n := 48) (S' := SS_107) (by decide +kernel) (by decide +kernel) (by decide +kernel) rfl (by decide +kernel) (iz_8.mono (n2 := 69) rfl) rfl (by decide +kernel)) li_X1_11 rfl d1_init_37 ⟨Nat.le_of_ble_eq_true rfl, Nat.le_of_ble_eq_true rfl, Nat.le_of_ble_eq_true rfl, Nat.le_of_ble_eq_true rfl⟩ (As := [.int 48]) rfl rfl (by decide +kernel) (by decide +kernel) ?_
  refine mv_putR2 fc_X1_23 (Or.inl ⟨_, rfl⟩) d1_init_40 ⟨[.inl 64, .inl 66, .inr 2, .inr 2, .inr 2, .inr 2, .inr 2, .inr 2, .inr 0, .inr 0, .inr 0, .inr 0, .inr 0], by decide +kernel, by decide⟩ (S' := SS_108) (by decide +kernel) ?_
  refine mv_aload_n d1_init_43 rfl ?_
  refine mv_new2 70 mm_Kmono (by decide +kernel) (by decide +kernel) rfl (by decide +kernel) nc_X1_9 (iz_8.mono (n2 := 70) rfl) (jz_8.mono (n2 := 70) rfl) d1_init_44 (Nat.le_of_ble_eq_true rfl) (Nat.le_of_ble_eq_true rfl) rfl rfl (S' := SS_109) (by decide +kernel) ?_
  refine mv_dup d1_init_47 rfl ?_
  refine mv_bipush (v := 8) d1_init_48 (by decide +kernel) ?_
  refine mv_callK mm_Kmono (by decide +kernel) (kRow l (q := 71) (n := 8) (S' := SS_110) (by decide +kernel) (by decide +kernel) (by decide +kernel) rfl (by decide +kernel) (iz_8.mono (n2 := 71) rfl) rfl (by decide +kernel)) li_X1_11 rfl d1_init_50 ⟨Nat.le_of_ble_eq_true rfl, Nat.le_of_ble_eq_true rfl, Nat.le_of_ble_eq_true rfl, Nat.le_of_ble_eq_true rfl⟩ (As := [.int 8]) rfl rfl (by decide +kernel) (by decide +kernel) ?_
  refine mv_putR2 fc_X1_26 (Or.inl ⟨_, rfl⟩) d1_init_53 ⟨[.inl 64, .inl 66, .inl 68, .inr 2, .inr 2, .inr 2, .inr 2, .inr 2, .inr 0, .inr 0, .inr 0, .inr 0, .inr 0], by decide +kernel, by decide⟩ (S' := SS_111) (by decide +kernel) ?_
  refine mv_aload_n d1_init_56 rfl ?_
  refine mv_new2 72 mm_Kmono (by decide +kernel) (by decide +kernel) rfl (by decide +kernel) nc_X1_9 (iz_8.mono (n2 := 72) rfl) (jz_8.mono (n2 := 72) rfl) d1_init_57 (Nat.le_of_ble_eq_true rfl) (Nat.le_of_ble_eq_true rfl) rfl rfl (S' := SS_112) (by decide +kernel) ?_
  refine mv_dup d1_init_60 rfl ?_
  refine mv_bipush (v := 8) d1_init_61 (by decide +kernel) ?_
  refine mv_callK mm_Kmono (by decide +kernel) (kRow l (q := 73) (n := 8) (S' := SS_113) (by decide +kernel) (by decide +kernel) (by decide +kernel) rfl (by decide +kernel) (iz_8.mono (n2 := 73) rfl) rfl (by decide +kernel)) li_X1_11 rfl d1_init_63 ⟨Nat.le_of_ble_eq_true rfl, Nat.le_of_ble_eq_true rfl, Nat.le_of_ble_eq_true rfl, Nat.le_of_ble_eq_true rfl⟩ (As := [.int 8]) rfl rfl (by decide +kernel) (by decide +kernel) ?_
  refine mv_putR2 fc_X1_29 (Or.inl ⟨_, rfl⟩) d1_init_66 ⟨[.inl 64, .inl 66, .inl 68, .inl 70, .inr 2, .inr 2, .inr 2, .inr 2, .inr 0, .inr 0, .inr 0, .inr 0, .inr 0], by decide +kernel, by decide⟩ (S' := SS_114) (by decide +kernel) ?_
  refine mv_aload_n d1_init_69 rfl ?_
  refine mv_new2 74 mm_Kmono (by decide +kernel) (by decide +kernel) rfl (by decide +kernel) nc_X1_9 (iz_8.mono (n2 := 74) rfl) (jz_8.mono (n2 := 74) rfl) d1_init_70 (Nat.le_of_ble_eq_true rfl) (Nat.le_of_ble_eq_true rfl) rfl rfl (S' := SS_115) (by decide +kernel) ?_
  refine mv_dup d1_init_73 rfl ?_
  refine mv_bipush (v := 8) d1_init_74 (by decide +kernel) ?_
  refine mv_callK mm_Kmono (by decide +kernel) (kRow l (q := 75) (n := 8) (S' := SS_116) (by decide +kernel) (by decide +kernel) (by decide +kernel) rfl (by decide +kernel) (iz_8.mono (n2 := 75) rfl) rfl (by decide +kernel)) li_X1_11 rfl d1_init_76 ⟨Nat.le_of_ble_eq_true rfl, Nat.le_of_ble_eq_true rfl, Nat.le_of_ble_eq_true rfl, Nat.le_of_ble_eq_true rfl⟩ (As := [.int 8]) rfl rfl (by decide +kernel) (by decide +kernel) ?_
  refine mv_putR2 fc_X1_32 (Or.inl ⟨_, rfl⟩) d1_init_79 ⟨[.inl 64, .inl 66, .inl 68, .inl 70, .inl 72, .inr 2, .inr 2, .inr 2, .inr 0, .inr 0, .inr 0, .inr 0, .inr 0], by decide +kernel, by decide⟩ (S' := SS_117) (by decide +kernel) ?_
  refine mv_aload_n d1_init_82 rfl ?_
  refine mv_new2 76 mm_Kmono (by decide +kernel) (by decide +kernel) rfl (by decide +kernel) nc_X1_9 (iz_8.mono (n2 := 76) rfl) (jz_8.mono (n2 := 76) rfl) d1_init_83 (Nat.le_of_ble_eq_true rfl) (Nat.le_of_ble_eq_true rfl) rfl rfl (S' := SS_118) (by decide +kernel) ?_
  refine mv_dup d1_init_86 rfl ?_
  refine mv_bipush (v := 8) d1_init_87 (by decide +kernel) ?_
  refine mv_callK mm_Kmono (by decide +kernel) (kRow l (q := 77) (n := 8) (S' := SS_119) (by decide +kernel) (by decide +kernel) (by decide +kernel) rfl (by decide +kernel) (iz_8.mono (n2 := 77) rfl) rfl (by decide +kernel)) li_X1_11 rfl d1_init_89 ⟨Nat.le_of_ble_eq_true rfl, Nat.le_of_ble_eq_true rfl, Nat.le_of_ble_eq_true rfl, Nat.le_of_ble_eq_true rfl⟩ (As := [.int 8]) rfl rfl (by decide +kernel) (by decide +kernel) ?_
  refine mv_putR2 fc_X1_35 (Or.inl ⟨_, rfl⟩) d1_init_92 ⟨[.inl 64, .inl 66, .inl 68, .inl 70, .inl 72, .inl 74, .inr 2, .inr 2, .inr 0, .inr 0, .inr 0, .inr 0, .inr 0], by decide +kernel, by decide⟩ (S' := SS_120) (by decide +kernel) ?_
  refine mv_aload_n d1_init_95 rfl ?_
  refine mv_new2 78 mm_Kmono (by decide +kernel) (by decide +kernel) rfl (by decide +kernel) nc_X1_9 (iz_8.mono (n2 := 78) rfl) (jz_8.mono (n2 := 78) rfl) d1_init_96 (Nat.le_of_ble_eq_true rfl) (Nat.le_of_ble_eq_true rfl) rfl rfl (S' := SS_121) (by decide +kernel) ?_
  refine mv_dup d1_init_99 rfl ?_
  refine mv_bipush (v := 8) d1_init_100 (by decide +kernel) ?_
  refine mv_callK mm_Kmono (by decide +kernel) (kRow l (q := 79) (n := 8) (S' := SS_122) (by decide +kernel) (by decide +kernel) (by decide +kernel) rfl (by decide +kernel) (iz_8.mono (n2 := 79) rfl) rfl (by decide +kernel)) li_X1_11 rfl d1_init_102 ⟨Nat.le_of_ble_eq_true rfl, Nat.le_of_ble_eq_true rfl, Nat.le_of_ble_eq_true rfl, Nat.le_of_ble_eq_true rfl⟩ (As := [.int 8]) rfl rfl (by decide +kernel) (by decide +kernel) ?_
  refine mv_putR2 fc_X1_38 (Or.inl ⟨_, rfl⟩) d1_init_105 ⟨[.inl 64, .inl 66, .inl 68, .inl 70, .inl 72, .inl 74, .inl 76, .inr 2, .inr 0, .inr 0, .inr 0, .inr 0, .inr 0], by decide +kernel, by decide⟩ (S' := SS_123) (by decide +kernel) ?_
  refine mv_aload_n d1_init_108 rfl ?_
  refine mv_cVv (ci := 1) (As := []) (fs := [.inl 64, .inl 66, .inl 68, .inl 70, .inl 72, .inl 74, .inl 76, .inl 78, .inr 0, .inr 0, .inr 0, .inr 0, .inr 0]) (ok1_clear l wt_SS_123 ⟨[.inl 64, .inl 66, .inl 68, .inl 70, .inl 72, .inl 74, .inl 76, .inl 78, .inr 0, .inr 0, .inr 0, .inr 0, .inr 0], by decide +kernel, by decide +kernel⟩ ev_9) lk_X1_41 rfl d1_init_109 ⟨Nat.le_of_ble_eq_true rfl, Nat.le_of_ble_eq_true rfl, Nat.le_of_ble_eq_true rfl, Nat.le_of_ble_eq_true rfl⟩ rfl (by decide +kernel) rfl rfl ?_
  refine mv_cut 80 (by decide +kernel) ?_
  exact mv_vret rfl d1_init_112 rfl rfl rfl rfl rfl
set_option maxHeartbeats 4000000 in
set_option maxRecDepth 100000 in
/-- ForgottenCrafts$Folk -/
theorem kc_10 (l : Launch) : mm_K l M1_init SS_125 [.ref 80] II_9 JJ_9 SS_149 II_10 JJ_10 16 152 := by
  refine mm_Kenter rfl (by decide +kernel) rfl ?_
  refine mv_aload_n d1_init_0 rfl ?_
  refine mv_objInit ol_X1 ob_i ob_c d1_init_1 ⟨Nat.le_of_ble_eq_true rfl, Nat.le_of_ble_eq_true rfl⟩ ?_
  refine mv_aload_n d1_init_4 rfl ?_
  refine mv_new2 81 mm_Kmono (by decide +kernel) (by decide +kernel) rfl (by decide +kernel) nc_X1_9 (iz_9.mono (n2 := 81) rfl) (jz_9.mono (n2 := 81) rfl) d1_init_5 (Nat.le_of_ble_eq_true rfl) (Nat.le_of_ble_eq_true rfl) rfl rfl (S' := SS_126) (by decide +kernel) ?_
  refine mv_dup d1_init_8 rfl ?_
  refine mv_bipush (v := 8) d1_init_9 (by decide +kernel) ?_
  refine mv_callK mm_Kmono (by decide +kernel) (kRow l (q := 82) (n := 8) (S' := SS_127) (by decide +kernel) (by decide +kernel) (by decide +kernel) rfl (by decide +kernel) (iz_9.mono (n2 := 82) rfl) rfl (by decide +kernel)) li_X1_11 rfl d1_init_11 ⟨Nat.le_of_ble_eq_true rfl, Nat.le_of_ble_eq_true rfl, Nat.le_of_ble_eq_true rfl, Nat.le_of_ble_eq_true rfl⟩ (As := [.int 8]) rfl rfl (by decide +kernel) (by decide +kernel) ?_
  refine mv_putR2 fc_X1_14 (Or.inl ⟨_, rfl⟩) d1_init_14 ⟨[.inr 2, .inr 2, .inr 2, .inr 2, .inr 2, .inr 2, .inr 2, .inr 2, .inr 0, .inr 0, .inr 0, .inr 0, .inr 0], by decide +kernel, by decide⟩ (S' := SS_128) (by decide +kernel) ?_
  refine mv_aload_n d1_init_17 rfl ?_
  refine mv_new2 83 mm_Kmono (by decide +kernel) (by decide +kernel) rfl (by decide +kernel) nc_X1_9 (iz_9.mono (n2 := 83) rfl) (jz_9.mono (n2 := 83) rfl) d1_init_18 (Nat.le_of_ble_eq_true rfl) (Nat.le_of_ble_eq_true rfl) rfl rfl (S' := SS_129) (by decide +kernel) ?_
  refine mv_dup d1_init_21 rfl ?_
  refine mv_bipush (v := 48) d1_init_22 (by decide +kernel) ?_
  refine mv_callK mm_Kmono (by decide +kernel) (kRow l (q := 84) (n := 48) (S' := SS_130) (by decide +kernel) (by decide +kernel) (by decide +kernel) rfl (by decide +kernel) (iz_9.mono (n2 := 84) rfl) rfl (by decide +kernel)) li_X1_11 rfl d1_init_24 ⟨Nat.le_of_ble_eq_true rfl, Nat.le_of_ble_eq_true rfl, Nat.le_of_ble_eq_true rfl, Nat.le_of_ble_eq_true rfl⟩ (As := [.int 48]) rfl rfl (by decide +kernel) (by decide +kernel) ?_
  refine mv_putR2 fc_X1_20 (Or.inl ⟨_, rfl⟩) d1_init_27 ⟨[.inl 81, .inr 2, .inr 2, .inr 2, .inr 2, .inr 2, .inr 2, .inr 2, .inr 0, .inr 0, .inr 0, .inr 0, .inr 0], by decide +kernel, by decide⟩ (S' := SS_131) (by decide +kernel) ?_
  refine mv_aload_n d1_init_30 rfl ?_
  refine mv_new2 85 mm_Kmono (by decide +kernel) (by decide +kernel) rfl (by decide +kernel) nc_X1_9 (iz_9.mono (n2 := 85) rfl) (jz_9.mono (n2 := 85) rfl) d1_init_31 (Nat.le_of_ble_eq_true rfl) (Nat.le_of_ble_eq_true rfl) rfl rfl (S' := SS_132) (by decide +kernel) ?_
  refine mv_dup d1_init_34 rfl ?_
  refine mv_bipush (v := 48) d1_init_35 (by decide +kernel) ?_
  refine mv_callK mm_Kmono (by decide +kernel) (kRow l (q := 86) (n := 48) (S' := SS_133) (by decide +kernel) (by decide +kernel) (by decide +kernel) rfl (by decide +kernel) (iz_9.mono (n2 := 86) rfl) rfl (by decide +kernel)) li_X1_11 rfl d1_init_37 ⟨Nat.le_of_ble_eq_true rfl, Nat.le_of_ble_eq_true rfl, Nat.le_of_ble_eq_true rfl, Nat.le_of_ble_eq_true rfl⟩ (As := [.int 48]) rfl rfl (by decide +kernel) (by decide +kernel) ?_
  refine mv_putR2 fc_X1_23 (Or.inl ⟨_, rfl⟩) d1_init_40 ⟨[.inl 81, .inl 83, .inr 2, .inr 2, .inr 2, .inr 2, .inr 2, .inr 2, .inr 0, .inr 0, .inr 0, .inr 0, .inr 0], by decide +kernel, by decide⟩ (S' := SS_134) (by decide +kernel) ?_
  refine mv_aload_n d1_init_43 rfl ?_
  refine mv_new2 87 mm_Kmono (by decide +kernel) (by decide +kernel) rfl (by decide +kernel) nc_X1_9 (iz_9.mono (n2 := 87) rfl) (jz_9.mono (n2 := 87) rfl) d1_init_44 (Nat.le_of_ble_eq_true rfl) (Nat.le_of_ble_eq_true rfl) rfl rfl (S' := SS_135) (by decide +kernel) ?_
  refine mv_dup d1_init_47 rfl ?_
  refine mv_bipush (v := 8) d1_init_48 (by decide +kernel) ?_
  refine mv_callK mm_Kmono (by decide +kernel) (kRow l (q := 88) (n := 8) (S' := SS_136) (by decide +kernel) (by decide +kernel) (by decide +kernel) rfl (by decide +kernel) (iz_9.mono (n2 := 88) rfl) rfl (by decide +kernel)) li_X1_11 rfl d1_init_50 ⟨Nat.le_of_ble_eq_true rfl, Nat.le_of_ble_eq_true rfl, Nat.le_of_ble_eq_true rfl, Nat.le_of_ble_eq_true rfl⟩ (As := [.int 8]) rfl rfl (by decide +kernel) (by decide +kernel) ?_
  refine mv_putR2 fc_X1_26 (Or.inl ⟨_, rfl⟩) d1_init_53 ⟨[.inl 81, .inl 83, .inl 85, .inr 2, .inr 2, .inr 2, .inr 2, .inr 2, .inr 0, .inr 0, .inr 0, .inr 0, .inr 0], by decide +kernel, by decide⟩ (S' := SS_137) (by decide +kernel) ?_
  refine mv_aload_n d1_init_56 rfl ?_
  refine mv_new2 89 mm_Kmono (by decide +kernel) (by decide +kernel) rfl (by decide +kernel) nc_X1_9 (iz_9.mono (n2 := 89) rfl) (jz_9.mono (n2 := 89) rfl) d1_init_57 (Nat.le_of_ble_eq_true rfl) (Nat.le_of_ble_eq_true rfl) rfl rfl (S' := SS_138) (by decide +kernel) ?_
  refine mv_dup d1_init_60 rfl ?_
  refine mv_bipush (v := 8) d1_init_61 (by decide +kernel) ?_
  refine mv_callK mm_Kmono (by decide +kernel) (kRow l (q := 90) (n := 8) (S' := SS_139) (by decide +kernel) (by decide +kernel) (by decide +kernel) rfl (by decide +kernel) (iz_9.mono (n2 := 90) rfl) rfl (by decide +kernel)) li_X1_11 rfl d1_init_63 ⟨Nat.le_of_ble_eq_true rfl, Nat.le_of_ble_eq_true rfl, Nat.le_of_ble_eq_true rfl, Nat.le_of_ble_eq_true rfl⟩ (As := [.int 8]) rfl rfl (by decide +kernel) (by decide +kernel) ?_
  refine mv_putR2 fc_X1_29 (Or.inl ⟨_, rfl⟩) d1_init_66 ⟨[.inl 81, .inl 83, .inl 85, .inl 87, .inr 2, .inr 2, .inr 2, .inr 2, .inr 0, .inr 0, .inr 0, .inr 0, .inr 0], by decide +kernel, by decide⟩ (S' := SS_140) (by decide +kernel) ?_
  refine mv_aload_n d1_init_69 rfl ?_
  refine mv_new2 91 mm_Kmono (by decide +kernel) (by decide +kernel) rfl (by decide +kernel) nc_X1_9 (iz_9.mono (n2 := 91) rfl) (jz_9.mono (n2 := 91) rfl) d1_init_70 (Nat.le_of_ble_eq_true rfl) (Nat.le_of_ble_eq_true rfl) rfl rfl (S' := SS_141) (by decide +kernel) ?_
  refine mv_dup d1_init_73 rfl ?_
  refine mv_bipush (v := 8) d1_init_74 (by decide +kernel) ?_
  refine mv_callK mm_Kmono (by decide +kernel) (kRow l (q := 92) (n := 8) (S' := SS_142) (by decide +kernel) (by decide +kernel) (by decide +kernel) rfl (by decide +kernel) (iz_9.mono (n2 := 92) rfl) rfl (by decide +kernel)) li_X1_11 rfl d1_init_76 ⟨Nat.le_of_ble_eq_true rfl, Nat.le_of_ble_eq_true rfl, Nat.le_of_ble_eq_true rfl, Nat.le_of_ble_eq_true rfl⟩ (As := [.int 8]) rfl rfl (by decide +kernel) (by decide +kernel) ?_
  refine mv_putR2 fc_X1_32 (Or.inl ⟨_, rfl⟩) d1_init_79 ⟨[.inl 81, .inl 83, .inl 85, .inl 87, .inl 89, .inr 2, .inr 2, .inr 2, .inr 0, .inr 0, .inr 0, .inr 0, .inr 0], by decide +kernel, by decide⟩ (S' := SS_143) (by decide +kernel) ?_
  refine mv_aload_n d1_init_82 rfl ?_
  refine mv_new2 93 mm_Kmono (by decide +kernel) (by decide +kernel) rfl (by decide +kernel) nc_X1_9 (iz_9.mono (n2 := 93) rfl) (jz_9.mono (n2 := 93) rfl) d1_init_83 (Nat.le_of_ble_eq_true rfl) (Nat.le_of_ble_eq_true rfl) rfl rfl (S' := SS_144) (by decide +kernel) ?_
  refine mv_dup d1_init_86 rfl ?_
  refine mv_bipush (v := 8) d1_init_87 (by decide +kernel) ?_
  refine mv_callK mm_Kmono (by decide +kernel) (kRow l (q := 94) (n := 8) (S' := SS_145) (by decide +kernel) (by decide +kernel) (by decide +kernel) rfl (by decide +kernel) (iz_9.mono (n2 := 94) rfl) rfl (by decide +kernel)) li_X1_11 rfl d1_init_89 ⟨Nat.le_of_ble_eq_true rfl, Nat.le_of_ble_eq_true rfl, Nat.le_of_ble_eq_true rfl, Nat.le_of_ble_eq_true rfl⟩ (As := [.int 8]) rfl rfl (by decide +kernel) (by decide +kernel) ?_
  refine mv_putR2 fc_X1_35 (Or.inl ⟨_, rfl⟩) d1_init_92 ⟨[.inl 81, .inl 83, .inl 85, .inl 87, .inl 89, .inl 91, .inr 2, .inr 2, .inr 0, .inr 0, .inr 0, .inr 0, .inr 0], by decide +kernel, by decide⟩ (S' := SS_146) (by decide +kernel) ?_
  refine mv_aload_n d1_init_95 rfl ?_
  refine mv_new2 95 mm_Kmono (by decide +kernel) (by decide +kernel) rfl (by decide +kernel) nc_X1_9 (iz_9.mono (n2 := 95) rfl) (jz_9.mono (n2 := 95) rfl) d1_init_96 (Nat.le_of_ble_eq_true rfl) (Nat.le_of_ble_eq_true rfl) rfl rfl (S' := SS_147) (by decide +kernel) ?_
  refine mv_dup d1_init_99 rfl ?_
  refine mv_bipush (v := 8) d1_init_100 (by decide +kernel) ?_
  refine mv_callK mm_Kmono (by decide +kernel) (kRow l (q := 96) (n := 8) (S' := SS_148) (by decide +kernel) (by decide +kernel) (by decide +kernel) rfl (by decide +kernel) (iz_9.mono (n2 := 96) rfl) rfl (by decide +kernel)) li_X1_11 rfl d1_init_102 ⟨Nat.le_of_ble_eq_true rfl, Nat.le_of_ble_eq_true rfl, Nat.le_of_ble_eq_true rfl, Nat.le_of_ble_eq_true rfl⟩ (As := [.int 8]) rfl rfl (by decide +kernel) (by decide +kernel) ?_
  refine mv_putR2 fc_X1_38 (Or.inl ⟨_, rfl⟩) d1_init_105 ⟨[.inl 81, .inl 83, .inl 85, .inl 87, .inl 89, .inl 91, .inl 93, .inr 2, .inr 0, .inr 0, .inr 0, .inr 0, .inr 0], by decide +kernel, by decide⟩ (S' := SS_149) (by decide +kernel) ?_
  refine mv_aload_n d1_init_108 rfl ?_
  refine mv_cVv (ci := 1) (As := []) (fs := [.inl 81, .inl 83, .inl 85, .inl 87, .inl 89, .inl 91, .inl 93, .inl 95, .inr 0, .inr 0, .inr 0, .inr 0, .inr 0]) (ok1_clear l wt_SS_149 ⟨[.inl 81, .inl 83, .inl 85, .inl 87, .inl 89, .inl 91, .inl 93, .inl 95, .inr 0, .inr 0, .inr 0, .inr 0, .inr 0], by decide +kernel, by decide +kernel⟩ ev_10) lk_X1_41 rfl d1_init_109 ⟨Nat.le_of_ble_eq_true rfl, Nat.le_of_ble_eq_true rfl, Nat.le_of_ble_eq_true rfl, Nat.le_of_ble_eq_true rfl⟩ rfl (by decide +kernel) rfl rfl ?_
  refine mv_cut 97 (by decide +kernel) ?_
  exact mv_vret rfl d1_init_112 rfl rfl rfl rfl rfl
set_option maxHeartbeats 4000000 in
set_option maxRecDepth 100000 in
/-- ForgottenCrafts$Folk -/
theorem kc_11 (l : Launch) : mm_K l M1_init SS_151 [.ref 97] II_10 JJ_10 SS_175 II_11 JJ_11 16 152 := by
  refine mm_Kenter rfl (by decide +kernel) rfl ?_
  refine mv_aload_n d1_init_0 rfl ?_
  refine mv_objInit ol_X1 ob_i ob_c d1_init_1 ⟨Nat.le_of_ble_eq_true rfl, Nat.le_of_ble_eq_true rfl⟩ ?_
  refine mv_aload_n d1_init_4 rfl ?_
  refine mv_new2 98 mm_Kmono (by decide +kernel) (by decide +kernel) rfl (by decide +kernel) nc_X1_9 (iz_10.mono (n2 := 98) rfl) (jz_10.mono (n2 := 98) rfl) d1_init_5 (Nat.le_of_ble_eq_true rfl) (Nat.le_of_ble_eq_true rfl) rfl rfl (S' := SS_152) (by decide +kernel) ?_
  refine mv_dup d1_init_8 rfl ?_
  refine mv_bipush (v := 8) d1_init_9 (by decide +kernel) ?_
  refine mv_callK mm_Kmono (by decide +kernel) (kRow l (q := 99) (n := 8) (S' := SS_153) (by decide +kernel) (by decide +kernel) (by decide +kernel) rfl (by decide +kernel) (iz_10.mono (n2 := 99) rfl) rfl (by decide +kernel)) li_X1_11 rfl d1_init_11 ⟨Nat.le_of_ble_eq_true rfl, Nat.le_of_ble_eq_true rfl, Nat.le_of_ble_eq_true rfl, Nat.le_of_ble_eq_true rfl⟩ (As := [.int 8]) rfl rfl (by decide +kernel) (by decide +kernel) ?_
  refine mv_putR2 fc_X1_14 (Or.inl ⟨_, rfl⟩) d1_init_14 ⟨[.inr 2, .inr 2, .inr 2, .inr 2, .inr 2, .inr 2, .inr 2, .inr 2, .inr 0, .inr 0, .inr 0, .inr 0, .inr 0], by decide +kernel, by decide⟩ (S' := SS_154) (by decide +kernel) ?_
  refine mv_aload_n d1_init_17 rfl ?_
  refine mv_new2 100 mm_Kmono (by decide +kernel) (by decide +kernel) rfl (by decide +kernel) nc_X1_9 (iz_10.mono (n2 := 100) rfl) (jz_10.mono (n2 := 100) rfl) d1_init_18 (Nat.le_of_ble_eq_true rfl) (Nat.le_of_ble_eq_true rfl) rfl rfl (S' := SS_155) (by decide +kernel) ?_
  refine mv_dup d1_init_21 rfl ?_
  refine mv_bipush (v := 48) d1_init_22 (by decide +kernel) ?_
  refine mv_callK mm_Kmono (by decide +kernel) (kRow l (q := 101) (n := 48) (S' := SS_156) (by decide +kernel) (by decide +kernel) (by decide +kernel) rfl (by decide +kernel) (iz_10.mono (n2 := 101) rfl) rfl (by decide +kernel)) li_X1_11 rfl d1_init_24 ⟨Nat.le_of_ble_eq_true rfl, Nat.le_of_ble_eq_true rfl, Nat.le_of_ble_eq_true rfl, Nat.le_of_ble_eq_true rfl⟩ (As := [.int 48]) rfl rfl (by decide +kernel) (by decide +kernel) ?_
  refine mv_putR2 fc_X1_20 (Or.inl ⟨_, rfl⟩) d1_init_27 ⟨[.inl 98, .inr 2, .inr 2, .inr 2, .inr 2, .inr 2, .inr 2, .inr 2, .inr 0, .inr 0, .inr 0, .inr 0, .inr 0], by decide +kernel, by decide⟩ (S' := SS_157) (by decide +kernel) ?_
  refine mv_aload_n d1_init_30 rfl ?_
  refine mv_new2 102 mm_Kmono (by decide +kernel) (by decide +kernel) rfl (by decide +kernel) nc_X1_9 (iz_10.mono (n2 := 102) rfl) (jz_10.mono (n2 := 102) rfl) d1_init_31 (Nat.le_of_ble_eq_true rfl) (Nat.le_of_ble_eq_true rfl) rfl rfl (S' := SS_158) (by decide +kernel) ?_
  refine mv_dup d1_init_34 rfl ?_
  refine mv_bipush (v := 48) d1_init_35 (by decide +kernel) ?_
  refine mv_callK mm_Kmono (by decide +kernel) (kRow l (q := 103) (n := 48) (S' := SS_159) (by decide +kernel) (by decide +kernel) (by decide +kernel) rfl (by decide +kernel) (iz_10.mono (n2 := 103) rfl) rfl (by decide +kernel)) li_X1_11 rfl d1_init_37 ⟨Nat.le_of_ble_eq_true rfl, Nat.le_of_ble_eq_true rfl, Nat.le_of_ble_eq_true rfl, Nat.le_of_ble_eq_true rfl⟩ (As := [.int 48]) rfl rfl (by decide +kernel) (by decide +kernel) ?_
  refine mv_putR2 fc_X1_23 (Or.inl ⟨_, rfl⟩) d1_init_40 ⟨[.inl 98, .inl 100, .inr 2, .inr 2, .inr 2, .inr 2, .inr 2, .inr 2, .inr 0, .inr 0, .inr 0, .inr 0, .inr 0], by decide +kernel, by decide⟩ (S' := SS_160) (by decide +kernel) ?_
  refine mv_aload_n d1_init_43 rfl ?_
  refine mv_new2 104 mm_Kmono (by decide +kernel) (by decide +kernel) rfl (by decide +kernel) nc_X1_9 (iz_10.mono (n2 := 104) rfl) (jz_10.mono (n2 := 104) rfl) d1_init_44 (Nat.le_of_ble_eq_true rfl) (Nat.le_of_ble_eq_true rfl) rfl rfl (S' := SS_161) (by decide +kernel) ?_
  refine mv_dup d1_init_47 rfl ?_
  refine mv_bipush (v := 8) d1_init_48 (by decide +kernel) ?_
  refine mv_callK mm_Kmono (by decide +kernel) (kRow l (q := 105) (n := 8) (S' := SS_162) (by decide +kernel) (by decide +kernel) (by decide +kernel) rfl (by decide +kernel) (iz_10.mono (n2 := 105) rfl) rfl (by decide +kernel)) li_X1_11 rfl d1_init_50 ⟨Nat.le_of_ble_eq_true rfl, Nat.le_of_ble_eq_true rfl, Nat.le_of_ble_eq_true rfl, Nat.le_of_ble_eq_true rfl⟩ (As := [.int 8]) rfl rfl (by decide +kernel) (by decide +kernel) ?_
  refine mv_putR2 fc_X1_26 (Or.inl ⟨_, rfl⟩) d1_init_53 ⟨[.inl 98, .inl 100, .inl 102, .inr 2, .inr 2, .inr 2, .inr 2, .inr 2, .inr 0, .inr 0, .inr 0, .inr 0, .inr 0], by decide +kernel, by decide⟩ (S' := SS_163) (by decide +kernel) ?_
  refine mv_aload_n d1_init_56 rfl ?_
  refine mv_new2 106 mm_Kmono (by decide +kernel) (by decide +kernel) rfl (by decide +kernel) nc_X1_9 (iz_10.mono (n2 := 106) rfl) (jz_10.mono (n2 := 106) rfl) d1_init_57 (Nat.le_of_ble_eq_true rfl) (Nat.le_of_ble_eq_true rfl) rfl rfl (S' := SS_164) (by decide +kernel) ?_
  refine mv_dup d1_init_60 rfl ?_
  refine mv_bipush (v := 8) d1_init_61 (by decide +kernel) ?_
  refine mv_callK mm_Kmono (by decide +kernel) (kRow l (q := 107) (n := 8) (S' := SS_165) (by decide +kernel) (by decide +kernel) (by decide +kernel) rfl (by decide +kernel) (iz_10.mono (n2 := 107) rfl) rfl (by decide +kernel)) li_X1_11 rfl d1_init_63 ⟨Nat.le_of_ble_eq_true rfl, Nat.le_of_ble_eq_true rfl, Nat.le_of_ble_eq_true rfl, Nat.le_of_ble_eq_true rfl⟩ (As := [.int 8]) rfl rfl (by decide +kernel) (by decide +kernel) ?_
  refine mv_putR2 fc_X1_29 (Or.inl ⟨_, rfl⟩) d1_init_66 ⟨[.inl 98, .inl 100, .inl 102, .inl 104, .inr 2, .inr 2, .inr 2, .inr 2, .inr 0, .inr 0, .inr 0, .inr 0, .inr 0], by decide +kernel, by decide⟩ (S' := SS_166) (by decide +kernel) ?_
  refine mv_aload_n d1_init_69 rfl ?_
  refine mv_new2 108 mm_Kmono (by decide +kernel) (by decide +kernel) rfl (by decide +kernel) nc_X1_9 (iz_10.mono (n2 := 108) rfl) (jz_10.mono (n2 := 108) rfl) d1_init_70 (Nat.le_of_ble_eq_true rfl) (Nat.le_of_ble_eq_true rfl) rfl rfl (S' := SS_167) (by decide +kernel) ?_
  refine mv_dup d1_init_73 rfl ?_
  refine mv_bipush (v := 8) d1_init_74 (by decide +kernel) ?_
  refine mv_callK mm_Kmono (by decide +kernel) (kRow l (q := 109) (n := 8) (S' := SS_168) (by decide +kernel) (by decide +kernel) (by decide +kernel) rfl (by decide +kernel) (iz_10.mono (n2 := 109) rfl) rfl (by decide +kernel)) li_X1_11 rfl d1_init_76 ⟨Nat.le_of_ble_eq_true rfl, Nat.le_of_ble_eq_true rfl, Nat.le_of_ble_eq_true rfl, Nat.le_of_ble_eq_true rfl⟩ (As := [.int 8]) rfl rfl (by decide +kernel) (by decide +kernel) ?_
  refine mv_putR2 fc_X1_32 (Or.inl ⟨_, rfl⟩) d1_init_79 ⟨[.inl 98, .inl 100, .inl 102, .inl 104, .inl 106, .inr 2, .inr 2, .inr 2, .inr 0, .inr 0, .inr 0, .inr 0, .inr 0], by decide +kernel, by decide⟩ (S' := SS_169) (by decide +kernel) ?_
  refine mv_aload_n d1_init_82 rfl ?_
  refine mv_new2 110 mm_Kmono (by decide +kernel) (by decide +kernel) rfl (by decide +kernel) nc_X1_9 (iz_10.mono (n2 := 110) rfl) (jz_10.mono (n2 := 110) rfl) d1_init_83 (Nat.le_of_ble_eq_true rfl) (Nat.le_of_ble_eq_true rfl) rfl rfl (S' := SS_170) (by decide +kernel) ?_
  refine mv_dup d1_init_86 rfl ?_
  refine mv_bipush (v := 8) d1_init_87 (by decide +kernel) ?_
  refine mv_callK mm_Kmono (by decide +kernel) (kRow l (q := 111) (n := 8) (S' := SS_171) (by decide +kernel) (by decide +kernel) (by decide +kernel) rfl (by decide +kernel) (iz_10.mono (n2 := 111) rfl) rfl (by decide +kernel)) li_X1_11 rfl d1_init_89 ⟨Nat.le_of_ble_eq_true rfl, Nat.le_of_ble_eq_true rfl, Nat.le_of_ble_eq_true rfl, Nat.le_of_ble_eq_true rfl⟩ (As := [.int 8]) rfl rfl (by decide +kernel) (by decide +kernel) ?_
  refine mv_putR2 fc_X1_35 (Or.inl ⟨_, rfl⟩) d1_init_92 ⟨[.inl 98, .inl 100, .inl 102, .inl 104, .inl 106, .inl 108, .inr 2, .inr 2, .inr 0, .inr 0, .inr 0, .inr 0, .inr 0], by decide +kernel, by decide⟩ (S' := SS_172) (by decide +kernel) ?_
  refine mv_aload_n d1_init_95 rfl ?_
  refine mv_new2 112 mm_Kmono (by decide +kernel) (by decide +kernel) rfl (by decide +kernel) nc_X1_9 (iz_10.mono (n2 := 112) rfl) (jz_10.mono (n2 := 112) rfl) d1_init_96 (Nat.le_of_ble_eq_true rfl) (Nat.le_of_ble_eq_true rfl) rfl rfl (S' := SS_173) (by decide +kernel) ?_
  refine mv_dup d1_init_99 rfl ?_
  refine mv_bipush (v := 8) d1_init_100 (by decide +kernel) ?_
  refine mv_callK mm_Kmono (by decide +kernel) (kRow l (q := 113) (n := 8) (S' := SS_174) (by decide +kernel) (by decide +kernel) (by decide +kernel) rfl (by decide +kernel) (iz_10.mono (n2 := 113) rfl) rfl (by decide +kernel)) li_X1_11 rfl d1_init_102 ⟨Nat.le_of_ble_eq_true rfl, Nat.le_of_ble_eq_true rfl, Nat.le_of_ble_eq_true rfl, Nat.le_of_ble_eq_true rfl⟩ (As := [.int 8]) rfl rfl (by decide +kernel) (by decide +kernel) ?_
  refine mv_putR2 fc_X1_38 (Or.inl ⟨_, rfl⟩) d1_init_105 ⟨[.inl 98, .inl 100, .inl 102, .inl 104, .inl 106, .inl 108, .inl 110, .inr 2, .inr 0, .inr 0, .inr 0, .inr 0, .inr 0], by decide +kernel, by decide⟩ (S' := SS_175) (by decide +kernel) ?_
  refine mv_aload_n d1_init_108 rfl ?_
  refine mv_cVv (ci := 1) (As := []) (fs := [.inl 98, .inl 100, .inl 102, .inl 104, .inl 106, .inl 108, .inl 110, .inl 112, .inr 0, .inr 0, .inr 0, .inr 0, .inr 0]) (ok1_clear l wt_SS_175 ⟨[.inl 98, .inl 100, .inl 102, .inl 104, .inl 106, .inl 108, .inl 110, .inl 112, .inr 0, .inr 0, .inr 0, .inr 0, .inr 0], by decide +kernel, by decide +kernel⟩ ev_11) lk_X1_41 rfl d1_init_109 ⟨Nat.le_of_ble_eq_true rfl, Nat.le_of_ble_eq_true rfl, Nat.le_of_ble_eq_true rfl, Nat.le_of_ble_eq_true rfl⟩ rfl (by decide +kernel) rfl rfl ?_
  refine mv_cut 114 (by decide +kernel) ?_
  exact mv_vret rfl d1_init_112 rfl rfl rfl rfl rfl
set_option maxHeartbeats 4000000 in
set_option maxRecDepth 100000 in
/-- ForgottenCrafts$Folk -/
theorem kc_12 (l : Launch) : mm_K l M1_init SS_177 [.ref 114] II_11 JJ_11 SS_201 II_12 JJ_12 16 152 := by
  refine mm_Kenter rfl (by decide +kernel) rfl ?_
  refine mv_aload_n d1_init_0 rfl ?_
  refine mv_objInit ol_X1 ob_i ob_c d1_init_1 ⟨Nat.le_of_ble_eq_true rfl, Nat.le_of_ble_eq_true rfl⟩ ?_
  refine mv_aload_n d1_init_4 rfl ?_
  refine mv_new2 115 mm_Kmono (by decide +kernel) (by decide +kernel) rfl (by decide +kernel) nc_X1_9 (iz_11.mono (n2 := 115) rfl) (jz_11.mono (n2 := 115) rfl) d1_init_5 (Nat.le_of_ble_eq_true rfl) (Nat.le_of_ble_eq_true rfl) rfl rfl (S' := SS_178) (by decide +kernel) ?_
  refine mv_dup d1_init_8 rfl ?_
  refine mv_bipush (v := 8) d1_init_9 (by decide +kernel) ?_
  refine mv_callK mm_Kmono (by decide +kernel) (kRow l (q := 116) (n := 8) (S' := SS_179) (by decide +kernel) (by decide +kernel) (by decide +kernel) rfl (by decide +kernel) (iz_11.mono (n2 := 116) rfl) rfl (by decide +kernel)) li_X1_11 rfl d1_init_11 ⟨Nat.le_of_ble_eq_true rfl, Nat.le_of_ble_eq_true rfl, Nat.le_of_ble_eq_true rfl, Nat.le_of_ble_eq_true rfl⟩ (As := [.int 8]) rfl rfl (by decide +kernel) (by decide +kernel) ?_
  refine mv_putR2 fc_X1_14 (Or.inl ⟨_, rfl⟩) d1_init_14 ⟨[.inr 2, .inr 2, .inr 2, .inr 2, .inr 2, .inr 2, .inr 2, .inr 2, .inr 0, .inr 0, .inr 0, .inr 0, .inr 0], by decide +kernel, by decide⟩ (S' := SS_180) (by decide +kernel) ?_
  refine mv_aload_n d1_init_17 rfl ?_
  refine mv_new2 117 mm_Kmono (by decide +kernel) (by decide +kernel) rfl (by decide +kernel) nc_X1_9 (iz_11.mono (n2 := 117) rfl) (jz_11.mono (n2 := 117) rfl) d1_init_18 (Nat.le_of_ble_eq_true rfl) (Nat.le_of_ble_eq_true rfl) rfl rfl (S' := SS_181) (by decide +kernel) ?_
  refine mv_dup d1_init_21 rfl ?_
  refine mv_bipush (v := 48) d1_init_22 (by decide +kernel) ?_
  refine mv_callK mm_Kmono (by decide +kernel) (kRow l (q := 118) (n := 48) (S' := SS_182) (by decide +kernel) (by decide +kernel) (by decide +kernel) rfl (by decide +kernel) (iz_11.mono (n2 := 118) rfl) rfl (by decide +kernel)) li_X1_11 rfl d1_init_24 ⟨Nat.le_of_ble_eq_true rfl, Nat.le_of_ble_eq_true rfl, Nat.le_of_ble_eq_true rfl, Nat.le_of_ble_eq_true rfl⟩ (As := [.int 48]) rfl rfl (by decide +kernel) (by decide +kernel) ?_
  refine mv_putR2 fc_X1_20 (Or.inl ⟨_, rfl⟩) d1_init_27 ⟨[.inl 115, .inr 2, .inr 2, .inr 2, .inr 2, .inr 2, .inr 2, .inr 2, .inr 0, .inr 0, .inr 0, .inr 0, .inr 0], by decide +kernel, by decide⟩ (S' := SS_183) (by decide +kernel) ?_
  refine mv_aload_n d1_init_30 rfl ?_
  refine mv_new2 119 mm_Kmono (by decide +kernel) (by decide +kernel) rfl (by decide +kernel) nc_X1_9 (iz_11.mono (n2 := 119) rfl) (jz_11.mono (n2 := 119) rfl) d1_init_31 (Nat.le_of_ble_eq_true rfl) (Nat.le_of_ble_eq_true rfl) rfl rfl (S' := SS_184) (by decide +kernel) ?_
  refine mv_dup d1_init_34 rfl ?_
  refine mv_bipush (v := 48) d1_init_35 (by decide +kernel) ?_
  refine mv_callK mm_Kmono (by decide +kernel) (kRow l (q := 120) (n := 48) (S' := SS_185) (by decide +kernel) (by decide +kernel) (by decide +kernel) rfl (by decide +kernel) (iz_11.mono (n2 := 120) rfl) rfl (by decide +kernel)) li_X1_11 rfl d1_init_37 ⟨Nat.le_of_ble_eq_true rfl, Nat.le_of_ble_eq_true rfl, Nat.le_of_ble_eq_true rfl, Nat.le_of_ble_eq_true rfl⟩ (As := [.int 48]) rfl rfl (by decide +kernel) (by decide +kernel) ?_
  refine mv_putR2 fc_X1_23 (Or.inl ⟨_, rfl⟩) d1_init_40 ⟨[.inl 115, .inl 117, .inr 2, .inr 2, .inr 2, .inr 2, .inr 2, .inr 2, .inr 0, .inr 0, .inr 0, .inr 0, .inr 0], by decide +kernel, by decide⟩ (S' := SS_186) (by decide +kernel) ?_
  refine mv_aload_n d1_init_43 rfl ?_
  refine mv_new2 121 mm_Kmono (by decide +kernel) (by decide +kernel) rfl (by decide +kernel) nc_X1_9 (iz_11.mono (n2 := 121) rfl) (jz_11.mono (n2 := 121) rfl) d1_init_44 (Nat.le_of_ble_eq_true rfl) (Nat.le_of_ble_eq_true rfl) rfl rfl (S' := SS_187) (by decide +kernel) ?_
  refine mv_dup d1_init_47 rfl ?_
  refine mv_bipush (v := 8) d1_init_48 (by decide +kernel) ?_
  refine mv_callK mm_Kmono (by decide +kernel) (kRow l (q := 122) (n := 8) (S' := SS_188) (by decide +kernel) (by decide +kernel) (by decide +kernel) rfl (by decide +kernel) (iz_11.mono (n2 := 122) rfl) rfl (by decide +kernel)) li_X1_11 rfl d1_init_50 ⟨Nat.le_of_ble_eq_true rfl, Nat.le_of_ble_eq_true rfl, Nat.le_of_ble_eq_true rfl, Nat.le_of_ble_eq_true rfl⟩ (As := [.int 8]) rfl rfl (by decide +kernel) (by decide +kernel) ?_
  refine mv_putR2 fc_X1_26 (Or.inl ⟨_, rfl⟩) d1_init_53 ⟨[.inl 115, .inl 117, .inl 119, .inr 2, .inr 2, .inr 2, .inr 2, .inr 2, .inr 0, .inr 0, .inr 0, .inr 0, .inr 0], by decide +kernel, by decide⟩ (S' := SS_189) (by decide +kernel) ?_
  refine mv_aload_n d1_init_56 rfl ?_
  refine mv_new2 123 mm_Kmono (by decide +kernel) (by decide +kernel) rfl (by decide +kernel) nc_X1_9 (iz_11.mono (n2 := 123) rfl) (jz_11.mono (n2 := 123) rfl) d1_init_57 (Nat.le_of_ble_eq_true rfl) (Nat.le_of_ble_eq_true rfl) rfl rfl (S' := SS_190) (by decide +kernel) ?_
  refine mv_dup d1_init_60 rfl ?_
  refine mv_bipush (v := 8) d1_init_61 (by decide +kernel) ?_
  refine mv_callK mm_Kmono (by decide +kernel) (kRow l (q := 124) (n := 8) (S' := SS_191) (by decide +kernel) (by decide +kernel) (by decide +kernel) rfl (by decide +kernel) (iz_11.mono (n2 := 124) rfl) rfl (by decide +kernel)) li_X1_11 rfl d1_init_63 ⟨Nat.le_of_ble_eq_true rfl, Nat.le_of_ble_eq_true rfl, Nat.le_of_ble_eq_true rfl, Nat.le_of_ble_eq_true rfl⟩ (As := [.int 8]) rfl rfl (by decide +kernel) (by decide +kernel) ?_
  refine mv_putR2 fc_X1_29 (Or.inl ⟨_, rfl⟩) d1_init_66 ⟨[.inl 115, .inl 117, .inl 119, .inl 121, .inr 2, .inr 2, .inr 2, .inr 2, .inr 0, .inr 0, .inr 0, .inr 0, .inr 0], by decide +kernel, by decide⟩ (S' := SS_192) (by decide +kernel) ?_
  refine mv_aload_n d1_init_69 rfl ?_
  refine mv_new2 125 mm_Kmono (by decide +kernel) (by decide +kernel) rfl (by decide +kernel) nc_X1_9 (iz_11.mono (n2 := 125) rfl) (jz_11.mono (n2 := 125) rfl) d1_init_70 (Nat.le_of_ble_eq_true rfl) (Nat.le_of_ble_eq_true rfl) rfl rfl (S' := SS_193) (by decide +kernel) ?_
  refine mv_dup d1_init_73 rfl ?_
  refine mv_bipush (v := 8) d1_init_74 (by decide +kernel) ?_
  refine mv_callK mm_Kmono (by decide +kernel) (kRow l (q := 126) (n := 8) (S' := SS_194) (by decide +kernel) (by decide +kernel) (by decide +kernel) rfl (by decide +kernel) (iz_11.mono (n2 := 126) rfl) rfl (by decide +kernel)) li_X1_11 rfl d1_init_76 ⟨Nat.le_of_ble_eq_true rfl, Nat.le_of_ble_eq_true rfl, Nat.le_of_ble_eq_true rfl, Nat.le_of_ble_eq_true rfl⟩ (As := [.int 8]) rfl rfl (by decide +kernel) (by decide +kernel) ?_
  refine mv_putR2 fc_X1_32 (Or.inl ⟨_, rfl⟩) d1_init_79 ⟨[.inl 115, .inl 117, .inl 119, .inl 121, .inl 123, .inr 2, .inr 2, .inr 2, .inr 0, .inr 0, .inr 0, .inr 0, .inr 0], by decide +kernel, by decide⟩ (S' := SS_195) (by decide +kernel) ?_
  refine mv_aload_n d1_init_82 rfl ?_
  refine mv_new2 127 mm_Kmono (by decide +kernel) (by decide +kernel) rfl (by decide +kernel) nc_X1_9 (iz_11.mono (n2 := 127) rfl) (jz_11.mono (n2 := 127) rfl) d1_init_83 (Nat.le_of_ble_eq_true rfl) (Nat.le_of_ble_eq_true rfl) rfl rfl (S' := SS_196) (by decide +kernel) ?_
  refine mv_dup d1_init_86 rfl ?_
  refine mv_bipush (v := 8) d1_init_87 (by decide +kernel) ?_
  refine mv_callK mm_Kmono (by decide +kernel) (kRow l (q := 128) (n := 8) (S' := SS_197) (by decide +kernel) (by decide +kernel) (by decide +kernel) rfl (by decide +kernel) (iz_11.mono (n2 := 128) rfl) rfl (by decide +kernel)) li_X1_11 rfl d1_init_89 ⟨Nat.le_of_ble_eq_true rfl, Nat.le_of_ble_eq_true rfl, Nat.le_of_ble_eq_true rfl, Nat.le_of_ble_eq_true rfl⟩ (As := [.int 8]) rfl rfl (by decide +kernel) (by decide +kernel) ?_
  refine mv_putR2 fc_X1_35 (Or.inl ⟨_, rfl⟩) d1_init_92 ⟨[.inl 115, .inl 117, .inl 119, .inl 121, .inl 123, .inl 125, .inr 2, .inr 2, .inr 0, .inr 0, .inr 0, .inr 0, .inr 0], by decide +kernel, by decide⟩ (S' := SS_198) (by decide +kernel) ?_
  refine mv_aload_n d1_init_95 rfl ?_
  refine mv_new2 129 mm_Kmono (by decide +kernel) (by decide +kernel) rfl (by decide +kernel) nc_X1_9 (iz_11.mono (n2 := 129) rfl) (jz_11.mono (n2 := 129) rfl) d1_init_96 (Nat.le_of_ble_eq_true rfl) (Nat.le_of_ble_eq_true rfl) rfl rfl (S' := SS_199) (by decide +kernel) ?_
  refine mv_dup d1_init_99 rfl ?_
  refine mv_bipush (v := 8) d1_init_100 (by decide +kernel) ?_
  refine mv_callK mm_Kmono (by decide +kernel) (kRow l (q := 130) (n := 8) (S' := SS_200) (by decide +kernel) (by decide +kernel) (by decide +kernel) rfl (by decide +kernel) (iz_11.mono (n2 := 130) rfl) rfl (by decide +kernel)) li_X1_11 rfl d1_init_102 ⟨Nat.le_of_ble_eq_true rfl, Nat.le_of_ble_eq_true rfl, Nat.le_of_ble_eq_true rfl, Nat.le_of_ble_eq_true rfl⟩ (As := [.int 8]) rfl rfl (by decide +kernel) (by decide +kernel) ?_
  refine mv_putR2 fc_X1_38 (Or.inl ⟨_, rfl⟩) d1_init_105 ⟨[.inl 115, .inl 117, .inl 119, .inl 121, .inl 123, .inl 125, .inl 127, .inr 2, .inr 0, .inr 0, .inr 0, .inr 0, .inr 0], by decide +kernel, by decide⟩ (S' := SS_201) (by decide +kernel) ?_
  refine mv_aload_n d1_init_108 rfl ?_
  refine mv_cVv (ci := 1) (As := []) (fs := [.inl 115, .inl 117, .inl 119, .inl 121, .inl 123, .inl 125, .inl 127, .inl 129, .inr 0, .inr 0, .inr 0, .inr 0, .inr 0]) (ok1_clear l wt_SS_201 ⟨[.inl 115, .inl 117, .inl 119, .inl 121, .inl 123, .inl 125, .inl 127, .inl 129, .inr 0, .inr 0, .inr 0, .inr 0, .inr 0], by decide +kernel, by decide +kernel⟩ ev_12) lk_X1_41 rfl d1_init_109 ⟨Nat.le_of_ble_eq_true rfl, Nat.le_of_ble_eq_true rfl, Nat.le_of_ble_eq_true rfl, Nat.le_of_ble_eq_true rfl⟩ rfl (by decide +kernel) rfl rfl ?_
  refine mv_cut 131 (by decide +kernel) ?_
  exact mv_vret rfl d1_init_112 rfl rfl rfl rfl rfl
set_option maxHeartbeats 4000000 in
set_option maxRecDepth 100000 in
/-- ForgottenCrafts$Shelf -/
theorem kc_13 (l : Launch) : mm_K l M8_init SS_206 [.ref 133] II_12 JJ_12 SS_224 II_13 JJ_12 12 162 := by
  refine mm_Kenter rfl (by decide +kernel) rfl ?_
  refine mv_aload_n d8_init_0 rfl ?_
  refine mv_objInit ol_X8 ob_i ob_c d8_init_1 ⟨Nat.le_of_ble_eq_true rfl, Nat.le_of_ble_eq_true rfl⟩ ?_
  refine mv_aload_n d8_init_4 rfl ?_
  refine mv_new2 134 mm_Kmono (by decide +kernel) (by decide +kernel) rfl (by decide +kernel) nc_X8_9 (iz_12.mono (n2 := 134) rfl) (jz_12.mono (n2 := 134) rfl) d8_init_5 (Nat.le_of_ble_eq_true rfl) (Nat.le_of_ble_eq_true rfl) rfl rfl (S' := SS_207) (by decide +kernel) ?_
  refine mv_dup d8_init_8 rfl ?_
  refine mv_bipush (v := 12) d8_init_9 (by decide +kernel) ?_
  refine mv_callK mm_Kmono (by decide +kernel) (kRow l (q := 135) (n := 12) (S' := SS_208) (by decide +kernel) (by decide +kernel) (by decide +kernel) rfl (by decide +kernel) (iz_12.mono (n2 := 135) rfl) rfl (by decide +kernel)) li_X8_11 rfl d8_init_11 ⟨Nat.le_of_ble_eq_true rfl, Nat.le_of_ble_eq_true rfl, Nat.le_of_ble_eq_true rfl, Nat.le_of_ble_eq_true rfl⟩ (As := [.int 12]) rfl rfl (by decide +kernel) (by decide +kernel) ?_
  refine mv_putR2 fc_X8_14 (Or.inl ⟨_, rfl⟩) d8_init_14 ⟨[.inr 2, .inr 2, .inr 2, .inr 2, .inr 2, .inr 2, .inr 0, .inr 0, .inr 0, .inr 0, .inr 0], by decide +kernel, by decide⟩ (S' := SS_209) (by decide +kernel) ?_
  refine mv_aload_n d8_init_17 rfl ?_
  refine mv_new2 136 mm_Kmono (by decide +kernel) (by decide +kernel) rfl (by decide +kernel) nc_X8_9 (iz_12.mono (n2 := 136) rfl) (jz_12.mono (n2 := 136) rfl) d8_init_18 (Nat.le_of_ble_eq_true rfl) (Nat.le_of_ble_eq_true rfl) rfl rfl (S' := SS_210) (by decide +kernel) ?_
  refine mv_dup d8_init_21 rfl ?_
  refine mv_bipush (v := 12) d8_init_22 (by decide +kernel) ?_
  refine mv_callK mm_Kmono (by decide +kernel) (kRow l (q := 137) (n := 12) (S' := SS_211) (by decide +kernel) (by decide +kernel) (by decide +kernel) rfl (by decide +kernel) (iz_12.mono (n2 := 137) rfl) rfl (by decide +kernel)) li_X8_11 rfl d8_init_24 ⟨Nat.le_of_ble_eq_true rfl, Nat.le_of_ble_eq_true rfl, Nat.le_of_ble_eq_true rfl, Nat.le_of_ble_eq_true rfl⟩ (As := [.int 12]) rfl rfl (by decide +kernel) (by decide +kernel) ?_
  refine mv_putR2 fc_X8_20 (Or.inl ⟨_, rfl⟩) d8_init_27 ⟨[.inl 134, .inr 2, .inr 2, .inr 2, .inr 2, .inr 2, .inr 0, .inr 0, .inr 0, .inr 0, .inr 0], by decide +kernel, by decide⟩ (S' := SS_212) (by decide +kernel) ?_
  refine mv_aload_n d8_init_30 rfl ?_
  refine mv_new2 138 mm_Kmono (by decide +kernel) (by decide +kernel) rfl (by decide +kernel) nc_X8_9 (iz_12.mono (n2 := 138) rfl) (jz_12.mono (n2 := 138) rfl) d8_init_31 (Nat.le_of_ble_eq_true rfl) (Nat.le_of_ble_eq_true rfl) rfl rfl (S' := SS_213) (by decide +kernel) ?_
  refine mv_dup d8_init_34 rfl ?_
  refine mv_bipush (v := 12) d8_init_35 (by decide +kernel) ?_
  refine mv_callK mm_Kmono (by decide +kernel) (kRow l (q := 139) (n := 12) (S' := SS_214) (by decide +kernel) (by decide +kernel) (by decide +kernel) rfl (by decide +kernel) (iz_12.mono (n2 := 139) rfl) rfl (by decide +kernel)) li_X8_11 rfl d8_init_37 ⟨Nat.le_of_ble_eq_true rfl, Nat.le_of_ble_eq_true rfl, Nat.le_of_ble_eq_true rfl, Nat.le_of_ble_eq_true rfl⟩ (As := [.int 12]) rfl rfl (by decide +kernel) (by decide +kernel) ?_
  refine mv_putR2 fc_X8_23 (Or.inl ⟨_, rfl⟩) d8_init_40 ⟨[.inl 134, .inl 136, .inr 2, .inr 2, .inr 2, .inr 2, .inr 0, .inr 0, .inr 0, .inr 0, .inr 0], by decide +kernel, by decide⟩ (S' := SS_215) (by decide +kernel) ?_
  refine mv_aload_n d8_init_43 rfl ?_
  refine mv_new2 140 mm_Kmono (by decide +kernel) (by decide +kernel) rfl (by decide +kernel) nc_X8_9 (iz_12.mono (n2 := 140) rfl) (jz_12.mono (n2 := 140) rfl) d8_init_44 (Nat.le_of_ble_eq_true rfl) (Nat.le_of_ble_eq_true rfl) rfl rfl (S' := SS_216) (by decide +kernel) ?_
  refine mv_dup d8_init_47 rfl ?_
  refine mv_bipush (v := 40) d8_init_48 (by decide +kernel) ?_
  refine mv_callK mm_Kmono (by decide +kernel) (kRow l (q := 141) (n := 40) (S' := SS_217) (by decide +kernel) (by decide +kernel) (by decide +kernel) rfl (by decide +kernel) (iz_12.mono (n2 := 141) rfl) rfl (by decide +kernel)) li_X8_11 rfl d8_init_50 ⟨Nat.le_of_ble_eq_true rfl, Nat.le_of_ble_eq_true rfl, Nat.le_of_ble_eq_true rfl, Nat.le_of_ble_eq_true rfl⟩ (As := [.int 40]) rfl rfl (by decide +kernel) (by decide +kernel) ?_
  refine mv_putR2 fc_X8_26 (Or.inl ⟨_, rfl⟩) d8_init_53 ⟨[.inl 134, .inl 136, .inl 138, .inr 2, .inr 2, .inr 2, .inr 0, .inr 0, .inr 0, .inr 0, .inr 0], by decide +kernel, by decide⟩ (S' := SS_218) (by decide +kernel) ?_
  refine mv_aload_n d8_init_56 rfl ?_
  refine mv_new2 142 mm_Kmono (by decide +kernel) (by decide +kernel) rfl (by decide +kernel) nc_X8_9 (iz_12.mono (n2 := 142) rfl) (jz_12.mono (n2 := 142) rfl) d8_init_57 (Nat.le_of_ble_eq_true rfl) (Nat.le_of_ble_eq_true rfl) rfl rfl (S' := SS_219) (by decide +kernel) ?_
  refine mv_dup d8_init_60 rfl ?_
  refine mv_bipush (v := 40) d8_init_61 (by decide +kernel) ?_
  refine mv_callK mm_Kmono (by decide +kernel) (kRow l (q := 143) (n := 40) (S' := SS_220) (by decide +kernel) (by decide +kernel) (by decide +kernel) rfl (by decide +kernel) (iz_12.mono (n2 := 143) rfl) rfl (by decide +kernel)) li_X8_11 rfl d8_init_63 ⟨Nat.le_of_ble_eq_true rfl, Nat.le_of_ble_eq_true rfl, Nat.le_of_ble_eq_true rfl, Nat.le_of_ble_eq_true rfl⟩ (As := [.int 40]) rfl rfl (by decide +kernel) (by decide +kernel) ?_
  refine mv_putR2 fc_X8_29 (Or.inl ⟨_, rfl⟩) d8_init_66 ⟨[.inl 134, .inl 136, .inl 138, .inl 140, .inr 2, .inr 2, .inr 0, .inr 0, .inr 0, .inr 0, .inr 0], by decide +kernel, by decide⟩ (S' := SS_221) (by decide +kernel) ?_
  refine mv_aload_n d8_init_69 rfl ?_
  refine mv_new2 144 mm_Kmono (by decide +kernel) (by decide +kernel) rfl (by decide +kernel) nc_X8_9 (iz_12.mono (n2 := 144) rfl) (jz_12.mono (n2 := 144) rfl) d8_init_70 (Nat.le_of_ble_eq_true rfl) (Nat.le_of_ble_eq_true rfl) rfl rfl (S' := SS_222) (by decide +kernel) ?_
  refine mv_dup d8_init_73 rfl ?_
  refine mv_bipush (v := 40) d8_init_74 (by decide +kernel) ?_
  refine mv_callK mm_Kmono (by decide +kernel) (kRow l (q := 145) (n := 40) (S' := SS_223) (by decide +kernel) (by decide +kernel) (by decide +kernel) rfl (by decide +kernel) (iz_12.mono (n2 := 145) rfl) rfl (by decide +kernel)) li_X8_11 rfl d8_init_76 ⟨Nat.le_of_ble_eq_true rfl, Nat.le_of_ble_eq_true rfl, Nat.le_of_ble_eq_true rfl, Nat.le_of_ble_eq_true rfl⟩ (As := [.int 40]) rfl rfl (by decide +kernel) (by decide +kernel) ?_
  refine mv_putR2 fc_X8_32 (Or.inl ⟨_, rfl⟩) d8_init_79 ⟨[.inl 134, .inl 136, .inl 138, .inl 140, .inl 142, .inr 2, .inr 0, .inr 0, .inr 0, .inr 0, .inr 0], by decide +kernel, by decide⟩ (S' := SS_224) (by decide +kernel) ?_
  refine mv_aload_n d8_init_82 rfl ?_
  refine mv_iconst (v := 0) d8_init_83 (by decide +kernel) ?_
  refine mv_putI fc_X8_35 d8_init_84 ⟨[.inl 134, .inl 136, .inl 138, .inl 140, .inl 142, .inl 144, .inr 0, .inr 0, .inr 0, .inr 0, .inr 0], by decide +kernel, by decide +kernel⟩ ?_
  refine mv_aload_n d8_init_87 rfl ?_
  refine mv_iconst (v := 0) d8_init_88 (by decide +kernel) ?_
  refine mv_putI fc_X8_39 d8_init_89 ⟨[.inl 134, .inl 136, .inl 138, .inl 140, .inl 142, .inl 144, .inr 0, .inr 0, .inr 0, .inr 0, .inr 0], by decide +kernel, by decide +kernel⟩ ?_
  refine mv_aload_n d8_init_92 rfl ?_
  refine mv_iconst (v := 0) d8_init_93 (by decide +kernel) ?_
  refine mv_putI fc_X8_42 d8_init_94 ⟨[.inl 134, .inl 136, .inl 138, .inl 140, .inl 142, .inl 144, .inr 0, .inr 0, .inr 0, .inr 0, .inr 0], by decide +kernel, by decide +kernel⟩ ?_
  refine mv_aload_n d8_init_97 rfl ?_
  refine mv_iconst (v := 0) d8_init_98 (by decide +kernel) ?_
  refine mv_putI fc_X8_45 d8_init_99 ⟨[.inl 134, .inl 136, .inl 138, .inl 140, .inl 142, .inl 144, .inr 0, .inr 0, .inr 0, .inr 0, .inr 0], by decide +kernel, by decide +kernel⟩ ?_
  refine mv_aload_n d8_init_102 rfl ?_
  refine mv_iconst (v := 0) d8_init_103 (by decide +kernel) ?_
  refine mv_putI fc_X8_48 d8_init_104 ⟨[.inl 134, .inl 136, .inl 138, .inl 140, .inl 142, .inl 144, .inr 0, .inr 0, .inr 0, .inr 0, .inr 0], by decide +kernel, by decide +kernel⟩ ?_
  exact mv_vret rfl d8_init_107 rfl rfl rfl rfl rfl
set_option maxHeartbeats 4000000 in
set_option maxRecDepth 100000 in
/-- ForgottenCrafts$TownTeller -/
theorem kc_14 (l : Launch) : mm_K l M9_init SS_226 [.ref 146, .ref 1, .ref 15, .ref 63] II_13 JJ_12 SS_229 II_14 JJ_15 0 0 := by
  refine mm_Kenter rfl (by decide +kernel) rfl ?_
  refine mv_aload_n d9_init_0 rfl ?_
  refine mv_objInit ol_X9 ob_i ob_c d9_init_1 ⟨Nat.le_of_ble_eq_true rfl, Nat.le_of_ble_eq_true rfl⟩ ?_
  refine mv_aload_n d9_init_4 rfl ?_
  refine mv_iconst (v := 0) d9_init_5 (by decide +kernel) ?_
  refine mv_putI fc_X9_9 d9_init_6 ⟨[.inr 2, .inr 2, .inr 2, .inr 0, .inr 1], by decide +kernel, by decide +kernel⟩ ?_
  refine mv_aload_n d9_init_9 rfl ?_
  refine mv_lconst (v := 0) d9_init_10 (by decide +kernel) ?_
  refine mv_putJ fc_X9_15 d9_init_11 ⟨[.inr 2, .inr 2, .inr 2, .inr 0, .inr 1], by decide +kernel, by decide +kernel⟩ ?_
  refine mv_aload_n d9_init_14 rfl ?_
  refine mv_aload_n d9_init_15 rfl ?_
  refine mv_putR2 fc_X9_19 (Or.inl ⟨_, rfl⟩) d9_init_16 ⟨[.inr 2, .inr 2, .inr 2, .inr 0, .inr 1], by decide +kernel, by decide⟩ (S' := SS_227) (by decide +kernel) ?_
  refine mv_aload_n d9_init_19 rfl ?_
  refine mv_aload_n d9_init_20 rfl ?_
  refine mv_putR2 fc_X9_23 (Or.inl ⟨_, rfl⟩) d9_init_21 ⟨[.inl 1, .inr 2, .inr 2, .inr 0, .inr 1], by decide +kernel, by decide⟩ (S' := SS_228) (by decide +kernel) ?_
  refine mv_aload_n d9_init_24 rfl ?_
  refine mv_aload_n d9_init_25 rfl ?_
  refine mv_putR2 fc_X9_27 (Or.inl ⟨_, rfl⟩) d9_init_26 ⟨[.inl 1, .inl 15, .inr 2, .inr 0, .inr 1], by decide +kernel, by decide⟩ (S' := SS_229) (by decide +kernel) ?_
  exact mv_vret rfl d9_init_29 rfl rfl rfl rfl rfl
set_option maxHeartbeats 4000000 in
set_option maxRecDepth 100000 in
/-- ForgottenCrafts$Life -/
theorem kc_15 (l : Launch) : mm_K l M2_init SS_231 [.ref 147, .ref 4, .ref 26, .ref 29] II_14 JJ_15 SS_234 II_14 JJ_15 0 0 := by
  refine mm_Kenter rfl (by decide +kernel) rfl ?_
  refine mv_aload_n d2_init_0 rfl ?_
  refine mv_objInit ol_X2 ob_i ob_c d2_init_1 ⟨Nat.le_of_ble_eq_true rfl, Nat.le_of_ble_eq_true rfl⟩ ?_
  refine mv_aload_n d2_init_4 rfl ?_
  refine mv_aload_n d2_init_5 rfl ?_
  refine mv_putR2 fc_X2_9 (Or.inl ⟨_, rfl⟩) d2_init_6 ⟨[.inr 2, .inr 2, .inr 2], by decide +kernel, by decide⟩ (S' := SS_232) (by decide +kernel) ?_
  refine mv_aload_n d2_init_9 rfl ?_
  refine mv_aload_n d2_init_10 rfl ?_
  refine mv_putR2 fc_X2_15 (Or.inl ⟨_, rfl⟩) d2_init_11 ⟨[.inl 4, .inr 2, .inr 2], by decide +kernel, by decide⟩ (S' := SS_233) (by decide +kernel) ?_
  refine mv_aload_n d2_init_14 rfl ?_
  refine mv_aload_n d2_init_15 rfl ?_
  refine mv_putR2 fc_X2_19 (Or.inl ⟨_, rfl⟩) d2_init_16 ⟨[.inl 4, .inl 26, .inr 2], by decide +kernel, by decide⟩ (S' := SS_234) (by decide +kernel) ?_
  exact mv_vret rfl d2_init_19 rfl rfl rfl rfl rfl
set_option maxHeartbeats 4000000 in
set_option maxRecDepth 100000 in
/-- ForgottenCrafts$Life -/
theorem kc_16 (l : Launch) : mm_K l M2_init SS_236 [.ref 148, .ref 4, .ref 28, .ref 80] II_14 JJ_15 SS_239 II_14 JJ_15 0 0 := by
  refine mm_Kenter rfl (by decide +kernel) rfl ?_
  refine mv_aload_n d2_init_0 rfl ?_
  refine mv_objInit ol_X2 ob_i ob_c d2_init_1 ⟨Nat.le_of_ble_eq_true rfl, Nat.le_of_ble_eq_true rfl⟩ ?_
  refine mv_aload_n d2_init_4 rfl ?_
  refine mv_aload_n d2_init_5 rfl ?_
  refine mv_putR2 fc_X2_9 (Or.inl ⟨_, rfl⟩) d2_init_6 ⟨[.inr 2, .inr 2, .inr 2], by decide +kernel, by decide⟩ (S' := SS_237) (by decide +kernel) ?_
  refine mv_aload_n d2_init_9 rfl ?_
  refine mv_aload_n d2_init_10 rfl ?_
  refine mv_putR2 fc_X2_15 (Or.inl ⟨_, rfl⟩) d2_init_11 ⟨[.inl 4, .inr 2, .inr 2], by decide +kernel, by decide⟩ (S' := SS_238) (by decide +kernel) ?_
  refine mv_aload_n d2_init_14 rfl ?_
  refine mv_aload_n d2_init_15 rfl ?_
  refine mv_putR2 fc_X2_19 (Or.inl ⟨_, rfl⟩) d2_init_16 ⟨[.inl 4, .inl 28, .inr 2], by decide +kernel, by decide⟩ (S' := SS_239) (by decide +kernel) ?_
  exact mv_vret rfl d2_init_19 rfl rfl rfl rfl rfl
set_option maxHeartbeats 4000000 in
set_option maxRecDepth 100000 in
/-- ForgottenCrafts$Plan -/
theorem kc_17 (l : Launch) : mm_K l M3_init SS_241 [.ref 149, .ref 4, .ref 29, .ref 131] II_14 JJ_15 SS_256 II_16 JJ_15 8 1362 := by
  refine mm_Kenter rfl (by decide +kernel) rfl ?_
  refine mv_aload_n d3_init_0 rfl ?_
  refine mv_objInit ol_X3 ob_i ob_c d3_init_1 ⟨Nat.le_of_ble_eq_true rfl, Nat.le_of_ble_eq_true rfl⟩ ?_
  refine mv_aload_n d3_init_4 rfl ?_
  refine mv_new2 150 mm_Kmono (by decide +kernel) (by decide +kernel) rfl (by decide +kernel) nc_X3_9 (iz_14.mono (n2 := 150) rfl) (jz_15.mono (n2 := 150) rfl) d3_init_5 (Nat.le_of_ble_eq_true rfl) (Nat.le_of_ble_eq_true rfl) rfl rfl (S' := SS_242) (by decide +kernel) ?_
  refine mv_dup d3_init_8 rfl ?_
  refine mv_bipush (v := 6) d3_init_9 (by decide +kernel) ?_
  refine mv_callK mm_Kmono (by decide +kernel) (kRow l (q := 151) (n := 6) (S' := SS_243) (by decide +kernel) (by decide +kernel) (by decide +kernel) rfl (by decide +kernel) (iz_14.mono (n2 := 151) rfl) rfl (by decide +kernel)) li_X3_11 rfl d3_init_11 ⟨Nat.le_of_ble_eq_true rfl, Nat.le_of_ble_eq_true rfl, Nat.le_of_ble_eq_true rfl, Nat.le_of_ble_eq_true rfl⟩ (As := [.int 6]) rfl rfl (by decide +kernel) (by decide +kernel) ?_
  refine mv_putR2 fc_X3_14 (Or.inl ⟨_, rfl⟩) d3_init_14 ⟨[.inr 2, .inr 2, .inr 2, .inr 2, .inr 2, .inr 2, .inr 2, .inr 0], by decide +kernel, by decide⟩ (S' := SS_244) (by decide +kernel) ?_
  refine mv_aload_n d3_init_17 rfl ?_
  refine mv_new2 152 mm_Kmono (by decide +kernel) (by decide +kernel) rfl (by decide +kernel) nc_X3_9 (iz_14.mono (n2 := 152) rfl) (jz_15.mono (n2 := 152) rfl) d3_init_18 (Nat.le_of_ble_eq_true rfl) (Nat.le_of_ble_eq_true rfl) rfl rfl (S' := SS_245) (by decide +kernel) ?_
  refine mv_dup d3_init_21 rfl ?_
  refine mv_bipush (v := 48) d3_init_22 (by decide +kernel) ?_
  refine mv_callK mm_Kmono (by decide +kernel) (kRow l (q := 153) (n := 48) (S' := SS_246) (by decide +kernel) (by decide +kernel) (by decide +kernel) rfl (by decide +kernel) (iz_14.mono (n2 := 153) rfl) rfl (by decide +kernel)) li_X3_11 rfl d3_init_24 ⟨Nat.le_of_ble_eq_true rfl, Nat.le_of_ble_eq_true rfl, Nat.le_of_ble_eq_true rfl, Nat.le_of_ble_eq_true rfl⟩ (As := [.int 48]) rfl rfl (by decide +kernel) (by decide +kernel) ?_
  refine mv_putR2 fc_X3_20 (Or.inl ⟨_, rfl⟩) d3_init_27 ⟨[.inr 2, .inr 2, .inr 2, .inl 150, .inr 2, .inr 2, .inr 2, .inr 0], by decide +kernel, by decide⟩ (S' := SS_247) (by decide +kernel) ?_
  refine mv_aload_n d3_init_30 rfl ?_
  refine mv_new2 154 mm_Kmono (by decide +kernel) (by decide +kernel) rfl (by decide +kernel) nc_X3_9 (iz_14.mono (n2 := 154) rfl) (jz_15.mono (n2 := 154) rfl) d3_init_31 (Nat.le_of_ble_eq_true rfl) (Nat.le_of_ble_eq_true rfl) rfl rfl (S' := SS_248) (by decide +kernel) ?_
  refine mv_dup d3_init_34 rfl ?_
  refine mv_sipush (v := 1296) d3_init_35 (by decide +kernel) ?_
  refine mv_callK mm_Kmono (by decide +kernel) (kRow l (q := 155) (n := 1296) (S' := SS_249) (by decide +kernel) (by decide +kernel) (by decide +kernel) rfl (by decide +kernel) (iz_14.mono (n2 := 155) rfl) rfl (by decide +kernel)) li_X3_11 rfl d3_init_38 ⟨Nat.le_of_ble_eq_true rfl, Nat.le_of_ble_eq_true rfl, Nat.le_of_ble_eq_true rfl, Nat.le_of_ble_eq_true rfl⟩ (As := [.int 1296]) rfl rfl (by decide +kernel) (by decide +kernel) ?_
  refine mv_putR2 fc_X3_23 (Or.inl ⟨_, rfl⟩) d3_init_41 ⟨[.inr 2, .inr 2, .inr 2, .inl 150, .inl 152, .inr 2, .inr 2, .inr 0], by decide +kernel, by decide⟩ (S' := SS_250) (by decide +kernel) ?_
  refine mv_aload_n d3_init_44 rfl ?_
  refine mv_new2 156 mm_Kmono (by decide +kernel) (by decide +kernel) rfl (by decide +kernel) nc_X3_9 (iz_14.mono (n2 := 156) rfl) (jz_15.mono (n2 := 156) rfl) d3_init_45 (Nat.le_of_ble_eq_true rfl) (Nat.le_of_ble_eq_true rfl) rfl rfl (S' := SS_251) (by decide +kernel) ?_
  refine mv_dup d3_init_48 rfl ?_
  refine mv_bipush (v := 8) d3_init_49 (by decide +kernel) ?_
  refine mv_callK mm_Kmono (by decide +kernel) (kRow l (q := 157) (n := 8) (S' := SS_252) (by decide +kernel) (by decide +kernel) (by decide +kernel) rfl (by decide +kernel) (iz_14.mono (n2 := 157) rfl) rfl (by decide +kernel)) li_X3_11 rfl d3_init_51 ⟨Nat.le_of_ble_eq_true rfl, Nat.le_of_ble_eq_true rfl, Nat.le_of_ble_eq_true rfl, Nat.le_of_ble_eq_true rfl⟩ (As := [.int 8]) rfl rfl (by decide +kernel) (by decide +kernel) ?_
  refine mv_putR2 fc_X3_26 (Or.inl ⟨_, rfl⟩) d3_init_54 ⟨[.inr 2, .inr 2, .inr 2, .inl 150, .inl 152, .inl 154, .inr 2, .inr 0], by decide +kernel, by decide⟩ (S' := SS_253) (by decide +kernel) ?_
  refine mv_aload_n d3_init_57 rfl ?_
  refine mv_iconst (v := 1) d3_init_58 (by decide +kernel) ?_
  refine mv_putI fc_X3_29 d3_init_59 ⟨[.inr 2, .inr 2, .inr 2, .inl 150, .inl 152, .inl 154, .inl 156, .inr 0], by decide +kernel, by decide +kernel⟩ ?_
  refine mv_aload_n d3_init_62 rfl ?_
  refine mv_aload_n d3_init_63 rfl ?_
  refine mv_putR2 fc_X3_33 (Or.inl ⟨_, rfl⟩) d3_init_64 ⟨[.inr 2, .inr 2, .inr 2, .inl 150, .inl 152, .inl 154, .inl 156, .inr 0], by decide +kernel, by decide⟩ (S' := SS_254) (by decide +kernel) ?_
  refine mv_aload_n d3_init_67 rfl ?_
  refine mv_aload_n d3_init_68 rfl ?_
  refine mv_putR2 fc_X3_37 (Or.inl ⟨_, rfl⟩) d3_init_69 ⟨[.inl 4, .inr 2, .inr 2, .inl 150, .inl 152, .inl 154, .inl 156, .inr 0], by decide +kernel, by decide⟩ (S' := SS_255) (by decide +kernel) ?_
  refine mv_aload_n d3_init_72 rfl ?_
  refine mv_aload_n d3_init_73 rfl ?_
  refine mv_putR2 fc_X3_41 (Or.inl ⟨_, rfl⟩) d3_init_74 ⟨[.inl 4, .inl 29, .inr 2, .inl 150, .inl 152, .inl 154, .inl 156, .inr 0], by decide +kernel, by decide⟩ (S' := SS_256) (by decide +kernel) ?_
  exact mv_vret rfl d3_init_77 rfl rfl rfl rfl rfl
set_option maxHeartbeats 4000000 in
set_option maxRecDepth 100000 in
/-- ForgottenCrafts$Rings -/
theorem kc_18 (l : Launch) : mm_K l M5_init SS_258 [.ref 158, .ref 147] II_16 JJ_15 SS_271 II_17 JJ_15 8 84 := by
  refine mm_Kenter rfl (by decide +kernel) rfl ?_
  refine mv_aload_n d5_init_0 rfl ?_
  refine mv_objInit ol_X5 ob_i ob_c d5_init_1 ⟨Nat.le_of_ble_eq_true rfl, Nat.le_of_ble_eq_true rfl⟩ ?_
  refine mv_aload_n d5_init_4 rfl ?_
  refine mv_new2 159 mm_Kmono (by decide +kernel) (by decide +kernel) rfl (by decide +kernel) nc_X5_9 (iz_16.mono (n2 := 159) rfl) (jz_15.mono (n2 := 159) rfl) d5_init_5 (Nat.le_of_ble_eq_true rfl) (Nat.le_of_ble_eq_true rfl) rfl rfl (S' := SS_259) (by decide +kernel) ?_
  refine mv_dup d5_init_8 rfl ?_
  refine mv_bipush (v := 8) d5_init_9 (by decide +kernel) ?_
  refine mv_callK mm_Kmono (by decide +kernel) (kRow l (q := 160) (n := 8) (S' := SS_260) (by decide +kernel) (by decide +kernel) (by decide +kernel) rfl (by decide +kernel) (iz_16.mono (n2 := 160) rfl) rfl (by decide +kernel)) li_X5_11 rfl d5_init_11 ⟨Nat.le_of_ble_eq_true rfl, Nat.le_of_ble_eq_true rfl, Nat.le_of_ble_eq_true rfl, Nat.le_of_ble_eq_true rfl⟩ (As := [.int 8]) rfl rfl (by decide +kernel) (by decide +kernel) ?_
  refine mv_putR2 fc_X5_14 (Or.inl ⟨_, rfl⟩) d5_init_14 ⟨[.inr 2, .inr 2, .inr 2, .inr 2, .inr 2, .inr 0, .inr 0], by decide +kernel, by decide⟩ (S' := SS_261) (by decide +kernel) ?_
  refine mv_aload_n d5_init_17 rfl ?_
  refine mv_new2 161 mm_Kmono (by decide +kernel) (by decide +kernel) rfl (by decide +kernel) nc_X5_9 (iz_16.mono (n2 := 161) rfl) (jz_15.mono (n2 := 161) rfl) d5_init_18 (Nat.le_of_ble_eq_true rfl) (Nat.le_of_ble_eq_true rfl) rfl rfl (S' := SS_262) (by decide +kernel) ?_
  refine mv_dup d5_init_21 rfl ?_
  refine mv_bipush (v := 64) d5_init_22 (by decide +kernel) ?_
  refine mv_callK mm_Kmono (by decide +kernel) (kRow l (q := 162) (n := 64) (S' := SS_263) (by decide +kernel) (by decide +kernel) (by decide +kernel) rfl (by decide +kernel) (iz_16.mono (n2 := 162) rfl) rfl (by decide +kernel)) li_X5_11 rfl d5_init_24 ⟨Nat.le_of_ble_eq_true rfl, Nat.le_of_ble_eq_true rfl, Nat.le_of_ble_eq_true rfl, Nat.le_of_ble_eq_true rfl⟩ (As := [.int 64]) rfl rfl (by decide +kernel) (by decide +kernel) ?_
  refine mv_putR2 fc_X5_20 (Or.inl ⟨_, rfl⟩) d5_init_27 ⟨[.inr 2, .inl 159, .inr 2, .inr 2, .inr 2, .inr 0, .inr 0], by decide +kernel, by decide⟩ (S' := SS_264) (by decide +kernel) ?_
  refine mv_aload_n d5_init_30 rfl ?_
  refine mv_new2 163 mm_Kmono (by decide +kernel) (by decide +kernel) rfl (by decide +kernel) nc_X5_9 (iz_16.mono (n2 := 163) rfl) (jz_15.mono (n2 := 163) rfl) d5_init_31 (Nat.le_of_ble_eq_true rfl) (Nat.le_of_ble_eq_true rfl) rfl rfl (S' := SS_265) (by decide +kernel) ?_
  refine mv_dup d5_init_34 rfl ?_
  refine mv_iconst (v := 4) d5_init_35 (by decide +kernel) ?_
  refine mv_callK mm_Kmono (by decide +kernel) (kRow l (q := 164) (n := 4) (S' := SS_266) (by decide +kernel) (by decide +kernel) (by decide +kernel) rfl (by decide +kernel) (iz_16.mono (n2 := 164) rfl) rfl (by decide +kernel)) li_X5_11 rfl d5_init_36 ⟨Nat.le_of_ble_eq_true rfl, Nat.le_of_ble_eq_true rfl, Nat.le_of_ble_eq_true rfl, Nat.le_of_ble_eq_true rfl⟩ (As := [.int 4]) rfl rfl (by decide +kernel) (by decide +kernel) ?_
  refine mv_putR2 fc_X5_23 (Or.inl ⟨_, rfl⟩) d5_init_39 ⟨[.inr 2, .inl 159, .inl 161, .inr 2, .inr 2, .inr 0, .inr 0], by decide +kernel, by decide⟩ (S' := SS_267) (by decide +kernel) ?_
  refine mv_aload_n d5_init_42 rfl ?_
  refine mv_new2 165 mm_Kmono (by decide +kernel) (by decide +kernel) rfl (by decide +kernel) nc_X5_9 (iz_16.mono (n2 := 165) rfl) (jz_15.mono (n2 := 165) rfl) d5_init_43 (Nat.le_of_ble_eq_true rfl) (Nat.le_of_ble_eq_true rfl) rfl rfl (S' := SS_268) (by decide +kernel) ?_
  refine mv_dup d5_init_46 rfl ?_
  refine mv_iconst (v := 4) d5_init_47 (by decide +kernel) ?_
  refine mv_callK mm_Kmono (by decide +kernel) (kRow l (q := 166) (n := 4) (S' := SS_269) (by decide +kernel) (by decide +kernel) (by decide +kernel) rfl (by decide +kernel) (iz_16.mono (n2 := 166) rfl) rfl (by decide +kernel)) li_X5_11 rfl d5_init_48 ⟨Nat.le_of_ble_eq_true rfl, Nat.le_of_ble_eq_true rfl, Nat.le_of_ble_eq_true rfl, Nat.le_of_ble_eq_true rfl⟩ (As := [.int 4]) rfl rfl (by decide +kernel) (by decide +kernel) ?_
  refine mv_putR2 fc_X5_26 (Or.inl ⟨_, rfl⟩) d5_init_51 ⟨[.inr 2, .inl 159, .inl 161, .inl 163, .inr 2, .inr 0, .inr 0], by decide +kernel, by decide⟩ (S' := SS_270) (by decide +kernel) ?_
  refine mv_aload_n d5_init_54 rfl ?_
  refine mv_iconst (v := 0) d5_init_55 (by decide +kernel) ?_
  refine mv_putI fc_X5_29 d5_init_56 ⟨[.inr 2, .inl 159, .inl 161, .inl 163, .inl 165, .inr 0, .inr 0], by decide +kernel, by decide +kernel⟩ ?_
  refine mv_aload_n d5_init_59 rfl ?_
  refine mv_iconst (v := 0) d5_init_60 (by decide +kernel) ?_
  refine mv_putI fc_X5_33 d5_init_61 ⟨[.inr 2, .inl 159, .inl 161, .inl 163, .inl 165, .inr 0, .inr 0], by decide +kernel, by decide +kernel⟩ ?_
  refine mv_aload_n d5_init_64 rfl ?_
  refine mv_aload_n d5_init_65 rfl ?_
  refine mv_putR2 fc_X5_36 (Or.inl ⟨_, rfl⟩) d5_init_66 ⟨[.inr 2, .inl 159, .inl 161, .inl 163, .inl 165, .inr 0, .inr 0], by decide +kernel, by decide⟩ (S' := SS_271) (by decide +kernel) ?_
  exact mv_vret rfl d5_init_69 rfl rfl rfl rfl rfl
set_option maxHeartbeats 4000000 in
set_option maxRecDepth 100000 in
/-- ForgottenCrafts -/
theorem kc_19 (l : Launch) : mm_K l M10_init SS_1 [.ref 0] II_0 JJ_0 SS_272 II_18 JJ_15 166 3339 := by
  refine mm_Kenter rfl (by decide +kernel) rfl ?_
  refine mv_aload_n d10_init_0 rfl ?_
  refine mv_objInit ol_X10 ob_i ob_c d10_init_1 ⟨Nat.le_of_ble_eq_true rfl, Nat.le_of_ble_eq_true rfl⟩ ?_
  refine mv_aload_n d10_init_4 rfl ?_
  refine mv_new2 1 mm_Kmono (by decide +kernel) (by decide +kernel) rfl (by decide +kernel) nc_X10_7 (iz_0.mono (n2 := 1) rfl) (jz_0.mono (n2 := 1) rfl) d10_init_5 (Nat.le_of_ble_eq_true rfl) (Nat.le_of_ble_eq_true rfl) rfl rfl (S' := SS_2) (by decide +kernel) ?_
  refine mv_dup d10_init_8 rfl ?_
  refine mv_callK mm_Kmono (by decide +kernel) (kc_1 l) li_X10_9 rfl d10_init_9 ⟨Nat.le_of_ble_eq_true rfl, Nat.le_of_ble_eq_true rfl, Nat.le_of_ble_eq_true rfl, Nat.le_of_ble_eq_true rfl⟩ (As := []) rfl rfl (by decide +kernel) (by decide +kernel) ?_
  refine mv_putR2 fc_X10_10 (Or.inl ⟨_, rfl⟩) d10_init_12 ⟨[.inr 2, .inr 2, .inr 2, .inr 2, .inr 2, .inr 2, .inr 2, .inr 2, .inr 2, .inr 2, .inr 2, .inr 2, .inr 2, .inr 2, .inr 2, .inr 2, .inr 2, .inr 2, .inr 2, .inr 0], by decide +kernel, by decide⟩ (S' := SS_6) (by decide +kernel) ?_
  refine mv_aload_n d10_init_15 rfl ?_
  refine mv_new2 4 mm_Kmono (by decide +kernel) (by decide +kernel) rfl (by decide +kernel) nc_X10_16 iz_1 (jz_0.mono (n2 := 4) rfl) d10_init_16 (Nat.le_of_ble_eq_true rfl) (Nat.le_of_ble_eq_true rfl) rfl rfl (S' := SS_7) (by decide +kernel) ?_
  refine mv_dup d10_init_19 rfl ?_
  refine mv_callK mm_Kmono (by decide +kernel) (kc_2 l) li_X10_18 rfl d10_init_20 ⟨Nat.le_of_ble_eq_true rfl, Nat.le_of_ble_eq_true rfl, Nat.le_of_ble_eq_true rfl, Nat.le_of_ble_eq_true rfl⟩ (As := []) rfl rfl (by decide +kernel) (by decide +kernel) ?_
  refine mv_putR2 fc_X10_19 (Or.inl ⟨_, rfl⟩) d10_init_23 ⟨[.inl 1, .inr 2, .inr 2, .inr 2, .inr 2, .inr 2, .inr 2, .inr 2, .inr 2, .inr 2, .inr 2, .inr 2, .inr 2, .inr 2, .inr 2, .inr 2, .inr 2, .inr 2, .inr 2, .inr 0], by decide +kernel, by decide⟩ (S' := SS_23) (by decide +kernel) ?_
  refine mv_aload_n d10_init_26 rfl ?_
  refine mv_new2 15 mm_Kmono (by decide +kernel) (by decide +kernel) rfl (by decide +kernel) nc_X10_16 iz_2 (jz_0.mono (n2 := 15) rfl) d10_init_27 (Nat.le_of_ble_eq_true rfl) (Nat.le_of_ble_eq_true rfl) rfl rfl (S' := SS_24) (by decide +kernel) ?_
  refine mv_dup d10_init_30 rfl ?_
  refine mv_callK mm_Kmono (by decide +kernel) (kc_3 l) li_X10_18 rfl d10_init_31 ⟨Nat.le_of_ble_eq_true rfl, Nat.le_of_ble_eq_true rfl, Nat.le_of_ble_eq_true rfl, Nat.le_of_ble_eq_true rfl⟩ (As := []) rfl rfl (by decide +kernel) (by decide +kernel) ?_
  refine mv_putR2 fc_X10_23 (Or.inl ⟨_, rfl⟩) d10_init_34 ⟨[.inl 1, .inl 4, .inr 2, .inr 2, .inr 2, .inr 2, .inr 2, .inr 2, .inr 2, .inr 2, .inr 2, .inr 2, .inr 2, .inr 2, .inr 2, .inr 2, .inr 2, .inr 2, .inr 2, .inr 0], by decide +kernel, by decide⟩ (S' := SS_40) (by decide +kernel) ?_
  refine mv_aload_n d10_init_37 rfl ?_
  refine mv_new2 26 mm_Kmono (by decide +kernel) (by decide +kernel) rfl (by decide +kernel) nc_X10_26 iz_3 (jz_0.mono (n2 := 26) rfl) d10_init_38 (Nat.le_of_ble_eq_true rfl) (Nat.le_of_ble_eq_true rfl) rfl rfl (S' := SS_41) (by decide +kernel) ?_
  refine mv_dup d10_init_41 rfl ?_
  refine mv_callK mm_Kmono (by decide +kernel) (kc_4 l) li_X10_28 rfl d10_init_42 ⟨Nat.le_of_ble_eq_true rfl, Nat.le_of_ble_eq_true rfl, Nat.le_of_ble_eq_true rfl, Nat.le_of_ble_eq_true rfl⟩ (As := []) rfl rfl (by decide +kernel) (by decide +kernel) ?_
  refine mv_putR2 fc_X10_29 (Or.inl ⟨_, rfl⟩) d10_init_45 ⟨[.inl 1, .inl 4, .inl 15, .inr 2, .inr 2, .inr 2, .inr 2, .inr 2, .inr 2, .inr 2, .inr 2, .inr 2, .inr 2, .inr 2, .inr 2, .inr 2, .inr 2, .inr 2, .inr 2, .inr 0], by decide +kernel, by decide⟩ (S' := SS_42) (by decide +kernel) ?_
  refine mv_aload_n d10_init_48 rfl ?_
  refine mv_new2 27 mm_Kmono (by decide +kernel) (by decide +kernel) rfl (by decide +kernel) nc_X10_26 iz_4 jz_4 d10_init_49 (Nat.le_of_ble_eq_true rfl) (Nat.le_of_ble_eq_true rfl) rfl rfl (S' := SS_43) (by decide +kernel) ?_
  refine mv_dup d10_init_52 rfl ?_
  refine mv_callK mm_Kmono (by decide +kernel) (kc_5 l) li_X10_28 rfl d10_init_53 ⟨Nat.le_of_ble_eq_true rfl, Nat.le_of_ble_eq_true rfl, Nat.le_of_ble_eq_true rfl, Nat.le_of_ble_eq_true rfl⟩ (As := []) rfl rfl (by decide +kernel) (by decide +kernel) ?_
  refine mv_putR2 fc_X10_33 (Or.inl ⟨_, rfl⟩) d10_init_56 ⟨[.inl 1, .inl 4, .inl 15, .inl 26, .inr 2, .inr 2, .inr 2, .inr 2, .inr 2, .inr 2, .inr 2, .inr 2, .inr 2, .inr 2, .inr 2, .inr 2, .inr 2, .inr 2, .inr 2, .inr 0], by decide +kernel, by decide⟩ (S' := SS_44) (by decide +kernel) ?_
  refine mv_aload_n d10_init_59 rfl ?_
  refine mv_new2 28 mm_Kmono (by decide +kernel) (by decide +kernel) rfl (by decide +kernel) nc_X10_26 iz_5 jz_5 d10_init_60 (Nat.le_of_ble_eq_true rfl) (Nat.le_of_ble_eq_true rfl) rfl rfl (S' := SS_45) (by decide +kernel) ?_
  refine mv_dup d10_init_63 rfl ?_
  refine mv_callK mm_Kmono (by decide +kernel) (kc_6 l) li_X10_28 rfl d10_init_64 ⟨Nat.le_of_ble_eq_true rfl, Nat.le_of_ble_eq_true rfl, Nat.le_of_ble_eq_true rfl, Nat.le_of_ble_eq_true rfl⟩ (As := []) rfl rfl (by decide +kernel) (by decide +kernel) ?_
  refine mv_putR2 fc_X10_36 (Or.inl ⟨_, rfl⟩) d10_init_67 ⟨[.inl 1, .inl 4, .inl 15, .inl 26, .inl 27, .inr 2, .inr 2, .inr 2, .inr 2, .inr 2, .inr 2, .inr 2, .inr 2, .inr 2, .inr 2, .inr 2, .inr 2, .inr 2, .inr 2, .inr 0], by decide +kernel, by decide⟩ (S' := SS_46) (by decide +kernel) ?_
  refine mv_aload_n d10_init_70 rfl ?_
  refine mv_new2 29 mm_Kmono (by decide +kernel) (by decide +kernel) rfl (by decide +kernel) nc_X10_39 iz_6 jz_6 d10_init_71 (Nat.le_of_ble_eq_true rfl) (Nat.le_of_ble_eq_true rfl) rfl rfl (S' := SS_47) (by decide +kernel) ?_
  refine mv_dup d10_init_74 rfl ?_
  refine mv_callK mm_Kmono (by decide +kernel) (kc_7 l) li_X10_41 rfl d10_init_75 ⟨Nat.le_of_ble_eq_true rfl, Nat.le_of_ble_eq_true rfl, Nat.le_of_ble_eq_true rfl, Nat.le_of_ble_eq_true rfl⟩ (As := []) rfl rfl (by decide +kernel) (by decide +kernel) ?_
  refine mv_putR2 fc_X10_42 (Or.inl ⟨_, rfl⟩) d10_init_78 ⟨[.inl 1, .inl 4, .inl 15, .inl 26, .inl 27, .inl 28, .inr 2, .inr 2, .inr 2, .inr 2, .inr 2, .inr 2, .inr 2, .inr 2, .inr 2, .inr 2, .inr 2, .inr 2, .inr 2, .inr 0], by decide +kernel, by decide⟩ (S' := SS_72) (by decide +kernel) ?_
  refine mv_aload_n d10_init_81 rfl ?_
  refine mv_new2 46 mm_Kmono (by decide +kernel) (by decide +kernel) rfl (by decide +kernel) nc_X10_39 iz_7 jz_7 d10_init_82 (Nat.le_of_ble_eq_true rfl) (Nat.le_of_ble_eq_true rfl) rfl rfl (S' := SS_73) (by decide +kernel) ?_
  refine mv_dup d10_init_85 rfl ?_
  refine mv_callK mm_Kmono (by decide +kernel) (kc_8 l) li_X10_41 rfl d10_init_86 ⟨Nat.le_of_ble_eq_true rfl, Nat.le_of_ble_eq_true rfl, Nat.le_of_ble_eq_true rfl, Nat.le_of_ble_eq_true rfl⟩ (As := []) rfl rfl (by decide +kernel) (by decide +kernel) ?_
  refine mv_putR2 fc_X10_46 (Or.inl ⟨_, rfl⟩) d10_init_89 ⟨[.inl 1, .inl 4, .inl 15, .inl 26, .inl 27, .inl 28, .inl 29, .inr 2, .inr 2, .inr 2, .inr 2, .inr 2, .inr 2, .inr 2, .inr 2, .inr 2, .inr 2, .inr 2, .inr 2, .inr 0], by decide +kernel, by decide⟩ (S' := SS_98) (by decide +kernel) ?_
  refine mv_aload_n d10_init_92 rfl ?_
  refine mv_new2 63 mm_Kmono (by decide +kernel) (by decide +kernel) rfl (by decide +kernel) nc_X10_39 iz_8 jz_8 d10_init_93 (Nat.le_of_ble_eq_true rfl) (Nat.le_of_ble_eq_true rfl) rfl rfl (S' := SS_99) (by decide +kernel) ?_
  refine mv_dup d10_init_96 rfl ?_
  refine mv_callK mm_Kmono (by decide +kernel) (kc_9 l) li_X10_41 rfl d10_init_97 ⟨Nat.le_of_ble_eq_true rfl, Nat.le_of_ble_eq_true rfl, Nat.le_of_ble_eq_true rfl, Nat.le_of_ble_eq_true rfl⟩ (As := []) rfl rfl (by decide +kernel) (by decide +kernel) ?_
  refine mv_putR2 fc_X10_49 (Or.inl ⟨_, rfl⟩) d10_init_100 ⟨[.inl 1, .inl 4, .inl 15, .inl 26, .inl 27, .inl 28, .inl 29, .inl 46, .inr 2, .inr 2, .inr 2, .inr 2, .inr 2, .inr 2, .inr 2, .inr 2, .inr 2, .inr 2, .inr 2, .inr 0], by decide +kernel, by decide⟩ (S' := SS_124) (by decide +kernel) ?_
  refine mv_aload_n d10_init_103 rfl ?_
  refine mv_new2 80 mm_Kmono (by decide +kernel) (by decide +kernel) rfl (by decide +kernel) nc_X10_39 iz_9 jz_9 d10_init_104 (Nat.le_of_ble_eq_true rfl) (Nat.le_of_ble_eq_true rfl) rfl rfl (S' := SS_125) (by decide +kernel) ?_
  refine mv_dup d10_init_107 rfl ?_
  refine mv_callK mm_Kmono (by decide +kernel) (kc_10 l) li_X10_41 rfl d10_init_108 ⟨Nat.le_of_ble_eq_true rfl, Nat.le_of_ble_eq_true rfl, Nat.le_of_ble_eq_true rfl, Nat.le_of_ble_eq_true rfl⟩ (As := []) rfl rfl (by decide +kernel) (by decide +kernel) ?_
  refine mv_putR2 fc_X10_52 (Or.inl ⟨_, rfl⟩) d10_init_111 ⟨[.inl 1, .inl 4, .inl 15, .inl 26, .inl 27, .inl 28, .inl 29, .inl 46, .inl 63, .inr 2, .inr 2, .inr 2, .inr 2, .inr 2, .inr 2, .inr 2, .inr 2, .inr 2, .inr 2, .inr 0], by decide +kernel, by decide⟩ (S' := SS_150) (by decide +kernel) ?_
  refine mv_aload_n d10_init_114 rfl ?_
  refine mv_new2 97 mm_Kmono (by decide +kernel) (by decide +kernel) rfl (by decide +kernel) nc_X10_39 iz_10 jz_10 d10_init_115 (Nat.le_of_ble_eq_true rfl) (Nat.le_of_ble_eq_true rfl) rfl rfl (S' := SS_151) (by decide +kernel) ?_
  refine mv_dup d10_init_118 rfl ?_
  refine mv_callK mm_Kmono (by decide +kernel) (kc_11 l) li_X10_41 rfl d10_init_119 ⟨Nat.le_of_ble_eq_true rfl, Nat.le_of_ble_eq_true rfl, Nat.le_of_ble_eq_true rfl, Nat.le_of_ble_eq_true rfl⟩ (As := []) rfl rfl (by decide +kernel) (by decide +kernel) ?_
  refine mv_putR2 fc_X10_55 (Or.inl ⟨_, rfl⟩) d10_init_122 ⟨[.inl 1, .inl 4, .inl 15, .inl 26, .inl 27, .inl 28, .inl 29, .inl 46, .inl 63, .inl 80, .inr 2, .inr 2, .inr 2, .inr 2, .inr 2, .inr 2, .inr 2, .inr 2, .inr 2, .inr 0], by decide +kernel, by decide⟩ (S' := SS_176) (by decide +kernel) ?_
  refine mv_aload_n d10_init_125 rfl ?_
  refine mv_new2 114 mm_Kmono (by decide +kernel) (by decide +kernel) rfl (by decide +kernel) nc_X10_39 iz_11 jz_11 d10_init_126 (Nat.le_of_ble_eq_true rfl) (Nat.le_of_ble_eq_true rfl) rfl rfl (S' := SS_177) (by decide +kernel) ?_
  refine mv_dup d10_init_129 rfl ?_
  refine mv_callK mm_Kmono (by decide +kernel) (kc_12 l) li_X10_41 rfl d10_init_130 ⟨Nat.le_of_ble_eq_true rfl, Nat.le_of_ble_eq_true rfl, Nat.le_of_ble_eq_true rfl, Nat.le_of_ble_eq_true rfl⟩ (As := []) rfl rfl (by decide +kernel) (by decide +kernel) ?_
  refine mv_putR2 fc_X10_58 (Or.inl ⟨_, rfl⟩) d10_init_133 ⟨[.inl 1, .inl 4, .inl 15, .inl 26, .inl 27, .inl 28, .inl 29, .inl 46, .inl 63, .inl 80, .inl 97, .inr 2, .inr 2, .inr 2, .inr 2, .inr 2, .inr 2, .inr 2, .inr 2, .inr 0], by decide +kernel, by decide⟩ (S' := SS_202) (by decide +kernel) ?_
  refine mv_aload_n d10_init_136 rfl ?_
  refine mv_new2 131 mm_Kmono (by decide +kernel) (by decide +kernel) rfl (by decide +kernel) nc_X10_61 iz_12 jz_12 d10_init_137 (Nat.le_of_ble_eq_true rfl) (Nat.le_of_ble_eq_true rfl) rfl rfl (S' := SS_203) (by decide +kernel) ?_
  refine mv_dup d10_init_140 rfl ?_
  refine mv_bipush (v := 6) d10_init_141 (by decide +kernel) ?_
  refine mv_callK mm_Kmono (by decide +kernel) (kRow l (q := 132) (n := 6) (S' := SS_204) (by decide +kernel) (by decide +kernel) (by decide +kernel) rfl (by decide +kernel) (iz_12.mono (n2 := 132) rfl) rfl (by decide +kernel)) li_X10_63 rfl d10_init_143 ⟨Nat.le_of_ble_eq_true rfl, Nat.le_of_ble_eq_true rfl, Nat.le_of_ble_eq_true rfl, Nat.le_of_ble_eq_true rfl⟩ (As := [.int 6]) rfl rfl (by decide +kernel) (by decide +kernel) ?_
  refine mv_putR2 fc_X10_66 (Or.inl ⟨_, rfl⟩) d10_init_146 ⟨[.inl 1, .inl 4, .inl 15, .inl 26, .inl 27, .inl 28, .inl 29, .inl 46, .inl 63, .inl 80, .inl 97, .inl 114, .inr 2, .inr 2, .inr 2, .inr 2, .inr 2, .inr 2, .inr 2, .inr 0], by decide +kernel, by decide⟩ (S' := SS_205) (by decide +kernel) ?_
  refine mv_aload_n d10_init_149 rfl ?_
  refine mv_new2 133 mm_Kmono (by decide +kernel) (by decide +kernel) rfl (by decide +kernel) nc_X10_70 (iz_12.mono (n2 := 133) rfl) (jz_12.mono (n2 := 133) rfl) d10_init_150 (Nat.le_of_ble_eq_true rfl) (Nat.le_of_ble_eq_true rfl) rfl rfl (S' := SS_206) (by decide +kernel) ?_
  refine mv_dup d10_init_153 rfl ?_
  refine mv_callK mm_Kmono (by decide +kernel) (kc_13 l) li_X10_72 rfl d10_init_154 ⟨Nat.le_of_ble_eq_true rfl, Nat.le_of_ble_eq_true rfl, Nat.le_of_ble_eq_true rfl, Nat.le_of_ble_eq_true rfl⟩ (As := []) rfl rfl (by decide +kernel) (by decide +kernel) ?_
  refine mv_putR2 fc_X10_73 (Or.inl ⟨_, rfl⟩) d10_init_157 ⟨[.inl 1, .inl 4, .inl 15, .inl 26, .inl 27, .inl 28, .inl 29, .inl 46, .inl 63, .inl 80, .inl 97, .inl 114, .inl 131, .inr 2, .inr 2, .inr 2, .inr 2, .inr 2, .inr 2, .inr 0], by decide +kernel, by decide⟩ (S' := SS_225) (by decide +kernel) ?_
  refine mv_aload_n d10_init_160 rfl ?_
  refine mv_new2 146 mm_Kmono (by decide +kernel) (by decide +kernel) rfl (by decide +kernel) nc_X10_77 iz_13 (jz_12.mono (n2 := 146) rfl) d10_init_161 (Nat.le_of_ble_eq_true rfl) (Nat.le_of_ble_eq_true rfl) rfl rfl (S' := SS_226) (by decide +kernel) ?_
  refine mv_dup d10_init_164 rfl ?_
  refine mv_aload_n d10_init_165 rfl ?_
  refine mv_getA (f := .inl 1) (v := .ref 1) fl_X10_10 d10_init_166 ⟨[.inl 1, .inl 4, .inl 15, .inl 26, .inl 27, .inl 28, .inl 29, .inl 46, .inl 63, .inl 80, .inl 97, .inl 114, .inl 131, .inl 133, .inr 2, .inr 2, .inr 2, .inr 2, .inr 2, .inr 0], by decide +kernel, by decide +kernel⟩ (fun _ => rfl) ?_
  refine mv_aload_n d10_init_169 rfl ?_
  refine mv_getA (f := .inl 15) (v := .ref 15) fl_X10_23 d10_init_170 ⟨[.inl 1, .inl 4, .inl 15, .inl 26, .inl 27, .inl 28, .inl 29, .inl 46, .inl 63, .inl 80, .inl 97, .inl 114, .inl 131, .inl 133, .inr 2, .inr 2, .inr 2, .inr 2, .inr 2, .inr 0], by decide +kernel, by decide +kernel⟩ (fun _ => rfl) ?_
  refine mv_aload_n d10_init_173 rfl ?_
  refine mv_getA (f := .inl 63) (v := .ref 63) fl_X10_49 d10_init_174 ⟨[.inl 1, .inl 4, .inl 15, .inl 26, .inl 27, .inl 28, .inl 29, .inl 46, .inl 63, .inl 80, .inl 97, .inl 114, .inl 131, .inl 133, .inr 2, .inr 2, .inr 2, .inr 2, .inr 2, .inr 0], by decide +kernel, by decide +kernel⟩ (fun _ => rfl) ?_
  refine mv_callK mm_Kmono (by decide +kernel) (kc_14 l) li_X10_79 rfl d10_init_177 ⟨Nat.le_of_ble_eq_true rfl, Nat.le_of_ble_eq_true rfl, Nat.le_of_ble_eq_true rfl, Nat.le_of_ble_eq_true rfl⟩ (As := [.ref 1, .ref 15, .ref 63]) rfl rfl (by decide +kernel) (by decide +kernel) ?_
  refine mv_putR2 fc_X10_82 (Or.inl ⟨_, rfl⟩) d10_init_180 ⟨[.inl 1, .inl 4, .inl 15, .inl 26, .inl 27, .inl 28, .inl 29, .inl 46, .inl 63, .inl 80, .inl 97, .inl 114, .inl 131, .inl 133, .inr 2, .inr 2, .inr 2, .inr 2, .inr 2, .inr 0], by decide +kernel, by decide⟩ (S' := SS_230) (by decide +kernel) ?_
  refine mv_aload_n d10_init_183 rfl ?_
  refine mv_new2 147 mm_Kmono (by decide +kernel) (by decide +kernel) rfl (by decide +kernel) nc_X10_86 iz_14 jz_15 d10_init_184 (Nat.le_of_ble_eq_true rfl) (Nat.le_of_ble_eq_true rfl) rfl rfl (S' := SS_231) (by decide +kernel) ?_
  refine mv_dup d10_init_187 rfl ?_
  refine mv_aload_n d10_init_188 rfl ?_
  refine mv_getA (f := .inl 4) (v := .ref 4) fl_X10_19 d10_init_189 ⟨[.inl 1, .inl 4, .inl 15, .inl 26, .inl 27, .inl 28, .inl 29, .inl 46, .inl 63, .inl 80, .inl 97, .inl 114, .inl 131, .inl 133, .inl 146, .inr 2, .inr 2, .inr 2, .inr 2, .inr 0], by decide +kernel, by decide +kernel⟩ (fun _ => rfl) ?_
  refine mv_aload_n d10_init_192 rfl ?_
  refine mv_getA (f := .inl 26) (v := .ref 26) fl_X10_29 d10_init_193 ⟨[.inl 1, .inl 4, .inl 15, .inl 26, .inl 27, .inl 28, .inl 29, .inl 46, .inl 63, .inl 80, .inl 97, .inl 114, .inl 131, .inl 133, .inl 146, .inr 2, .inr 2, .inr 2, .inr 2, .inr 0], by decide +kernel, by decide +kernel⟩ (fun _ => rfl) ?_
  refine mv_aload_n d10_init_196 rfl ?_
  refine mv_getA (f := .inl 29) (v := .ref 29) fl_X10_42 d10_init_197 ⟨[.inl 1, .inl 4, .inl 15, .inl 26, .inl 27, .inl 28, .inl 29, .inl 46, .inl 63, .inl 80, .inl 97, .inl 114, .inl 131, .inl 133, .inl 146, .inr 2, .inr 2, .inr 2, .inr 2, .inr 0], by decide +kernel, by decide +kernel⟩ (fun _ => rfl) ?_
  refine mv_callK mm_Kmono (by decide +kernel) (kc_15 l) li_X10_88 rfl d10_init_200 ⟨Nat.le_of_ble_eq_true rfl, Nat.le_of_ble_eq_true rfl, Nat.le_of_ble_eq_true rfl, Nat.le_of_ble_eq_true rfl⟩ (As := [.ref 4, .ref 26, .ref 29]) rfl rfl (by decide +kernel) (by decide +kernel) ?_
  refine mv_putR2 fc_X10_91 (Or.inl ⟨_, rfl⟩) d10_init_203 ⟨[.inl 1, .inl 4, .inl 15, .inl 26, .inl 27, .inl 28, .inl 29, .inl 46, .inl 63, .inl 80, .inl 97, .inl 114, .inl 131, .inl 133, .inl 146, .inr 2, .inr 2, .inr 2, .inr 2, .inr 0], by decide +kernel, by decide⟩ (S' := SS_235) (by decide +kernel) ?_
  refine mv_aload_n d10_init_206 rfl ?_
  refine mv_new2 148 mm_Kmono (by decide +kernel) (by decide +kernel) rfl (by decide +kernel) nc_X10_86 (iz_14.mono (n2 := 148) rfl) (jz_15.mono (n2 := 148) rfl) d10_init_207 (Nat.le_of_ble_eq_true rfl) (Nat.le_of_ble_eq_true rfl) rfl rfl (S' := SS_236) (by decide +kernel) ?_
  refine mv_dup d10_init_210 rfl ?_
  refine mv_aload_n d10_init_211 rfl ?_
  refine mv_getA (f := .inl 4) (v := .ref 4) fl_X10_19 d10_init_212 ⟨[.inl 1, .inl 4, .inl 15, .inl 26, .inl 27, .inl 28, .inl 29, .inl 46, .inl 63, .inl 80, .inl 97, .inl 114, .inl 131, .inl 133, .inl 146, .inl 147, .inr 2, .inr 2, .inr 2, .inr 0], by decide +kernel, by decide +kernel⟩ (fun _ => rfl) ?_
  refine mv_aload_n d10_init_215 rfl ?_
  refine mv_getA (f := .inl 28) (v := .ref 28) fl_X10_36 d10_init_216 ⟨[.inl 1, .inl 4, .inl 15, .inl 26, .inl 27, .inl 28, .inl 29, .inl 46, .inl 63, .inl 80, .inl 97, .inl 114, .inl 131, .inl 133, .inl 146, .inl 147, .inr 2, .inr 2, .inr 2, .inr 0], by decide +kernel, by decide +kernel⟩ (fun _ => rfl) ?_
  refine mv_aload_n d10_init_219 rfl ?_
  refine mv_getA (f := .inl 80) (v := .ref 80) fl_X10_52 d10_init_220 ⟨[.inl 1, .inl 4, .inl 15, .inl 26, .inl 27, .inl 28, .inl 29, .inl 46, .inl 63, .inl 80, .inl 97, .inl 114, .inl 131, .inl 133, .inl 146, .inl 147, .inr 2, .inr 2, .inr 2, .inr 0], by decide +kernel, by decide +kernel⟩ (fun _ => rfl) ?_
  refine mv_callK mm_Kmono (by decide +kernel) (kc_16 l) li_X10_88 rfl d10_init_223 ⟨Nat.le_of_ble_eq_true rfl, Nat.le_of_ble_eq_true rfl, Nat.le_of_ble_eq_true rfl, Nat.le_of_ble_eq_true rfl⟩ (As := [.ref 4, .ref 28, .ref 80]) rfl rfl (by decide +kernel) (by decide +kernel) ?_
  refine mv_putR2 fc_X10_95 (Or.inl ⟨_, rfl⟩) d10_init_226 ⟨[.inl 1, .inl 4, .inl 15, .inl 26, .inl 27, .inl 28, .inl 29, .inl 46, .inl 63, .inl 80, .inl 97, .inl 114, .inl 131, .inl 133, .inl 146, .inl 147, .inr 2, .inr 2, .inr 2, .inr 0], by decide +kernel, by decide⟩ (S' := SS_240) (by decide +kernel) ?_
  refine mv_aload_n d10_init_229 rfl ?_
  refine mv_new2 149 mm_Kmono (by decide +kernel) (by decide +kernel) rfl (by decide +kernel) nc_X10_98 (iz_14.mono (n2 := 149) rfl) (jz_15.mono (n2 := 149) rfl) d10_init_230 (Nat.le_of_ble_eq_true rfl) (Nat.le_of_ble_eq_true rfl) rfl rfl (S' := SS_241) (by decide +kernel) ?_
  refine mv_dup d10_init_233 rfl ?_
  refine mv_aload_n d10_init_234 rfl ?_
  refine mv_getA (f := .inl 4) (v := .ref 4) fl_X10_19 d10_init_235 ⟨[.inl 1, .inl 4, .inl 15, .inl 26, .inl 27, .inl 28, .inl 29, .inl 46, .inl 63, .inl 80, .inl 97, .inl 114, .inl 131, .inl 133, .inl 146, .inl 147, .inl 148, .inr 2, .inr 2, .inr 0], by decide +kernel, by decide +kernel⟩ (fun _ => rfl) ?_
  refine mv_aload_n d10_init_238 rfl ?_
  refine mv_getA (f := .inl 29) (v := .ref 29) fl_X10_42 d10_init_239 ⟨[.inl 1, .inl 4, .inl 15, .inl 26, .inl 27, .inl 28, .inl 29, .inl 46, .inl 63, .inl 80, .inl 97, .inl 114, .inl 131, .inl 133, .inl 146, .inl 147, .inl 148, .inr 2, .inr 2, .inr 0], by decide +kernel, by decide +kernel⟩ (fun _ => rfl) ?_
  refine mv_aload_n d10_init_242 rfl ?_
  refine mv_getA (f := .inl 131) (v := .ref 131) fl_X10_66 d10_init_243 ⟨[.inl 1, .inl 4, .inl 15, .inl 26, .inl 27, .inl 28, .inl 29, .inl 46, .inl 63, .inl 80, .inl 97, .inl 114, .inl 131, .inl 133, .inl 146, .inl 147, .inl 148, .inr 2, .inr 2, .inr 0], by decide +kernel, by decide +kernel⟩ (fun _ => rfl) ?_
  refine mv_callK mm_Kmono (by decide +kernel) (kc_17 l) li_X10_100 rfl d10_init_246 ⟨Nat.le_of_ble_eq_true rfl, Nat.le_of_ble_eq_true rfl, Nat.le_of_ble_eq_true rfl, Nat.le_of_ble_eq_true rfl⟩ (As := [.ref 4, .ref 29, .ref 131]) rfl rfl (by decide +kernel) (by decide +kernel) ?_
  refine mv_putR2 fc_X10_103 (Or.inl ⟨_, rfl⟩) d10_init_249 ⟨[.inl 1, .inl 4, .inl 15, .inl 26, .inl 27, .inl 28, .inl 29, .inl 46, .inl 63, .inl 80, .inl 97, .inl 114, .inl 131, .inl 133, .inl 146, .inl 147, .inl 148, .inr 2, .inr 2, .inr 0], by decide +kernel, by decide⟩ (S' := SS_257) (by decide +kernel) ?_
  refine mv_aload_n d10_init_252 rfl ?_
  refine mv_new2 158 mm_Kmono (by decide +kernel) (by decide +kernel) rfl (by decide +kernel) nc_X10_107 iz_16 (jz_15.mono (n2 := 158) rfl) d10_init_253 (Nat.le_of_ble_eq_true rfl) (Nat.le_of_ble_eq_true rfl) rfl rfl (S' := SS_258) (by decide +kernel) ?_
  refine mv_dup d10_init_256 rfl ?_
  refine mv_aload_n d10_init_257 rfl ?_
  refine mv_getA (f := .inl 147) (v := .ref 147) fl_X10_91 d10_init_258 ⟨[.inl 1, .inl 4, .inl 15, .inl 26, .inl 27, .inl 28, .inl 29, .inl 46, .inl 63, .inl 80, .inl 97, .inl 114, .inl 131, .inl 133, .inl 146, .inl 147, .inl 148, .inl 149, .inr 2, .inr 0], by decide +kernel, by decide +kernel⟩ (fun _ => rfl) ?_
  refine mv_callK mm_Kmono (by decide +kernel) (kc_18 l) li_X10_109 rfl d10_init_261 ⟨Nat.le_of_ble_eq_true rfl, Nat.le_of_ble_eq_true rfl, Nat.le_of_ble_eq_true rfl, Nat.le_of_ble_eq_true rfl⟩ (As := [.ref 147]) rfl rfl (by decide +kernel) (by decide +kernel) ?_
  refine mv_putR2 fc_X10_112 (Or.inl ⟨_, rfl⟩) d10_init_264 ⟨[.inl 1, .inl 4, .inl 15, .inl 26, .inl 27, .inl 28, .inl 29, .inl 46, .inl 63, .inl 80, .inl 97, .inl 114, .inl 131, .inl 133, .inl 146, .inl 147, .inl 148, .inl 149, .inr 2, .inr 0], by decide +kernel, by decide⟩ (S' := SS_272) (by decide +kernel) ?_
  refine mv_aload_n d10_init_267 rfl ?_
  refine mv_iconst (v := 0) d10_init_268 (by decide +kernel) ?_
  refine mv_putI fc_X10_116 d10_init_269 ⟨[.inl 1, .inl 4, .inl 15, .inl 26, .inl 27, .inl 28, .inl 29, .inl 46, .inl 63, .inl 80, .inl 97, .inl 114, .inl 131, .inl 133, .inl 146, .inl 147, .inl 148, .inl 149, .inl 158, .inr 0], by decide +kernel, by decide +kernel⟩ ?_
  exact mv_vret rfl d10_init_272 rfl rfl rfl rfl rfl
set_option maxHeartbeats 4000000 in
set_option maxRecDepth 100000 in
/-- ForgottenCraftsModel -/
theorem kc_20 (l : Launch) : mm_K l M11_init SS_273 [.ref 167] II_18 JJ_15 SS_339 II_19 JJ_19 33 3940 := by
  refine mm_Kenter rfl (by decide +kernel) rfl ?_
  refine mv_aload_n d11_init_0 rfl ?_
  refine mv_objInit ol_X11 ob_i ob_c d11_init_1 ⟨Nat.le_of_ble_eq_true rfl, Nat.le_of_ble_eq_true rfl⟩ ?_
  refine mv_aload_n d11_init_4 rfl ?_
  refine mv_bipush (v := 24) d11_init_5 (by decide +kernel) ?_
  refine mv_newa2 (kd := 0) (n := 24) 168 mm_Kmono (by decide +kernel) (by decide +kernel) rfl (by decide +kernel) (Or.inl ⟨rfl, rfl⟩) ac_int (iz_18.mono (n2 := 168) rfl) (by decide +kernel) (by decide +kernel) (by decide) d11_init_7 (Nat.le_of_ble_eq_true rfl) (Nat.le_of_ble_eq_true rfl) rfl rfl (S' := SS_274) (by decide +kernel) ?_
  refine mv_putR2 fc_X11_7 (Or.inr ⟨_, rfl⟩) d11_init_9 ⟨[.inr 0, .inr 2, .inr 0, .inr 2, .inr 2, .inr 2, .inr 0, .inr 0, .inr 0, .inr 0, .inr 0, .inr 0, .inr 2, .inr 2, .inr 2, .inr 2, .inr 2, .inr 2, .inr 2, .inr 2, .inr 2, .inr 2, .inr 2, .inr 0, .inr 0, .inr 2, .inr 2, .inr 0, .inr 0, .inr 0, .inr 1, .inr 0, .inr 0, .inr 0, .inr 0, .inr 2, .inr 0, .inr 2, .inr 2, .inr 0, .inr 2, .inr 2, .inr 2, .inr 2, .inr 0, .inr 2, .inr 2, .inr 0, .inr 0, .inr 2, .inr 2, .inr 0, .inr 2, .inr 2, .inr 2, .inr 2, .inr 2], by decide +kernel, by decide⟩ (S' := SS_275) (by decide +kernel) ?_
  refine mv_aload_n d11_init_12 rfl ?_
  refine mv_bipush (v := 8) d11_init_13 (by decide +kernel) ?_
  refine mv_newa2 (kd := 0) (n := 8) 169 mm_Kmono (by decide +kernel) (by decide +kernel) rfl (by decide +kernel) (Or.inl ⟨rfl, rfl⟩) ac_int (iz_18.mono (n2 := 169) rfl) (by decide +kernel) (by decide +kernel) (by decide) d11_init_15 (Nat.le_of_ble_eq_true rfl) (Nat.le_of_ble_eq_true rfl) rfl rfl (S' := SS_276) (by decide +kernel) ?_
  refine mv_putR2 fc_X11_13 (Or.inr ⟨_, rfl⟩) d11_init_17 ⟨[.inr 0, .inl 168, .inr 0, .inr 2, .inr 2, .inr 2, .inr 0, .inr 0, .inr 0, .inr 0, .inr 0, .inr 0, .inr 2, .inr 2, .inr 2, .inr 2, .inr 2, .inr 2, .inr 2, .inr 2, .inr 2, .inr 2, .inr 2, .inr 0, .inr 0, .inr 2, .inr 2, .inr 0, .inr 0, .inr 0, .inr 1, .inr 0, .inr 0, .inr 0, .inr 0, .inr 2, .inr 0, .inr 2, .inr 2, .inr 0, .inr 2, .inr 2, .inr 2, .inr 2, .inr 0, .inr 2, .inr 2, .inr 0, .inr 0, .inr 2, .inr 2, .inr 0, .inr 2, .inr 2, .inr 2, .inr 2, .inr 2], by decide +kernel, by decide⟩ (S' := SS_277) (by decide +kernel) ?_
  refine mv_aload_n d11_init_20 rfl ?_
  refine mv_bipush (v := 48) d11_init_21 (by decide +kernel) ?_
  refine mv_newa2 (kd := 0) (n := 48) 170 mm_Kmono (by decide +kernel) (by decide +kernel) rfl (by decide +kernel) (Or.inl ⟨rfl, rfl⟩) ac_int (iz_18.mono (n2 := 170) rfl) (by decide +kernel) (by decide +kernel) (by decide) d11_init_23 (Nat.le_of_ble_eq_true rfl) (Nat.le_of_ble_eq_true rfl) rfl rfl (S' := SS_278) (by decide +kernel) ?_
  refine mv_putR2 fc_X11_16 (Or.inr ⟨_, rfl⟩) d11_init_25 ⟨[.inr 0, .inl 168, .inr 0, .inl 169, .inr 2, .inr 2, .inr 0, .inr 0, .inr 0, .inr 0, .inr 0, .inr 0, .inr 2, .inr 2, .inr 2, .inr 2, .inr 2, .inr 2, .inr 2, .inr 2, .inr 2, .inr 2, .inr 2, .inr 0, .inr 0, .inr 2, .inr 2, .inr 0, .inr 0, .inr 0, .inr 1, .inr 0, .inr 0, .inr 0, .inr 0, .inr 2, .inr 0, .inr 2, .inr 2, .inr 0, .inr 2, .inr 2, .inr 2, .inr 2, .inr 0, .inr 2, .inr 2, .inr 0, .inr 0, .inr 2, .inr 2, .inr 0, .inr 2, .inr 2, .inr 2, .inr 2, .inr 2], by decide +kernel, by decide⟩ (S' := SS_279) (by decide +kernel) ?_
  refine mv_aload_n d11_init_28 rfl ?_
  refine mv_bipush (v := 48) d11_init_29 (by decide +kernel) ?_
  refine mv_newa2 (kd := 0) (n := 48) 171 mm_Kmono (by decide +kernel) (by decide +kernel) rfl (by decide +kernel) (Or.inl ⟨rfl, rfl⟩) ac_int (iz_18.mono (n2 := 171) rfl) (by decide +kernel) (by decide +kernel) (by decide) d11_init_31 (Nat.le_of_ble_eq_true rfl) (Nat.le_of_ble_eq_true rfl) rfl rfl (S' := SS_280) (by decide +kernel) ?_
  refine mv_putR2 fc_X11_19 (Or.inr ⟨_, rfl⟩) d11_init_33 ⟨[.inr 0, .inl 168, .inr 0, .inl 169, .inl 170, .inr 2, .inr 0, .inr 0, .inr 0, .inr 0, .inr 0, .inr 0, .inr 2, .inr 2, .inr 2, .inr 2, .inr 2, .inr 2, .inr 2, .inr 2, .inr 2, .inr 2, .inr 2, .inr 0, .inr 0, .inr 2, .inr 2, .inr 0, .inr 0, .inr 0, .inr 1, .inr 0, .inr 0, .inr 0, .inr 0, .inr 2, .inr 0, .inr 2, .inr 2, .inr 0, .inr 2, .inr 2, .inr 2, .inr 2, .inr 0, .inr 2, .inr 2, .inr 0, .inr 0, .inr 2, .inr 2, .inr 0, .inr 2, .inr 2, .inr 2, .inr 2, .inr 2], by decide +kernel, by decide⟩ (S' := SS_281) (by decide +kernel) ?_
  refine mv_aload_n d11_init_36 rfl ?_
  refine mv_iconst (v := 2) d11_init_37 (by decide +kernel) ?_
  refine mv_putI fc_X11_22 d11_init_38 ⟨[.inr 0, .inl 168, .inr 0, .inl 169, .inl 170, .inl 171, .inr 0, .inr 0, .inr 0, .inr 0, .inr 0, .inr 0, .inr 2, .inr 2, .inr 2, .inr 2, .inr 2, .inr 2, .inr 2, .inr 2, .inr 2, .inr 2, .inr 2, .inr 0, .inr 0, .inr 2, .inr 2, .inr 0, .inr 0, .inr 0, .inr 1, .inr 0, .inr 0, .inr 0, .inr 0, .inr 2, .inr 0, .inr 2, .inr 2, .inr 0, .inr 2, .inr 2, .inr 2, .inr 2, .inr 0, .inr 2, .inr 2, .inr 0, .inr 0, .inr 2, .inr 2, .inr 0, .inr 2, .inr 2, .inr 2, .inr 2, .inr 2], by decide +kernel, by decide +kernel⟩ ?_
  refine mv_aload_n d11_init_41 rfl ?_
  refine mv_iconst (v := 2) d11_init_42 (by decide +kernel) ?_
  refine mv_putI fc_X11_26 d11_init_43 ⟨[.inr 0, .inl 168, .inr 0, .inl 169, .inl 170, .inl 171, .inr 0, .inr 0, .inr 0, .inr 0, .inr 0, .inr 0, .inr 2, .inr 2, .inr 2, .inr 2, .inr 2, .inr 2, .inr 2, .inr 2, .inr 2, .inr 2, .inr 2, .inr 0, .inr 0, .inr 2, .inr 2, .inr 0, .inr 0, .inr 0, .inr 1, .inr 0, .inr 0, .inr 0, .inr 0, .inr 2, .inr 0, .inr 2, .inr 2, .inr 0, .inr 2, .inr 2, .inr 2, .inr 2, .inr 0, .inr 2, .inr 2, .inr 0, .inr 0, .inr 2, .inr 2, .inr 0, .inr 2, .inr 2, .inr 2, .inr 2, .inr 2], by decide +kernel, by decide +kernel⟩ ?_
  refine mv_aload_n d11_init_46 rfl ?_
  refine mv_bipush (v := 25) d11_init_47 (by decide +kernel) ?_
  refine mv_putI fc_X11_29 d11_init_49 ⟨[.inr 0, .inl 168, .inr 0, .inl 169, .inl 170, .inl 171, .inr 0, .inr 0, .inr 0, .inr 0, .inr 0, .inr 0, .inr 2, .inr 2, .inr 2, .inr 2, .inr 2, .inr 2, .inr 2, .inr 2, .inr 2, .inr 2, .inr 2, .inr 0, .inr 0, .inr 2, .inr 2, .inr 0, .inr 0, .inr 0, .inr 1, .inr 0, .inr 0, .inr 0, .inr 0, .inr 2, .inr 0, .inr 2, .inr 2, .inr 0, .inr 2, .inr 2, .inr 2, .inr 2, .inr 0, .inr 2, .inr 2, .inr 0, .inr 0, .inr 2, .inr 2, .inr 0, .inr 2, .inr 2, .inr 2, .inr 2, .inr 2], by decide +kernel, by decide +kernel⟩ ?_
  refine mv_aload_n d11_init_52 rfl ?_
  refine mv_iconst (v := 5) d11_init_53 (by decide +kernel) ?_
  refine mv_putI fc_X11_32 d11_init_54 ⟨[.inr 0, .inl 168, .inr 0, .inl 169, .inl 170, .inl 171, .inr 0, .inr 0, .inr 0, .inr 0, .inr 0, .inr 0, .inr 2, .inr 2, .inr 2, .inr 2, .inr 2, .inr 2, .inr 2, .inr 2, .inr 2, .inr 2, .inr 2, .inr 0, .inr 0, .inr 2, .inr 2, .inr 0, .inr 0, .inr 0, .inr 1, .inr 0, .inr 0, .inr 0, .inr 0, .inr 2, .inr 0, .inr 2, .inr 2, .inr 0, .inr 2, .inr 2, .inr 2, .inr 2, .inr 0, .inr 2, .inr 2, .inr 0, .inr 0, .inr 2, .inr 2, .inr 0, .inr 2, .inr 2, .inr 2, .inr 2, .inr 2], by decide +kernel, by decide +kernel⟩ ?_
  refine mv_aload_n d11_init_57 rfl ?_
  refine mv_bipush (v := 70) d11_init_58 (by decide +kernel) ?_
  refine mv_putI fc_X11_35 d11_init_60 ⟨[.inr 0, .inl 168, .inr 0, .inl 169, .inl 170, .inl 171, .inr 0, .inr 0, .inr 0, .inr 0, .inr 0, .inr 0, .inr 2, .inr 2, .inr 2, .inr 2, .inr 2, .inr 2, .inr 2, .inr 2, .inr 2, .inr 2, .inr 2, .inr 0, .inr 0, .inr 2, .inr 2, .inr 0, .inr 0, .inr 0, .inr 1, .inr 0, .inr 0, .inr 0, .inr 0, .inr 2, .inr 0, .inr 2, .inr 2, .inr 0, .inr 2, .inr 2, .inr 2, .inr 2, .inr 0, .inr 2, .inr 2, .inr 0, .inr 0, .inr 2, .inr 2, .inr 0, .inr 2, .inr 2, .inr 2, .inr 2, .inr 2], by decide +kernel, by decide +kernel⟩ ?_
  refine mv_aload_n d11_init_63 rfl ?_
  refine mv_bipush (v := 8) d11_init_64 (by decide +kernel) ?_
  refine mv_newa2 (kd := 0) (n := 8) 172 mm_Kmono (by decide +kernel) (by decide +kernel) rfl (by decide +kernel) (Or.inl ⟨rfl, rfl⟩) ac_int ((((((iz_18.mono (n2 := 172) rfl).up rfl).up rfl).up rfl).up rfl).up rfl) (by decide +kernel) (by decide +kernel) (by decide) d11_init_66 (Nat.le_of_ble_eq_true rfl) (Nat.le_of_ble_eq_true rfl) rfl rfl (S' := SS_282) (by decide +kernel) ?_
  refine mv_putR2 fc_X11_38 (Or.inr ⟨_, rfl⟩) d11_init_68 ⟨[.inr 0, .inl 168, .inr 0, .inl 169, .inl 170, .inl 171, .inr 0, .inr 0, .inr 0, .inr 0, .inr 0, .inr 0, .inr 2, .inr 2, .inr 2, .inr 2, .inr 2, .inr 2, .inr 2, .inr 2, .inr 2, .inr 2, .inr 2, .inr 0, .inr 0, .inr 2, .inr 2, .inr 0, .inr 0, .inr 0, .inr 1, .inr 0, .inr 0, .inr 0, .inr 0, .inr 2, .inr 0, .inr 2, .inr 2, .inr 0, .inr 2, .inr 2, .inr 2, .inr 2, .inr 0, .inr 2, .inr 2, .inr 0, .inr 0, .inr 2, .inr 2, .inr 0, .inr 2, .inr 2, .inr 2, .inr 2, .inr 2], by decide +kernel, by decide⟩ (S' := SS_283) (by decide +kernel) ?_
  refine mv_aload_n d11_init_71 rfl ?_
  refine mv_bipush (v := 8) d11_init_72 (by decide +kernel) ?_
  refine mv_newa2 (kd := 1) (n := 8) 173 mm_Kmono (by decide +kernel) (by decide +kernel) rfl (by decide +kernel) (Or.inr ⟨rfl, rfl⟩) ac_boolean (((((((iz_18.mono (n2 := 172) rfl).up rfl).up rfl).up rfl).up rfl).up rfl).mono (n2 := 173) rfl) (by decide +kernel) (by decide +kernel) (by decide) d11_init_74 (Nat.le_of_ble_eq_true rfl) (Nat.le_of_ble_eq_true rfl) rfl rfl (S' := SS_284) (by decide +kernel) ?_
  refine mv_putR2 fc_X11_41 (Or.inr ⟨_, rfl⟩) d11_init_76 ⟨[.inr 0, .inl 168, .inr 0, .inl 169, .inl 170, .inl 171, .inr 0, .inr 0, .inr 0, .inr 0, .inr 0, .inr 0, .inl 172, .inr 2, .inr 2, .inr 2, .inr 2, .inr 2, .inr 2, .inr 2, .inr 2, .inr 2, .inr 2, .inr 0, .inr 0, .inr 2, .inr 2, .inr 0, .inr 0, .inr 0, .inr 1, .inr 0, .inr 0, .inr 0, .inr 0, .inr 2, .inr 0, .inr 2, .inr 2, .inr 0, .inr 2, .inr 2, .inr 2, .inr 2, .inr 0, .inr 2, .inr 2, .inr 0, .inr 0, .inr 2, .inr 2, .inr 0, .inr 2, .inr 2, .inr 2, .inr 2, .inr 2], by decide +kernel, by decide⟩ (S' := SS_285) (by decide +kernel) ?_
  refine mv_aload_n d11_init_79 rfl ?_
  refine mv_bipush (v := 48) d11_init_80 (by decide +kernel) ?_
  refine mv_newa2 (kd := 0) (n := 48) 174 mm_Kmono (by decide +kernel) (by decide +kernel) rfl (by decide +kernel) (Or.inl ⟨rfl, rfl⟩) ac_int (((((((iz_18.mono (n2 := 172) rfl).up rfl).up rfl).up rfl).up rfl).up rfl).mono (n2 := 174) rfl) (by decide +kernel) (by decide +kernel) (by decide) d11_init_82 (Nat.le_of_ble_eq_true rfl) (Nat.le_of_ble_eq_true rfl) rfl rfl (S' := SS_286) (by decide +kernel) ?_
  refine mv_putR2 fc_X11_45 (Or.inr ⟨_, rfl⟩) d11_init_84 ⟨[.inr 0, .inl 168, .inr 0, .inl 169, .inl 170, .inl 171, .inr 0, .inr 0, .inr 0, .inr 0, .inr 0, .inr 0, .inl 172, .inl 173, .inr 2, .inr 2, .inr 2, .inr 2, .inr 2, .inr 2, .inr 2, .inr 2, .inr 2, .inr 0, .inr 0, .inr 2, .inr 2, .inr 0, .inr 0, .inr 0, .inr 1, .inr 0, .inr 0, .inr 0, .inr 0, .inr 2, .inr 0, .inr 2, .inr 2, .inr 0, .inr 2, .inr 2, .inr 2, .inr 2, .inr 0, .inr 2, .inr 2, .inr 0, .inr 0, .inr 2, .inr 2, .inr 0, .inr 2, .inr 2, .inr 2, .inr 2, .inr 2], by decide +kernel, by decide⟩ (S' := SS_287) (by decide +kernel) ?_
  refine mv_aload_n d11_init_87 rfl ?_
  refine mv_bipush (v := 48) d11_init_88 (by decide +kernel) ?_
  refine mv_newa2 (kd := 0) (n := 48) 175 mm_Kmono (by decide +kernel) (by decide +kernel) rfl (by decide +kernel) (Or.inl ⟨rfl, rfl⟩) ac_int (((((((iz_18.mono (n2 := 172) rfl).up rfl).up rfl).up rfl).up rfl).up rfl).mono (n2 := 175) rfl) (by decide +kernel) (by decide +kernel) (by decide) d11_init_90 (Nat.le_of_ble_eq_true rfl) (Nat.le_of_ble_eq_true rfl) rfl rfl (S' := SS_288) (by decide +kernel) ?_
  refine mv_putR2 fc_X11_48 (Or.inr ⟨_, rfl⟩) d11_init_92 ⟨[.inr 0, .inl 168, .inr 0, .inl 169, .inl 170, .inl 171, .inr 0, .inr 0, .inr 0, .inr 0, .inr 0, .inr 0, .inl 172, .inl 173, .inl 174, .inr 2, .inr 2, .inr 2, .inr 2, .inr 2, .inr 2, .inr 2, .inr 2, .inr 0, .inr 0, .inr 2, .inr 2, .inr 0, .inr 0, .inr 0, .inr 1, .inr 0, .inr 0, .inr 0, .inr 0, .inr 2, .inr 0, .inr 2, .inr 2, .inr 0, .inr 2, .inr 2, .inr 2, .inr 2, .inr 0, .inr 2, .inr 2, .inr 0, .inr 0, .inr 2, .inr 2, .inr 0, .inr 2, .inr 2, .inr 2, .inr 2, .inr 2], by decide +kernel, by decide⟩ (S' := SS_289) (by decide +kernel) ?_
  refine mv_aload_n d11_init_95 rfl ?_
  refine mv_bipush (v := 8) d11_init_96 (by decide +kernel) ?_
  refine mv_newa2 (kd := 0) (n := 8) 176 mm_Kmono (by decide +kernel) (by decide +kernel) rfl (by decide +kernel) (Or.inl ⟨rfl, rfl⟩) ac_int (((((((iz_18.mono (n2 := 172) rfl).up rfl).up rfl).up rfl).up rfl).up rfl).mono (n2 := 176) rfl) (by decide +kernel) (by decide +kernel) (by decide) d11_init_98 (Nat.le_of_ble_eq_true rfl) (Nat.le_of_ble_eq_true rfl) rfl rfl (S' := SS_290) (by decide +kernel) ?_
  refine mv_putR2 fc_X11_51 (Or.inr ⟨_, rfl⟩) d11_init_100 ⟨[.inr 0, .inl 168, .inr 0, .inl 169, .inl 170, .inl 171, .inr 0, .inr 0, .inr 0, .inr 0, .inr 0, .inr 0, .inl 172, .inl 173, .inl 174, .inl 175, .inr 2, .inr 2, .inr 2, .inr 2, .inr 2, .inr 2, .inr 2, .inr 0, .inr 0, .inr 2, .inr 2, .inr 0, .inr 0, .inr 0, .inr 1, .inr 0, .inr 0, .inr 0, .inr 0, .inr 2, .inr 0, .inr 2, .inr 2, .inr 0, .inr 2, .inr 2, .inr 2, .inr 2, .inr 0, .inr 2, .inr 2, .inr 0, .inr 0, .inr 2, .inr 2, .inr 0, .inr 2, .inr 2, .inr 2, .inr 2, .inr 2], by decide +kernel, by decide⟩ (S' := SS_291) (by decide +kernel) ?_
  refine mv_aload_n d11_init_103 rfl ?_
  refine mv_bipush (v := 8) d11_init_104 (by decide +kernel) ?_
  refine mv_newa2 (kd := 0) (n := 8) 177 mm_Kmono (by decide +kernel) (by decide +kernel) rfl (by decide +kernel) (Or.inl ⟨rfl, rfl⟩) ac_int (((((((iz_18.mono (n2 := 172) rfl).up rfl).up rfl).up rfl).up rfl).up rfl).mono (n2 := 177) rfl) (by decide +kernel) (by decide +kernel) (by decide) d11_init_106 (Nat.le_of_ble_eq_true rfl) (Nat.le_of_ble_eq_true rfl) rfl rfl (S' := SS_292) (by decide +kernel) ?_
  refine mv_putR2 fc_X11_54 (Or.inr ⟨_, rfl⟩) d11_init_108 ⟨[.inr 0, .inl 168, .inr 0, .inl 169, .inl 170, .inl 171, .inr 0, .inr 0, .inr 0, .inr 0, .inr 0, .inr 0, .inl 172, .inl 173, .inl 174, .inl 175, .inl 176, .inr 2, .inr 2, .inr 2, .inr 2, .inr 2, .inr 2, .inr 0, .inr 0, .inr 2, .inr 2, .inr 0, .inr 0, .inr 0, .inr 1, .inr 0, .inr 0, .inr 0, .inr 0, .inr 2, .inr 0, .inr 2, .inr 2, .inr 0, .inr 2, .inr 2, .inr 2, .inr 2, .inr 0, .inr 2, .inr 2, .inr 0, .inr 0, .inr 2, .inr 2, .inr 0, .inr 2, .inr 2, .inr 2, .inr 2, .inr 2], by decide +kernel, by decide⟩ (S' := SS_293) (by decide +kernel) ?_
  refine mv_aload_n d11_init_111 rfl ?_
  refine mv_bipush (v := 8) d11_init_112 (by decide +kernel) ?_
  refine mv_newa2 (kd := 0) (n := 8) 178 mm_Kmono (by decide +kernel) (by decide +kernel) rfl (by decide +kernel) (Or.inl ⟨rfl, rfl⟩) ac_int (((((((iz_18.mono (n2 := 172) rfl).up rfl).up rfl).up rfl).up rfl).up rfl).mono (n2 := 178) rfl) (by decide +kernel) (by decide +kernel) (by decide) d11_init_114 (Nat.le_of_ble_eq_true rfl) (Nat.le_of_ble_eq_true rfl) rfl rfl (S' := SS_294) (by decide +kernel) ?_
  refine mv_putR2 fc_X11_57 (Or.inr ⟨_, rfl⟩) d11_init_116 ⟨[.inr 0, .inl 168, .inr 0, .inl 169, .inl 170, .inl 171, .inr 0, .inr 0, .inr 0, .inr 0, .inr 0, .inr 0, .inl 172, .inl 173, .inl 174, .inl 175, .inl 176, .inl 177, .inr 2, .inr 2, .inr 2, .inr 2, .inr 2, .inr 0, .inr 0, .inr 2, .inr 2, .inr 0, .inr 0, .inr 0, .inr 1, .inr 0, .inr 0, .inr 0, .inr 0, .inr 2, .inr 0, .inr 2, .inr 2, .inr 0, .inr 2, .inr 2, .inr 2, .inr 2, .inr 0, .inr 2, .inr 2, .inr 0, .inr 0, .inr 2, .inr 2, .inr 0, .inr 2, .inr 2, .inr 2, .inr 2, .inr 2], by decide +kernel, by decide⟩ (S' := SS_295) (by decide +kernel) ?_
  refine mv_aload_n d11_init_119 rfl ?_
  refine mv_bipush (v := 8) d11_init_120 (by decide +kernel) ?_
  refine mv_newa2 (kd := 0) (n := 8) 179 mm_Kmono (by decide +kernel) (by decide +kernel) rfl (by decide +kernel) (Or.inl ⟨rfl, rfl⟩) ac_int (((((((iz_18.mono (n2 := 172) rfl).up rfl).up rfl).up rfl).up rfl).up rfl).mono (n2 := 179) rfl) (by decide +kernel) (by decide +kernel) (by decide) d11_init_122 (Nat.le_of_ble_eq_true rfl) (Nat.le_of_ble_eq_true rfl) rfl rfl (S' := SS_296) (by decide +kernel) ?_
  refine mv_putR2 fc_X11_60 (Or.inr ⟨_, rfl⟩) d11_init_124 ⟨[.inr 0, .inl 168, .inr 0, .inl 169, .inl 170, .inl 171, .inr 0, .inr 0, .inr 0, .inr 0, .inr 0, .inr 0, .inl 172, .inl 173, .inl 174, .inl 175, .inl 176, .inl 177, .inl 178, .inr 2, .inr 2, .inr 2, .inr 2, .inr 0, .inr 0, .inr 2, .inr 2, .inr 0, .inr 0, .inr 0, .inr 1, .inr 0, .inr 0, .inr 0, .inr 0, .inr 2, .inr 0, .inr 2, .inr 2, .inr 0, .inr 2, .inr 2, .inr 2, .inr 2, .inr 0, .inr 2, .inr 2, .inr 0, .inr 0, .inr 2, .inr 2, .inr 0, .inr 2, .inr 2, .inr 2, .inr 2, .inr 2], by decide +kernel, by decide⟩ (S' := SS_297) (by decide +kernel) ?_
  refine mv_aload_n d11_init_127 rfl ?_
  refine mv_bipush (v := 8) d11_init_128 (by decide +kernel) ?_
  refine mv_newa2 (kd := 0) (n := 8) 180 mm_Kmono (by decide +kernel) (by decide +kernel) rfl (by decide +kernel) (Or.inl ⟨rfl, rfl⟩) ac_int (((((((iz_18.mono (n2 := 172) rfl).up rfl).up rfl).up rfl).up rfl).up rfl).mono (n2 := 180) rfl) (by decide +kernel) (by decide +kernel) (by decide) d11_init_130 (Nat.le_of_ble_eq_true rfl) (Nat.le_of_ble_eq_true rfl) rfl rfl (S' := SS_298) (by decide +kernel) ?_
  refine mv_putR2 fc_X11_63 (Or.inr ⟨_, rfl⟩) d11_init_132 ⟨[.inr 0, .inl 168, .inr 0, .inl 169, .inl 170, .inl 171, .inr 0, .inr 0, .inr 0, .inr 0, .inr 0, .inr 0, .inl 172, .inl 173, .inl 174, .inl 175, .inl 176, .inl 177, .inl 178, .inl 179, .inr 2, .inr 2, .inr 2, .inr 0, .inr 0, .inr 2, .inr 2, .inr 0, .inr 0, .inr 0, .inr 1, .inr 0, .inr 0, .inr 0, .inr 0, .inr 2, .inr 0, .inr 2, .inr 2, .inr 0, .inr 2, .inr 2, .inr 2, .inr 2, .inr 0, .inr 2, .inr 2, .inr 0, .inr 0, .inr 2, .inr 2, .inr 0, .inr 2, .inr 2, .inr 2, .inr 2, .inr 2], by decide +kernel, by decide⟩ (S' := SS_299) (by decide +kernel) ?_
  refine mv_aload_n d11_init_135 rfl ?_
  refine mv_bipush (v := 8) d11_init_136 (by decide +kernel) ?_
  refine mv_newa2 (kd := 1) (n := 8) 181 mm_Kmono (by decide +kernel) (by decide +kernel) rfl (by decide +kernel) (Or.inr ⟨rfl, rfl⟩) ac_boolean (((((((iz_18.mono (n2 := 172) rfl).up rfl).up rfl).up rfl).up rfl).up rfl).mono (n2 := 181) rfl) (by decide +kernel) (by decide +kernel) (by decide) d11_init_138 (Nat.le_of_ble_eq_true rfl) (Nat.le_of_ble_eq_true rfl) rfl rfl (S' := SS_300) (by decide +kernel) ?_
  refine mv_putR2 fc_X11_66 (Or.inr ⟨_, rfl⟩) d11_init_140 ⟨[.inr 0, .inl 168, .inr 0, .inl 169, .inl 170, .inl 171, .inr 0, .inr 0, .inr 0, .inr 0, .inr 0, .inr 0, .inl 172, .inl 173, .inl 174, .inl 175, .inl 176, .inl 177, .inl 178, .inl 179, .inl 180, .inr 2, .inr 2, .inr 0, .inr 0, .inr 2, .inr 2, .inr 0, .inr 0, .inr 0, .inr 1, .inr 0, .inr 0, .inr 0, .inr 0, .inr 2, .inr 0, .inr 2, .inr 2, .inr 0, .inr 2, .inr 2, .inr 2, .inr 2, .inr 0, .inr 2, .inr 2, .inr 0, .inr 0, .inr 2, .inr 2, .inr 0, .inr 2, .inr 2, .inr 2, .inr 2, .inr 2], by decide +kernel, by decide⟩ (S' := SS_301) (by decide +kernel) ?_
  refine mv_aload_n d11_init_143 rfl ?_
  refine mv_bipush (v := 8) d11_init_144 (by decide +kernel) ?_
  refine mv_newa2 (kd := 1) (n := 8) 182 mm_Kmono (by decide +kernel) (by decide +kernel) rfl (by decide +kernel) (Or.inr ⟨rfl, rfl⟩) ac_boolean (((((((iz_18.mono (n2 := 172) rfl).up rfl).up rfl).up rfl).up rfl).up rfl).mono (n2 := 182) rfl) (by decide +kernel) (by decide +kernel) (by decide) d11_init_146 (Nat.le_of_ble_eq_true rfl) (Nat.le_of_ble_eq_true rfl) rfl rfl (S' := SS_302) (by decide +kernel) ?_
  refine mv_putR2 fc_X11_69 (Or.inr ⟨_, rfl⟩) d11_init_148 ⟨[.inr 0, .inl 168, .inr 0, .inl 169, .inl 170, .inl 171, .inr 0, .inr 0, .inr 0, .inr 0, .inr 0, .inr 0, .inl 172, .inl 173, .inl 174, .inl 175, .inl 176, .inl 177, .inl 178, .inl 179, .inl 180, .inl 181, .inr 2, .inr 0, .inr 0, .inr 2, .inr 2, .inr 0, .inr 0, .inr 0, .inr 1, .inr 0, .inr 0, .inr 0, .inr 0, .inr 2, .inr 0, .inr 2, .inr 2, .inr 0, .inr 2, .inr 2, .inr 2, .inr 2, .inr 0, .inr 2, .inr 2, .inr 0, .inr 0, .inr 2, .inr 2, .inr 0, .inr 2, .inr 2, .inr 2, .inr 2, .inr 2], by decide +kernel, by decide⟩ (S' := SS_303) (by decide +kernel) ?_
  refine mv_aload_n d11_init_151 rfl ?_
  refine mv_bipush (v := 6) d11_init_152 (by decide +kernel) ?_
  refine mv_newa2 (kd := 0) (n := 6) 183 mm_Kmono (by decide +kernel) (by decide +kernel) rfl (by decide +kernel) (Or.inl ⟨rfl, rfl⟩) ac_int (((((((iz_18.mono (n2 := 172) rfl).up rfl).up rfl).up rfl).up rfl).up rfl).mono (n2 := 183) rfl) (by decide +kernel) (by decide +kernel) (by decide) d11_init_154 (Nat.le_of_ble_eq_true rfl) (Nat.le_of_ble_eq_true rfl) rfl rfl (S' := SS_304) (by decide +kernel) ?_
  refine mv_putR2 fc_X11_72 (Or.inr ⟨_, rfl⟩) d11_init_156 ⟨[.inr 0, .inl 168, .inr 0, .inl 169, .inl 170, .inl 171, .inr 0, .inr 0, .inr 0, .inr 0, .inr 0, .inr 0, .inl 172, .inl 173, .inl 174, .inl 175, .inl 176, .inl 177, .inl 178, .inl 179, .inl 180, .inl 181, .inl 182, .inr 0, .inr 0, .inr 2, .inr 2, .inr 0, .inr 0, .inr 0, .inr 1, .inr 0, .inr 0, .inr 0, .inr 0, .inr 2, .inr 0, .inr 2, .inr 2, .inr 0, .inr 2, .inr 2, .inr 2, .inr 2, .inr 0, .inr 2, .inr 2, .inr 0, .inr 0, .inr 2, .inr 2, .inr 0, .inr 2, .inr 2, .inr 2, .inr 2, .inr 2], by decide +kernel, by decide⟩ (S' := SS_305) (by decide +kernel) ?_
  refine mv_aload_n d11_init_159 rfl ?_
  refine mv_sipush (v := 500) d11_init_160 (by decide +kernel) ?_
  refine mv_newa2 (kd := 0) (n := 500) 184 mm_Kmono (by decide +kernel) (by decide +kernel) rfl (by decide +kernel) (Or.inl ⟨rfl, rfl⟩) ac_int (((((((iz_18.mono (n2 := 172) rfl).up rfl).up rfl).up rfl).up rfl).up rfl).mono (n2 := 184) rfl) (by decide +kernel) (by decide +kernel) (by decide) d11_init_163 (Nat.le_of_ble_eq_true rfl) (Nat.le_of_ble_eq_true rfl) rfl rfl (S' := SS_306) (by decide +kernel) ?_
  refine mv_putR2 fc_X11_75 (Or.inr ⟨_, rfl⟩) d11_init_165 ⟨[.inr 0, .inl 168, .inr 0, .inl 169, .inl 170, .inl 171, .inr 0, .inr 0, .inr 0, .inr 0, .inr 0, .inr 0, .inl 172, .inl 173, .inl 174, .inl 175, .inl 176, .inl 177, .inl 178, .inl 179, .inl 180, .inl 181, .inl 182, .inr 0, .inr 0, .inl 183, .inr 2, .inr 0, .inr 0, .inr 0, .inr 1, .inr 0, .inr 0, .inr 0, .inr 0, .inr 2, .inr 0, .inr 2, .inr 2, .inr 0, .inr 2, .inr 2, .inr 2, .inr 2, .inr 0, .inr 2, .inr 2, .inr 0, .inr 0, .inr 2, .inr 2, .inr 0, .inr 2, .inr 2, .inr 2, .inr 2, .inr 2], by decide +kernel, by decide⟩ (S' := SS_307) (by decide +kernel) ?_
  refine mv_aload_n d11_init_168 rfl ?_
  refine mv_iconst (v := (-1)) d11_init_169 (by decide +kernel) ?_
  refine mv_putI fc_X11_78 d11_init_170 ⟨[.inr 0, .inl 168, .inr 0, .inl 169, .inl 170, .inl 171, .inr 0, .inr 0, .inr 0, .inr 0, .inr 0, .inr 0, .inl 172, .inl 173, .inl 174, .inl 175, .inl 176, .inl 177, .inl 178, .inl 179, .inl 180, .inl 181, .inl 182, .inr 0, .inr 0, .inl 183, .inl 184, .inr 0, .inr 0, .inr 0, .inr 1, .inr 0, .inr 0, .inr 0, .inr 0, .inr 2, .inr 0, .inr 2, .inr 2, .inr 0, .inr 2, .inr 2, .inr 2, .inr 2, .inr 0, .inr 2, .inr 2, .inr 0, .inr 0, .inr 2, .inr 2, .inr 0, .inr 2, .inr 2, .inr 2, .inr 2, .inr 2], by decide +kernel, by decide +kernel⟩ ?_
  refine mv_aload_n d11_init_173 rfl ?_
  refine mv_bipush (v := 24) d11_init_174 (by decide +kernel) ?_
  refine mv_newa2 (kd := 0) (n := 24) 185 mm_Kmono (by decide +kernel) (by decide +kernel) rfl (by decide +kernel) (Or.inl ⟨rfl, rfl⟩) ac_int ((((((((iz_18.mono (n2 := 172) rfl).up rfl).up rfl).up rfl).up rfl).up rfl).mono (n2 := 185) rfl).up rfl) (by decide +kernel) (by decide +kernel) (by decide) d11_init_176 (Nat.le_of_ble_eq_true rfl) (Nat.le_of_ble_eq_true rfl) rfl rfl (S' := SS_308) (by decide +kernel) ?_
  refine mv_putR2 fc_X11_81 (Or.inr ⟨_, rfl⟩) d11_init_178 ⟨[.inr 0, .inl 168, .inr 0, .inl 169, .inl 170, .inl 171, .inr 0, .inr 0, .inr 0, .inr 0, .inr 0, .inr 0, .inl 172, .inl 173, .inl 174, .inl 175, .inl 176, .inl 177, .inl 178, .inl 179, .inl 180, .inl 181, .inl 182, .inr 0, .inr 0, .inl 183, .inl 184, .inr 0, .inr 0, .inr 0, .inr 1, .inr 0, .inr 0, .inr 0, .inr 0, .inr 2, .inr 0, .inr 2, .inr 2, .inr 0, .inr 2, .inr 2, .inr 2, .inr 2, .inr 0, .inr 2, .inr 2, .inr 0, .inr 0, .inr 2, .inr 2, .inr 0, .inr 2, .inr 2, .inr 2, .inr 2, .inr 2], by decide +kernel, by decide⟩ (S' := SS_309) (by decide +kernel) ?_
  refine mv_aload_n d11_init_181 rfl ?_
  refine mv_bipush (v := 8) d11_init_182 (by decide +kernel) ?_
  refine mv_newa2 (kd := 0) (n := 8) 186 mm_Kmono (by decide +kernel) (by decide +kernel) rfl (by decide +kernel) (Or.inl ⟨rfl, rfl⟩) ac_int (((((((((iz_18.mono (n2 := 172) rfl).up rfl).up rfl).up rfl).up rfl).up rfl).mono (n2 := 185) rfl).up rfl).mono (n2 := 186) rfl) (by decide +kernel) (by decide +kernel) (by decide) d11_init_184 (Nat.le_of_ble_eq_true rfl) (Nat.le_of_ble_eq_true rfl) rfl rfl (S' := SS_310) (by decide +kernel) ?_
  refine mv_putR2 fc_X11_84 (Or.inr ⟨_, rfl⟩) d11_init_186 ⟨[.inr 0, .inl 168, .inr 0, .inl 169, .inl 170, .inl 171, .inr 0, .inr 0, .inr 0, .inr 0, .inr 0, .inr 0, .inl 172, .inl 173, .inl 174, .inl 175, .inl 176, .inl 177, .inl 178, .inl 179, .inl 180, .inl 181, .inl 182, .inr 0, .inr 0, .inl 183, .inl 184, .inr 0, .inr 0, .inr 0, .inr 1, .inr 0, .inr 0, .inr 0, .inr 0, .inl 185, .inr 0, .inr 2, .inr 2, .inr 0, .inr 2, .inr 2, .inr 2, .inr 2, .inr 0, .inr 2, .inr 2, .inr 0, .inr 0, .inr 2, .inr 2, .inr 0, .inr 2, .inr 2, .inr 2, .inr 2, .inr 2], by decide +kernel, by decide⟩ (S' := SS_311) (by decide +kernel) ?_
  refine mv_aload_n d11_init_189 rfl ?_
  refine mv_bipush (v := 48) d11_init_190 (by decide +kernel) ?_
  refine mv_newa2 (kd := 0) (n := 48) 187 mm_Kmono (by decide +kernel) (by decide +kernel) rfl (by decide +kernel) (Or.inl ⟨rfl, rfl⟩) ac_int (((((((((iz_18.mono (n2 := 172) rfl).up rfl).up rfl).up rfl).up rfl).up rfl).mono (n2 := 185) rfl).up rfl).mono (n2 := 187) rfl) (by decide +kernel) (by decide +kernel) (by decide) d11_init_192 (Nat.le_of_ble_eq_true rfl) (Nat.le_of_ble_eq_true rfl) rfl rfl (S' := SS_312) (by decide +kernel) ?_
  refine mv_putR2 fc_X11_87 (Or.inr ⟨_, rfl⟩) d11_init_194 ⟨[.inr 0, .inl 168, .inr 0, .inl 169, .inl 170, .inl 171, .inr 0, .inr 0, .inr 0, .inr 0, .inr 0, .inr 0, .inl 172, .inl 173, .inl 174, .inl 175, .inl 176, .inl 177, .inl 178, .inl 179, .inl 180, .inl 181, .inl 182, .inr 0, .inr 0, .inl 183, .inl 184, .inr 0, .inr 0, .inr 0, .inr 1, .inr 0, .inr 0, .inr 0, .inr 0, .inl 185, .inr 0, .inl 186, .inr 2, .inr 0, .inr 2, .inr 2, .inr 2, .inr 2, .inr 0, .inr 2, .inr 2, .inr 0, .inr 0, .inr 2, .inr 2, .inr 0, .inr 2, .inr 2, .inr 2, .inr 2, .inr 2], by decide +kernel, by decide⟩ (S' := SS_313) (by decide +kernel) ?_
  refine mv_aload_n d11_init_197 rfl ?_
  refine mv_bipush (v := 48) d11_init_198 (by decide +kernel) ?_
  refine mv_newa2 (kd := 0) (n := 48) 188 mm_Kmono (by decide +kernel) (by decide +kernel) rfl (by decide +kernel) (Or.inl ⟨rfl, rfl⟩) ac_int (((((((((iz_18.mono (n2 := 172) rfl).up rfl).up rfl).up rfl).up rfl).up rfl).mono (n2 := 185) rfl).up rfl).mono (n2 := 188) rfl) (by decide +kernel) (by decide +kernel) (by decide) d11_init_200 (Nat.le_of_ble_eq_true rfl) (Nat.le_of_ble_eq_true rfl) rfl rfl (S' := SS_314) (by decide +kernel) ?_
  refine mv_putR2 fc_X11_90 (Or.inr ⟨_, rfl⟩) d11_init_202 ⟨[.inr 0, .inl 168, .inr 0, .inl 169, .inl 170, .inl 171, .inr 0, .inr 0, .inr 0, .inr 0, .inr 0, .inr 0, .inl 172, .inl 173, .inl 174, .inl 175, .inl 176, .inl 177, .inl 178, .inl 179, .inl 180, .inl 181, .inl 182, .inr 0, .inr 0, .inl 183, .inl 184, .inr 0, .inr 0, .inr 0, .inr 1, .inr 0, .inr 0, .inr 0, .inr 0, .inl 185, .inr 0, .inl 186, .inl 187, .inr 0, .inr 2, .inr 2, .inr 2, .inr 2, .inr 0, .inr 2, .inr 2, .inr 0, .inr 0, .inr 2, .inr 2, .inr 0, .inr 2, .inr 2, .inr 2, .inr 2, .inr 2], by decide +kernel, by decide⟩ (S' := SS_315) (by decide +kernel) ?_
  refine mv_aload_n d11_init_205 rfl ?_
  refine mv_bipush (v := 6) d11_init_206 (by decide +kernel) ?_
  refine mv_newa2 (kd := 0) (n := 6) 189 mm_Kmono (by decide +kernel) (by decide +kernel) rfl (by decide +kernel) (Or.inl ⟨rfl, rfl⟩) ac_int (((((((((iz_18.mono (n2 := 172) rfl).up rfl).up rfl).up rfl).up rfl).up rfl).mono (n2 := 185) rfl).up rfl).mono (n2 := 189) rfl) (by decide +kernel) (by decide +kernel) (by decide) d11_init_208 (Nat.le_of_ble_eq_true rfl) (Nat.le_of_ble_eq_true rfl) rfl rfl (S' := SS_316) (by decide +kernel) ?_
  refine mv_putR2 fc_X11_93 (Or.inr ⟨_, rfl⟩) d11_init_210 ⟨[.inr 0, .inl 168, .inr 0, .inl 169, .inl 170, .inl 171, .inr 0, .inr 0, .inr 0, .inr 0, .inr 0, .inr 0, .inl 172, .inl 173, .inl 174, .inl 175, .inl 176, .inl 177, .inl 178, .inl 179, .inl 180, .inl 181, .inl 182, .inr 0, .inr 0, .inl 183, .inl 184, .inr 0, .inr 0, .inr 0, .inr 1, .inr 0, .inr 0, .inr 0, .inr 0, .inl 185, .inr 0, .inl 186, .inl 187, .inr 0, .inl 188, .inr 2, .inr 2, .inr 2, .inr 0, .inr 2, .inr 2, .inr 0, .inr 0, .inr 2, .inr 2, .inr 0, .inr 2, .inr 2, .inr 2, .inr 2, .inr 2], by decide +kernel, by decide⟩ (S' := SS_317) (by decide +kernel) ?_
  refine mv_aload_n d11_init_213 rfl ?_
  refine mv_sipush (v := 2304) d11_init_214 (by decide +kernel) ?_
  refine mv_newa2 (kd := 0) (n := 2304) 190 mm_Kmono (by decide +kernel) (by decide +kernel) rfl (by decide +kernel) (Or.inl ⟨rfl, rfl⟩) ac_int (((((((((iz_18.mono (n2 := 172) rfl).up rfl).up rfl).up rfl).up rfl).up rfl).mono (n2 := 185) rfl).up rfl).mono (n2 := 190) rfl) (by decide +kernel) (by decide +kernel) (by decide) d11_init_217 (Nat.le_of_ble_eq_true rfl) (Nat.le_of_ble_eq_true rfl) rfl rfl (S' := SS_318) (by decide +kernel) ?_
  refine mv_putR2 fc_X11_96 (Or.inr ⟨_, rfl⟩) d11_init_219 ⟨[.inr 0, .inl 168, .inr 0, .inl 169, .inl 170, .inl 171, .inr 0, .inr 0, .inr 0, .inr 0, .inr 0, .inr 0, .inl 172, .inl 173, .inl 174, .inl 175, .inl 176, .inl 177, .inl 178, .inl 179, .inl 180, .inl 181, .inl 182, .inr 0, .inr 0, .inl 183, .inl 184, .inr 0, .inr 0, .inr 0, .inr 1, .inr 0, .inr 0, .inr 0, .inr 0, .inl 185, .inr 0, .inl 186, .inl 187, .inr 0, .inl 188, .inl 189, .inr 2, .inr 2, .inr 0, .inr 2, .inr 2, .inr 0, .inr 0, .inr 2, .inr 2, .inr 0, .inr 2, .inr 2, .inr 2, .inr 2, .inr 2], by decide +kernel, by decide⟩ (S' := SS_319) (by decide +kernel) ?_
  refine mv_aload_n d11_init_222 rfl ?_
  refine mv_bipush (v := 6) d11_init_223 (by decide +kernel) ?_
  refine mv_newa2 (kd := 0) (n := 6) 191 mm_Kmono (by decide +kernel) (by decide +kernel) rfl (by decide +kernel) (Or.inl ⟨rfl, rfl⟩) ac_int (((((((((iz_18.mono (n2 := 172) rfl).up rfl).up rfl).up rfl).up rfl).up rfl).mono (n2 := 185) rfl).up rfl).mono (n2 := 191) rfl) (by decide +kernel) (by decide +kernel) (by decide) d11_init_225 (Nat.le_of_ble_eq_true rfl) (Nat.le_of_ble_eq_true rfl) rfl rfl (S' := SS_320) (by decide +kernel) ?_
  refine mv_putR2 fc_X11_99 (Or.inr ⟨_, rfl⟩) d11_init_227 ⟨[.inr 0, .inl 168, .inr 0, .inl 169, .inl 170, .inl 171, .inr 0, .inr 0, .inr 0, .inr 0, .inr 0, .inr 0, .inl 172, .inl 173, .inl 174, .inl 175, .inl 176, .inl 177, .inl 178, .inl 179, .inl 180, .inl 181, .inl 182, .inr 0, .inr 0, .inl 183, .inl 184, .inr 0, .inr 0, .inr 0, .inr 1, .inr 0, .inr 0, .inr 0, .inr 0, .inl 185, .inr 0, .inl 186, .inl 187, .inr 0, .inl 188, .inl 189, .inl 190, .inr 2, .inr 0, .inr 2, .inr 2, .inr 0, .inr 0, .inr 2, .inr 2, .inr 0, .inr 2, .inr 2, .inr 2, .inr 2, .inr 2], by decide +kernel, by decide⟩ (S' := SS_321) (by decide +kernel) ?_
  refine mv_aload_n d11_init_230 rfl ?_
  refine mv_iconst (v := 4) d11_init_231 (by decide +kernel) ?_
  refine mv_newa2 (kd := 0) (n := 4) 192 mm_Kmono (by decide +kernel) (by decide +kernel) rfl (by decide +kernel) (Or.inl ⟨rfl, rfl⟩) ac_int (((((((((iz_18.mono (n2 := 172) rfl).up rfl).up rfl).up rfl).up rfl).up rfl).mono (n2 := 185) rfl).up rfl).mono (n2 := 192) rfl) (by decide +kernel) (by decide +kernel) (by decide) d11_init_232 (Nat.le_of_ble_eq_true rfl) (Nat.le_of_ble_eq_true rfl) rfl rfl (S' := SS_322) (by decide +kernel) ?_
  refine mv_putR2 fc_X11_102 (Or.inr ⟨_, rfl⟩) d11_init_234 ⟨[.inr 0, .inl 168, .inr 0, .inl 169, .inl 170, .inl 171, .inr 0, .inr 0, .inr 0, .inr 0, .inr 0, .inr 0, .inl 172, .inl 173, .inl 174, .inl 175, .inl 176, .inl 177, .inl 178, .inl 179, .inl 180, .inl 181, .inl 182, .inr 0, .inr 0, .inl 183, .inl 184, .inr 0, .inr 0, .inr 0, .inr 1, .inr 0, .inr 0, .inr 0, .inr 0, .inl 185, .inr 0, .inl 186, .inl 187, .inr 0, .inl 188, .inl 189, .inl 190, .inl 191, .inr 0, .inr 2, .inr 2, .inr 0, .inr 0, .inr 2, .inr 2, .inr 0, .inr 2, .inr 2, .inr 2, .inr 2, .inr 2], by decide +kernel, by decide⟩ (S' := SS_323) (by decide +kernel) ?_
  refine mv_aload_n d11_init_237 rfl ?_
  refine mv_iconst (v := 4) d11_init_238 (by decide +kernel) ?_
  refine mv_newa2 (kd := 0) (n := 4) 193 mm_Kmono (by decide +kernel) (by decide +kernel) rfl (by decide +kernel) (Or.inl ⟨rfl, rfl⟩) ac_int (((((((((iz_18.mono (n2 := 172) rfl).up rfl).up rfl).up rfl).up rfl).up rfl).mono (n2 := 185) rfl).up rfl).mono (n2 := 193) rfl) (by decide +kernel) (by decide +kernel) (by decide) d11_init_239 (Nat.le_of_ble_eq_true rfl) (Nat.le_of_ble_eq_true rfl) rfl rfl (S' := SS_324) (by decide +kernel) ?_
  refine mv_putR2 fc_X11_105 (Or.inr ⟨_, rfl⟩) d11_init_241 ⟨[.inr 0, .inl 168, .inr 0, .inl 169, .inl 170, .inl 171, .inr 0, .inr 0, .inr 0, .inr 0, .inr 0, .inr 0, .inl 172, .inl 173, .inl 174, .inl 175, .inl 176, .inl 177, .inl 178, .inl 179, .inl 180, .inl 181, .inl 182, .inr 0, .inr 0, .inl 183, .inl 184, .inr 0, .inr 0, .inr 0, .inr 1, .inr 0, .inr 0, .inr 0, .inr 0, .inl 185, .inr 0, .inl 186, .inl 187, .inr 0, .inl 188, .inl 189, .inl 190, .inl 191, .inr 0, .inl 192, .inr 2, .inr 0, .inr 0, .inr 2, .inr 2, .inr 0, .inr 2, .inr 2, .inr 2, .inr 2, .inr 2], by decide +kernel, by decide⟩ (S' := SS_325) (by decide +kernel) ?_
  refine mv_aload_n d11_init_244 rfl ?_
  refine mv_bipush (v := 12) d11_init_245 (by decide +kernel) ?_
  refine mv_newa2 (kd := 0) (n := 12) 194 mm_Kmono (by decide +kernel) (by decide +kernel) rfl (by decide +kernel) (Or.inl ⟨rfl, rfl⟩) ac_int (((((((((iz_18.mono (n2 := 172) rfl).up rfl).up rfl).up rfl).up rfl).up rfl).mono (n2 := 185) rfl).up rfl).mono (n2 := 194) rfl) (by decide +kernel) (by decide +kernel) (by decide) d11_init_247 (Nat.le_of_ble_eq_true rfl) (Nat.le_of_ble_eq_true rfl) rfl rfl (S' := SS_326) (by decide +kernel) ?_
  refine mv_putR2 fc_X11_108 (Or.inr ⟨_, rfl⟩) d11_init_249 ⟨[.inr 0, .inl 168, .inr 0, .inl 169, .inl 170, .inl 171, .inr 0, .inr 0, .inr 0, .inr 0, .inr 0, .inr 0, .inl 172, .inl 173, .inl 174, .inl 175, .inl 176, .inl 177, .inl 178, .inl 179, .inl 180, .inl 181, .inl 182, .inr 0, .inr 0, .inl 183, .inl 184, .inr 0, .inr 0, .inr 0, .inr 1, .inr 0, .inr 0, .inr 0, .inr 0, .inl 185, .inr 0, .inl 186, .inl 187, .inr 0, .inl 188, .inl 189, .inl 190, .inl 191, .inr 0, .inl 192, .inl 193, .inr 0, .inr 0, .inr 2, .inr 2, .inr 0, .inr 2, .inr 2, .inr 2, .inr 2, .inr 2], by decide +kernel, by decide⟩ (S' := SS_327) (by decide +kernel) ?_
  refine mv_aload_n d11_init_252 rfl ?_
  refine mv_bipush (v := 12) d11_init_253 (by decide +kernel) ?_
  refine mv_newa2 (kd := 0) (n := 12) 195 mm_Kmono (by decide +kernel) (by decide +kernel) rfl (by decide +kernel) (Or.inl ⟨rfl, rfl⟩) ac_int (((((((((iz_18.mono (n2 := 172) rfl).up rfl).up rfl).up rfl).up rfl).up rfl).mono (n2 := 185) rfl).up rfl).mono (n2 := 195) rfl) (by decide +kernel) (by decide +kernel) (by decide) d11_init_255 (Nat.le_of_ble_eq_true rfl) (Nat.le_of_ble_eq_true rfl) rfl rfl (S' := SS_328) (by decide +kernel) ?_
  refine mv_putR2 fc_X11_111 (Or.inr ⟨_, rfl⟩) d11_init_257 ⟨[.inr 0, .inl 168, .inr 0, .inl 169, .inl 170, .inl 171, .inr 0, .inr 0, .inr 0, .inr 0, .inr 0, .inr 0, .inl 172, .inl 173, .inl 174, .inl 175, .inl 176, .inl 177, .inl 178, .inl 179, .inl 180, .inl 181, .inl 182, .inr 0, .inr 0, .inl 183, .inl 184, .inr 0, .inr 0, .inr 0, .inr 1, .inr 0, .inr 0, .inr 0, .inr 0, .inl 185, .inr 0, .inl 186, .inl 187, .inr 0, .inl 188, .inl 189, .inl 190, .inl 191, .inr 0, .inl 192, .inl 193, .inr 0, .inr 0, .inl 194, .inr 2, .inr 0, .inr 2, .inr 2, .inr 2, .inr 2, .inr 2], by decide +kernel, by decide⟩ (S' := SS_329) (by decide +kernel) ?_
  refine mv_aload_n d11_init_260 rfl ?_
  refine mv_bipush (v := 40) d11_init_261 (by decide +kernel) ?_
  refine mv_newa2 (kd := 0) (n := 40) 196 mm_Kmono (by decide +kernel) (by decide +kernel) rfl (by decide +kernel) (Or.inl ⟨rfl, rfl⟩) ac_int (((((((((iz_18.mono (n2 := 172) rfl).up rfl).up rfl).up rfl).up rfl).up rfl).mono (n2 := 185) rfl).up rfl).mono (n2 := 196) rfl) (by decide +kernel) (by decide +kernel) (by decide) d11_init_263 (Nat.le_of_ble_eq_true rfl) (Nat.le_of_ble_eq_true rfl) rfl rfl (S' := SS_330) (by decide +kernel) ?_
  refine mv_putR2 fc_X11_114 (Or.inr ⟨_, rfl⟩) d11_init_265 ⟨[.inr 0, .inl 168, .inr 0, .inl 169, .inl 170, .inl 171, .inr 0, .inr 0, .inr 0, .inr 0, .inr 0, .inr 0, .inl 172, .inl 173, .inl 174, .inl 175, .inl 176, .inl 177, .inl 178, .inl 179, .inl 180, .inl 181, .inl 182, .inr 0, .inr 0, .inl 183, .inl 184, .inr 0, .inr 0, .inr 0, .inr 1, .inr 0, .inr 0, .inr 0, .inr 0, .inl 185, .inr 0, .inl 186, .inl 187, .inr 0, .inl 188, .inl 189, .inl 190, .inl 191, .inr 0, .inl 192, .inl 193, .inr 0, .inr 0, .inl 194, .inl 195, .inr 0, .inr 2, .inr 2, .inr 2, .inr 2, .inr 2], by decide +kernel, by decide⟩ (S' := SS_331) (by decide +kernel) ?_
  refine mv_aload_n d11_init_268 rfl ?_
  refine mv_bipush (v := 40) d11_init_269 (by decide +kernel) ?_
  refine mv_newa2 (kd := 0) (n := 40) 197 mm_Kmono (by decide +kernel) (by decide +kernel) rfl (by decide +kernel) (Or.inl ⟨rfl, rfl⟩) ac_int (((((((((iz_18.mono (n2 := 172) rfl).up rfl).up rfl).up rfl).up rfl).up rfl).mono (n2 := 185) rfl).up rfl).mono (n2 := 197) rfl) (by decide +kernel) (by decide +kernel) (by decide) d11_init_271 (Nat.le_of_ble_eq_true rfl) (Nat.le_of_ble_eq_true rfl) rfl rfl (S' := SS_332) (by decide +kernel) ?_
  refine mv_putR2 fc_X11_117 (Or.inr ⟨_, rfl⟩) d11_init_273 ⟨[.inr 0, .inl 168, .inr 0, .inl 169, .inl 170, .inl 171, .inr 0, .inr 0, .inr 0, .inr 0, .inr 0, .inr 0, .inl 172, .inl 173, .inl 174, .inl 175, .inl 176, .inl 177, .inl 178, .inl 179, .inl 180, .inl 181, .inl 182, .inr 0, .inr 0, .inl 183, .inl 184, .inr 0, .inr 0, .inr 0, .inr 1, .inr 0, .inr 0, .inr 0, .inr 0, .inl 185, .inr 0, .inl 186, .inl 187, .inr 0, .inl 188, .inl 189, .inl 190, .inl 191, .inr 0, .inl 192, .inl 193, .inr 0, .inr 0, .inl 194, .inl 195, .inr 0, .inl 196, .inr 2, .inr 2, .inr 2, .inr 2], by decide +kernel, by decide⟩ (S' := SS_333) (by decide +kernel) ?_
  refine mv_aload_n d11_init_276 rfl ?_
  refine mv_bipush (v := 40) d11_init_277 (by decide +kernel) ?_
  refine mv_newa2 (kd := 0) (n := 40) 198 mm_Kmono (by decide +kernel) (by decide +kernel) rfl (by decide +kernel) (Or.inl ⟨rfl, rfl⟩) ac_int (((((((((iz_18.mono (n2 := 172) rfl).up rfl).up rfl).up rfl).up rfl).up rfl).mono (n2 := 185) rfl).up rfl).mono (n2 := 198) rfl) (by decide +kernel) (by decide +kernel) (by decide) d11_init_279 (Nat.le_of_ble_eq_true rfl) (Nat.le_of_ble_eq_true rfl) rfl rfl (S' := SS_334) (by decide +kernel) ?_
  refine mv_putR2 fc_X11_120 (Or.inr ⟨_, rfl⟩) d11_init_281 ⟨[.inr 0, .inl 168, .inr 0, .inl 169, .inl 170, .inl 171, .inr 0, .inr 0, .inr 0, .inr 0, .inr 0, .inr 0, .inl 172, .inl 173, .inl 174, .inl 175, .inl 176, .inl 177, .inl 178, .inl 179, .inl 180, .inl 181, .inl 182, .inr 0, .inr 0, .inl 183, .inl 184, .inr 0, .inr 0, .inr 0, .inr 1, .inr 0, .inr 0, .inr 0, .inr 0, .inl 185, .inr 0, .inl 186, .inl 187, .inr 0, .inl 188, .inl 189, .inl 190, .inl 191, .inr 0, .inl 192, .inl 193, .inr 0, .inr 0, .inl 194, .inl 195, .inr 0, .inl 196, .inl 197, .inr 2, .inr 2, .inr 2], by decide +kernel, by decide⟩ (S' := SS_335) (by decide +kernel) ?_
  refine mv_aload_n d11_init_284 rfl ?_
  refine mv_sipush (v := 540) d11_init_285 (by decide +kernel) ?_
  refine mv_newa2 (kd := 0) (n := 540) 199 mm_Kmono (by decide +kernel) (by decide +kernel) rfl (by decide +kernel) (Or.inl ⟨rfl, rfl⟩) ac_int (((((((((iz_18.mono (n2 := 172) rfl).up rfl).up rfl).up rfl).up rfl).up rfl).mono (n2 := 185) rfl).up rfl).mono (n2 := 199) rfl) (by decide +kernel) (by decide +kernel) (by decide) d11_init_288 (Nat.le_of_ble_eq_true rfl) (Nat.le_of_ble_eq_true rfl) rfl rfl (S' := SS_336) (by decide +kernel) ?_
  refine mv_putR2 fc_X11_123 (Or.inr ⟨_, rfl⟩) d11_init_290 ⟨[.inr 0, .inl 168, .inr 0, .inl 169, .inl 170, .inl 171, .inr 0, .inr 0, .inr 0, .inr 0, .inr 0, .inr 0, .inl 172, .inl 173, .inl 174, .inl 175, .inl 176, .inl 177, .inl 178, .inl 179, .inl 180, .inl 181, .inl 182, .inr 0, .inr 0, .inl 183, .inl 184, .inr 0, .inr 0, .inr 0, .inr 1, .inr 0, .inr 0, .inr 0, .inr 0, .inl 185, .inr 0, .inl 186, .inl 187, .inr 0, .inl 188, .inl 189, .inl 190, .inl 191, .inr 0, .inl 192, .inl 193, .inr 0, .inr 0, .inl 194, .inl 195, .inr 0, .inl 196, .inl 197, .inl 198, .inr 2, .inr 2], by decide +kernel, by decide⟩ (S' := SS_337) (by decide +kernel) ?_
  refine mv_aload_n d11_init_293 rfl ?_
  refine mv_iconst (v := 2) d11_init_294 (by decide +kernel) ?_
  refine mv_newa2 (kd := 1) (n := 2) 200 mm_Kmono (by decide +kernel) (by decide +kernel) rfl (by decide +kernel) (Or.inr ⟨rfl, rfl⟩) ac_boolean (((((((((iz_18.mono (n2 := 172) rfl).up rfl).up rfl).up rfl).up rfl).up rfl).mono (n2 := 185) rfl).up rfl).mono (n2 := 200) rfl) (by decide +kernel) (by decide +kernel) (by decide) d11_init_295 (Nat.le_of_ble_eq_true rfl) (Nat.le_of_ble_eq_true rfl) rfl rfl (S' := SS_338) (by decide +kernel) ?_
  refine mv_putR2 fc_X11_126 (Or.inr ⟨_, rfl⟩) d11_init_297 ⟨[.inr 0, .inl 168, .inr 0, .inl 169, .inl 170, .inl 171, .inr 0, .inr 0, .inr 0, .inr 0, .inr 0, .inr 0, .inl 172, .inl 173, .inl 174, .inl 175, .inl 176, .inl 177, .inl 178, .inl 179, .inl 180, .inl 181, .inl 182, .inr 0, .inr 0, .inl 183, .inl 184, .inr 0, .inr 0, .inr 0, .inr 1, .inr 0, .inr 0, .inr 0, .inr 0, .inl 185, .inr 0, .inl 186, .inl 187, .inr 0, .inl 188, .inl 189, .inl 190, .inl 191, .inr 0, .inl 192, .inl 193, .inr 0, .inr 0, .inl 194, .inl 195, .inr 0, .inl 196, .inl 197, .inl 198, .inl 199, .inr 2], by decide +kernel, by decide⟩ (S' := SS_339) (by decide +kernel) ?_
  refine mv_aload_n d11_init_300 rfl ?_
  refine mv_cVi (ci := 11) (As := []) (fs := [.inr 0, .inl 168, .inr 0, .inl 169, .inl 170, .inl 171, .inr 0, .inr 0, .inr 0, .inr 0, .inr 0, .inr 0, .inl 172, .inl 173, .inl 174, .inl 175, .inl 176, .inl 177, .inl 178, .inl 179, .inl 180, .inl 181, .inl 182, .inr 0, .inr 0, .inl 183, .inl 184, .inr 0, .inr 0, .inr 0, .inr 1, .inr 0, .inr 0, .inr 0, .inr 0, .inl 185, .inr 0, .inl 186, .inl 187, .inr 0, .inl 188, .inl 189, .inl 190, .inl 191, .inr 0, .inl 192, .inl 193, .inr 0, .inr 0, .inl 194, .inl 195, .inr 0, .inl 196, .inl 197, .inl 198, .inl 199, .inl 200]) (ok11_begin l wt_SS_339 ⟨[.inr 0, .inl 168, .inr 0, .inl 169, .inl 170, .inl 171, .inr 0, .inr 0, .inr 0, .inr 0, .inr 0, .inr 0, .inl 172, .inl 173, .inl 174, .inl 175, .inl 176, .inl 177, .inl 178, .inl 179, .inl 180, .inl 181, .inl 182, .inr 0, .inr 0, .inl 183, .inl 184, .inr 0, .inr 0, .inr 0, .inr 1, .inr 0, .inr 0, .inr 0, .inr 0, .inl 185, .inr 0, .inl 186, .inl 187, .inr 0, .inl 188, .inl 189, .inl 190, .inl 191, .inr 0, .inl 192, .inl 193, .inr 0, .inr 0, .inl 194, .inl 195, .inr 0, .inl 196, .inl 197, .inl 198, .inl 199, .inl 200], by decide +kernel, by decide +kernel⟩ ev_19) lk_X11_129 rfl d11_init_301 ⟨Nat.le_of_ble_eq_true rfl, Nat.le_of_ble_eq_true rfl, Nat.le_of_ble_eq_true rfl, Nat.le_of_ble_eq_true rfl⟩ rfl (by decide +kernel) rfl rfl ?_
  refine mv_cut 201 (by decide +kernel) ?_
  refine mv_pop d11_init_304 rfl ?_
  exact mv_vret rfl d11_init_305 rfl rfl rfl rfl rfl
