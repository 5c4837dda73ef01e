/-! ===== the machine does what the functions say: written by wip/whole/gen.py ===== -/
set_option maxHeartbeats 4000000 in
set_option maxRecDepth 100000 in
theorem ok10_begin (l : Launch) {S : mm_Sh} (hS : mm_WT S) {n : Nat}  {v0 : Nat} (h0 : mm_is S v0 10) {I : mm_I} {J : mm_J} {o : Int32 × mm_I × mm_J} (h : f10_begin S n v0 I J = some o) : mm_C l M10_begin S [.ref v0] I J (mm_Qi o.1 o.2.1 o.2.2) := by
  unfold f10_begin at h
  refine mm_enter rfl (by decide +kernel) rfl ?_
  refine mm_aload_n d10_begin_0 rfl ?_
  refine mm_getR fl_X10_42 d10_begin_1 (mm_wtR hS 101 h0 rfl rfl) ?_
  refine mm_getI fl_X10_184 d10_begin_4 (mm_wtI hS (mm_wtT hS 6 1 h0 rfl) rfl) ?_
  refine mm_istore_n d10_begin_7 rfl rfl ?_
  refine mm_aload_n d10_begin_8 rfl ?_
  obtain ⟨o1, hk1, h⟩ := mm_bd h
  refine mm_cVv 10 (As := []) (ok10_startAnew l hS h0 hk1) lk_X10_157 rfl d10_begin_9 (mm_room rfl rfl) rfl h0 rfl rfl ?_
  refine mm_iload_n d10_begin_12 rfl ?_
  have h := Option.some.inj h
  subst h
  exact mm_iret rfl d10_begin_13 ⟨rfl, rfl, rfl⟩
set_option maxHeartbeats 4000000 in
set_option maxRecDepth 100000 in
theorem ok10_judge (l : Launch) {S : mm_Sh} (hS : mm_WT S) {n : Nat}  {v0 : Nat} (h0 : mm_is S v0 10) {I : mm_I} {J : mm_J} {o : Int32} (h : f10_judge S n v0 I J = some o) : mm_C l M10_judge S [.ref v0] I J (mm_Qi o I J) := by
  unfold f10_judge at h
  refine mm_enter rfl (by decide +kernel) rfl ?_
  refine mm_aload_n d10_judge_0 rfl ?_
  refine mm_getR fl_X10_73 d10_judge_1 (mm_wtR hS 108 h0 rfl rfl) ?_
  refine mm_aload_n d10_judge_4 rfl ?_
  refine mm_getR fl_X10_42 d10_judge_5 (mm_wtR hS 101 h0 rfl rfl) ?_
  obtain ⟨o1, hk1, h⟩ := mm_bd h
  refine mm_cVi 8 (As := [.ref (mm_rf S v0 6)]) (ok8_firstWrong l hS (mm_wtT hS 13 8 h0 rfl) (mm_wtT hS 6 1 h0 rfl) hk1) lk_X10_355 rfl d10_judge_8 (mm_room rfl rfl) rfl (mm_wtT hS 13 8 h0 rfl) rfl rfl ?_
  have h := Option.some.inj h
  subst h
  exact mm_iret rfl d10_judge_11 ⟨rfl, rfl, rfl⟩
set_option maxHeartbeats 4000000 in
set_option maxRecDepth 100000 in
theorem ok10_lastHand_101 (l : Launch) {S : mm_Sh} (hS : mm_WT S) {n : Nat}  {s0 : Int32}  {I : mm_I} {J : mm_J} {o : Int32} (h : f10_lastHand_101 S n s0 I J = some o) : mm_W l M10_lastHand (mm_rm (mm_rk M10_lastHand)) 0 0 S (mm_end S (mm_Qi o I J)) 101 [] [.int s0] I J := by
  unfold f10_lastHand_101 at h
  have h := Option.some.inj h
  subst h
  exact mm_iret rfl d10_lastHand_101 ⟨rfl, rfl, rfl⟩
set_option maxHeartbeats 4000000 in
set_option maxRecDepth 100000 in
theorem ok10_lastHand (l : Launch) {S : mm_Sh} (hS : mm_WT S) {n : Nat}  {v0 : Nat} {v1 : Int32} {v2 : Int32} (h0 : mm_is S v0 10) {I : mm_I} {J : mm_J} {o : Int32} (h : f10_lastHand S n v0 v1 v2 I J = some o) : mm_C l M10_lastHand S [.ref v0, .int v1, .int v2] I J (mm_Qi o I J) := by
  unfold f10_lastHand at h
  refine mm_enter rfl (by decide +kernel) rfl ?_
  refine mm_aload_n d10_lastHand_0 rfl ?_
  refine mm_getR fl_X10_19 d10_lastHand_1 (mm_wtR hS 100 h0 rfl rfl) ?_
  refine mm_iload_n d10_lastHand_4 rfl ?_
  obtain ⟨o1, hk1, h⟩ := mm_bd h
  refine mm_cVi 0 (As := [.int v1]) (ok0_hasTrade l hS (mm_wtT hS 1 0 h0 rfl) hk1) lk_X10_216 rfl d10_lastHand_5 (mm_room rfl rfl) rfl (mm_wtT hS 1 0 h0 rfl) rfl rfl ?_
  refine mm_if_ne (tgt := 14) d10_lastHand_8 (by decide) (fun hc2 => ?_) (fun hc2 => ?_)
  · rw [if_neg hc2] at h
    refine mm_iload_n d10_lastHand_14 rfl ?_
    refine mm_iconst (v := 0) d10_lastHand_15 (by decide +kernel) ?_
    refine mm_iconst (v := 1) d10_lastHand_16 (by decide +kernel) ?_
    obtain ⟨o3, hk3, h⟩ := mm_bd h
    refine mm_cSi (As := [.int v2, .int 0, .int 1]) (ok10_within l hS hk3) lk_X10_120 rfl d10_lastHand_17 (mm_room rfl rfl) rfl rfl ?_
    refine mm_if_ne (tgt := 26) d10_lastHand_20 (by decide) (fun hc4 => ?_) (fun hc4 => ?_)
    · rw [if_neg hc4] at h
      refine mm_aload_n d10_lastHand_26 rfl ?_
      refine mm_getR fl_X10_42 d10_lastHand_27 (mm_wtR hS 101 h0 rfl rfl) ?_
      refine mm_iload_n d10_lastHand_30 rfl ?_
      refine mm_iconst (v := 1) d10_lastHand_31 (by decide +kernel) ?_
      obtain ⟨o5, hk5, h⟩ := mm_bd h
      refine mm_cVi 1 (As := [.int v1, .int 1]) (ok1_withSkill l hS (mm_wtT hS 6 1 h0 rfl) hk5) lk_X10_237 rfl d10_lastHand_32 (mm_room rfl rfl) rfl (mm_wtT hS 6 1 h0 rfl) rfl rfl ?_
      refine mm_istore_n d10_lastHand_35 rfl rfl ?_
      refine mm_iload_n d10_lastHand_36 rfl ?_
      obtain ⟨o6, hk6, h⟩ := mm_bd h
      refine mm_cSi (As := [.int o5]) (okJ6_bitCount l hS hk6) lk_X10_299 rfl d10_lastHand_37 (mm_room rfl rfl) rfl rfl ?_
      refine mm_iconst (v := 1) d10_lastHand_40 (by decide +kernel) ?_
      refine mm_icmp_eq (tgt := 46) d10_lastHand_41 (by decide) (fun hc7 => ?_) (fun hc7 => ?_)
      · rw [if_pos hc7] at h
        refine mm_iload_n d10_lastHand_46 rfl ?_
        obtain ⟨o8, hk8, h⟩ := mm_bd h
        refine mm_cSi (As := [.int o5]) (ok10_leastOf l hS hk8) lk_X10_322 rfl d10_lastHand_47 (mm_room rfl rfl) rfl rfl ?_
        refine mm_istore d10_lastHand_50 rfl rfl ?_
        refine mm_iconst (v := 0) d10_lastHand_52 (by decide +kernel) ?_
        refine mm_aload_n d10_lastHand_53 rfl ?_
        refine mm_getR fl_X10_29 d10_lastHand_54 (mm_wtR hS 107 h0 rfl rfl) ?_
        refine mm_getI fl_X10_199 d10_lastHand_57 (mm_wtI hS (mm_wtT hS 3 7 h0 rfl) rfl) ?_
        refine mm_aload_n d10_lastHand_60 rfl ?_
        refine mm_getR fl_X10_42 d10_lastHand_61 (mm_wtR hS 101 h0 rfl rfl) ?_
        refine mm_getR fl_X10_244 d10_lastHand_64 (mm_wtR hS 106 (mm_wtT hS 6 1 h0 rfl) rfl rfl) ?_
        refine mm_iload d10_lastHand_67 rfl ?_
        obtain ⟨o9, hk9, h⟩ := mm_bd h
        refine mm_cVi 6 (As := [.int o8]) (ok6_at l hS (mm_wtT hS 0 6 (mm_wtT hS 6 1 h0 rfl) rfl) hk9) lk_X10_224 rfl d10_lastHand_69 (mm_room rfl rfl) rfl (mm_wtT hS 0 6 (mm_wtT hS 6 1 h0 rfl) rfl) rfl rfl ?_
        refine mm_isub d10_lastHand_72 ?_
        refine mm_mmax lm_X10_325 d10_lastHand_73 (mm_roomM rfl rfl) ?_
        refine mm_istore d10_lastHand_76 rfl rfl ?_
        refine mm_iload_n d10_lastHand_78 rfl ?_
        refine mm_if_ne (tgt := 87) d10_lastHand_79 (by decide) (fun hc10 => ?_) (fun hc10 => ?_)
        · rw [if_neg hc10] at h
          refine mm_aload_n d10_lastHand_87 rfl ?_
          refine mm_getR fl_X10_19 d10_lastHand_88 (mm_wtR hS 100 h0 rfl rfl) ?_
          refine mm_getR fl_X10_231 d10_lastHand_91 (mm_wtR hS 106 (mm_wtT hS 1 0 h0 rfl) rfl rfl) ?_
          refine mm_iload_n d10_lastHand_94 rfl ?_
          obtain ⟨o11, hk11, h⟩ := mm_bd h
          refine mm_cVi 6 (As := [.int v1]) (ok6_at l hS (mm_wtT hS 2 6 (mm_wtT hS 1 0 h0 rfl) rfl) hk11) lk_X10_224 rfl d10_lastHand_95 (mm_room rfl rfl) rfl (mm_wtT hS 2 6 (mm_wtT hS 1 0 h0 rfl) rfl) rfl rfl ?_
          refine mm_iload d10_lastHand_98 rfl ?_
          refine mm_imul d10_lastHand_100 ?_
          refine mm_sub [] trivial ?_
          exact ok10_lastHand_101 l hS   h
        · rw [if_pos hc10] at h
          refine mm_iload d10_lastHand_82 rfl ?_
          refine mm_goto (tgt := 101) d10_lastHand_84 (by decide) ?_
          refine mm_sub [] trivial ?_
          exact ok10_lastHand_101 l hS   h
      · rw [if_neg hc7] at h
        refine mm_iconst (v := (-1)) d10_lastHand_44 (by decide +kernel) ?_
        have h := Option.some.inj h
        subst h
        exact mm_iret rfl d10_lastHand_45 ⟨rfl, rfl, rfl⟩
    · rw [if_pos hc4] at h
      refine mm_ldc (v := (-1000000002)) d10_lastHand_23 kX10_124 ?_
      have h := Option.some.inj h
      subst h
      exact mm_iret rfl d10_lastHand_25 ⟨rfl, rfl, rfl⟩
  · rw [if_pos hc2] at h
    refine mm_ldc (v := (-1000000001)) d10_lastHand_11 kX10_220 ?_
    have h := Option.some.inj h
    subst h
    exact mm_iret rfl d10_lastHand_13 ⟨rfl, rfl, rfl⟩
set_option maxHeartbeats 4000000 in
set_option maxRecDepth 100000 in
theorem ok10_night_38 (l : Launch) {S : mm_Sh} (hS : mm_WT S)    {I : mm_I} {J : mm_J} {o : Int32 × mm_I × mm_J} (h : f10_night_38 S  I J = some o) : mm_W l M10_night (mm_rm (mm_rk M10_night)) 0 0 S (mm_end S (mm_Qi o.1 o.2.1 o.2.2)) 38 [] [] I J := by
  unfold f10_night_38 at h
  refine mm_ldc (v := (-1000000003)) d10_night_38 kX10_167 ?_
  have h := Option.some.inj h
  subst h
  exact mm_iret rfl d10_night_40 ⟨rfl, rfl, rfl⟩
set_option maxHeartbeats 4000000 in
set_option maxRecDepth 100000 in
theorem ok10_night_58 (l : Launch) {S : mm_Sh} (hS : mm_WT S)  {s0 : Int32}  {I : mm_I} {J : mm_J} {o : Int32 × mm_I × mm_J} (h : f10_night_58 S s0 I J = some o) : mm_W l M10_night (mm_rm (mm_rk M10_night)) 0 0 S (mm_end S (mm_Qi o.1 o.2.1 o.2.2)) 58 [] [.int s0] I J := by
  unfold f10_night_58 at h
  have h := Option.some.inj h
  subst h
  exact mm_iret rfl d10_night_58 ⟨rfl, rfl, rfl⟩
set_option maxHeartbeats 4000000 in
set_option maxRecDepth 100000 in
theorem ok10_night (l : Launch) {S : mm_Sh} (hS : mm_WT S)  {v0 : Nat} {v1 : Int32} {v2 : Int32} (h0 : mm_is S v0 10) {I : mm_I} {J : mm_J} {o : Int32 × mm_I × mm_J} (h : f10_night S v0 v1 v2 I J = some o) : mm_C l M10_night S [.ref v0, .int v1, .int v2] I J (mm_Qi o.1 o.2.1 o.2.2) := by
  unfold f10_night at h
  refine mm_enter rfl (by decide +kernel) rfl ?_
  refine mm_aload_n d10_night_0 rfl ?_
  refine mm_iload_n d10_night_1 rfl ?_
  refine mm_iload_n d10_night_2 rfl ?_
  obtain ⟨o1, hk1, h⟩ := mm_bd h
  refine mm_cVi 10 (As := [.int v1, .int v2]) (ok10_isKnownPair l hS h0 hk1) lk_X10_270 rfl d10_night_3 (mm_room rfl rfl) rfl h0 rfl rfl ?_
  refine mm_if_ne (tgt := 12) d10_night_6 (by decide) (fun hc2 => ?_) (fun hc2 => ?_)
  · rw [if_neg hc2] at h
    refine mm_aload_n d10_night_12 rfl ?_
    refine mm_getR fl_X10_42 d10_night_13 (mm_wtR hS 101 h0 rfl rfl) ?_
    refine mm_iload_n d10_night_16 rfl ?_
    refine mm_iload_n d10_night_17 rfl ?_
    obtain ⟨o3, hk3, h⟩ := mm_bd h
    refine mm_cVi 1 (As := [.int v1, .int v2]) (ok1_knows l hS (mm_wtT hS 6 1 h0 rfl) hk3) lk_X10_283 rfl d10_night_18 (mm_room rfl rfl) rfl (mm_wtT hS 6 1 h0 rfl) rfl rfl ?_
    refine mm_if_eq (tgt := 38) d10_night_21 (by decide) (fun hc4 => ?_) (fun hc4 => ?_)
    · rw [if_pos hc4] at h
      refine mm_sub [] trivial ?_
      exact ok10_night_38 l hS   h
    · rw [if_neg hc4] at h
      refine mm_aload_n d10_night_24 rfl ?_
      refine mm_getR fl_X10_42 d10_night_25 (mm_wtR hS 101 h0 rfl rfl) ?_
      refine mm_getI fl_X10_267 d10_night_28 (mm_wtI hS (mm_wtT hS 6 1 h0 rfl) rfl) ?_
      refine mm_iload_n d10_night_31 rfl ?_
      obtain ⟨o5, hk5, h⟩ := mm_bd h
      refine mm_cSi (As := [.int (I (mm_rf S v0 6) 10), .int v1]) (ok10_has l hS hk5) lk_X10_263 rfl d10_night_32 (mm_room rfl rfl) rfl rfl ?_
      refine mm_if_eq (tgt := 41) d10_night_35 (by decide) (fun hc6 => ?_) (fun hc6 => ?_)
      · rw [if_pos hc6] at h
        refine mm_aload_n d10_night_41 rfl ?_
        refine mm_getR fl_X10_91 d10_night_42 (mm_wtR hS 102 h0 rfl rfl) ?_
        refine mm_iload_n d10_night_45 rfl ?_
        refine mm_iload_n d10_night_46 rfl ?_
        obtain ⟨o7, hk7, h⟩ := mm_bd h
        refine mm_cVi 2 (As := [.int v1, .int v2]) (ok2_workByNight l hS (mm_wtT hS 15 2 h0 rfl) hk7) lk_X10_290 rfl d10_night_47 (mm_room rfl rfl) rfl (mm_wtT hS 15 2 h0 rfl) rfl rfl ?_
        refine mm_if_eq (tgt := 57) d10_night_50 (by decide) (fun hc8 => ?_) (fun hc8 => ?_)
        · rw [if_pos hc8] at h
          refine mm_iconst (v := 0) d10_night_57 (by decide +kernel) ?_
          refine mm_sub [] trivial ?_
          exact ok10_night_58 l hS   h
        · rw [if_neg hc8] at h
          refine mm_iconst (v := 1) d10_night_53 (by decide +kernel) ?_
          refine mm_goto (tgt := 58) d10_night_54 (by decide) ?_
          refine mm_sub [] trivial ?_
          exact ok10_night_58 l hS   h
      · rw [if_neg hc6] at h
        refine mm_sub [] trivial ?_
        exact ok10_night_38 l hS   h
  · rw [if_pos hc2] at h
    refine mm_ldc (v := (-1000000001)) d10_night_9 kX10_220 ?_
    have h := Option.some.inj h
    subst h
    exact mm_iret rfl d10_night_11 ⟨rfl, rfl, rfl⟩
set_option maxHeartbeats 4000000 in
set_option maxRecDepth 100000 in
theorem ok10_trade (l : Launch) {S : mm_Sh} (hS : mm_WT S) {n : Nat}  {v0 : Nat} {v1 : Int32} {v2 : Int32} (h0 : mm_is S v0 10) {I : mm_I} {J : mm_J} {o : Int32} (h : f10_trade S n v0 v1 v2 I J = some o) : mm_C l M10_trade S [.ref v0, .int v1, .int v2] I J (mm_Qi o I J) := by
  unfold f10_trade at h
  refine mm_enter rfl (by decide +kernel) rfl ?_
  refine mm_aload_n d10_trade_0 rfl ?_
  refine mm_getR fl_X10_19 d10_trade_1 (mm_wtR hS 100 h0 rfl rfl) ?_
  refine mm_iload_n d10_trade_4 rfl ?_
  obtain ⟨o1, hk1, h⟩ := mm_bd h
  refine mm_cVi 0 (As := [.int v1]) (ok0_hasTrade l hS (mm_wtT hS 1 0 h0 rfl) hk1) lk_X10_216 rfl d10_trade_5 (mm_room rfl rfl) rfl (mm_wtT hS 1 0 h0 rfl) rfl rfl ?_
  refine mm_if_ne (tgt := 14) d10_trade_8 (by decide) (fun hc2 => ?_) (fun hc2 => ?_)
  · rw [if_neg hc2] at h
    refine mm_iload_n d10_trade_14 rfl ?_
    by_cases hc3 : v2 = 0
    · rw [if_pos hc3] at h
      refine mm_tabIn (0) (tgt := 56) d10_trade_15 (by rw [hc3]; decide +kernel) (by decide) (by decide) rfl (by decide) ?_
      refine mm_aload_n d10_trade_56 rfl ?_
      refine mm_getR fl_X10_19 d10_trade_57 (mm_wtR hS 100 h0 rfl rfl) ?_
      refine mm_getR fl_X10_221 d10_trade_60 (mm_wtR hS 106 (mm_wtT hS 1 0 h0 rfl) rfl rfl) ?_
      refine mm_iload_n d10_trade_63 rfl ?_
      obtain ⟨o16, hk16, h⟩ := mm_bd h
      refine mm_cVi 6 (As := [.int v1]) (ok6_at l hS (mm_wtT hS 0 6 (mm_wtT hS 1 0 h0 rfl) rfl) hk16) lk_X10_224 rfl d10_trade_64 (mm_room rfl rfl) rfl (mm_wtT hS 0 6 (mm_wtT hS 1 0 h0 rfl) rfl) rfl rfl ?_
      have h := Option.some.inj h
      subst h
      exact mm_iret rfl d10_trade_67 ⟨rfl, rfl, rfl⟩
    · rw [if_neg hc3] at h
      by_cases hc4 : v2 = 1
      · rw [if_pos hc4] at h
        refine mm_tabIn (1) (tgt := 68) d10_trade_15 (by rw [hc4]; decide +kernel) (by decide) (by decide) rfl (by decide) ?_
        refine mm_aload_n d10_trade_68 rfl ?_
        refine mm_getR fl_X10_19 d10_trade_69 (mm_wtR hS 100 h0 rfl rfl) ?_
        refine mm_getR fl_X10_228 d10_trade_72 (mm_wtR hS 106 (mm_wtT hS 1 0 h0 rfl) rfl rfl) ?_
        refine mm_iload_n d10_trade_75 rfl ?_
        obtain ⟨o15, hk15, h⟩ := mm_bd h
        refine mm_cVi 6 (As := [.int v1]) (ok6_at l hS (mm_wtT hS 1 6 (mm_wtT hS 1 0 h0 rfl) rfl) hk15) lk_X10_224 rfl d10_trade_76 (mm_room rfl rfl) rfl (mm_wtT hS 1 6 (mm_wtT hS 1 0 h0 rfl) rfl) rfl rfl ?_
        have h := Option.some.inj h
        subst h
        exact mm_iret rfl d10_trade_79 ⟨rfl, rfl, rfl⟩
      · rw [if_neg hc4] at h
        by_cases hc5 : v2 = 2
        · rw [if_pos hc5] at h
          refine mm_tabIn (2) (tgt := 80) d10_trade_15 (by rw [hc5]; decide +kernel) (by decide) (by decide) rfl (by decide) ?_
          refine mm_aload_n d10_trade_80 rfl ?_
          refine mm_getR fl_X10_19 d10_trade_81 (mm_wtR hS 100 h0 rfl rfl) ?_
          refine mm_getR fl_X10_231 d10_trade_84 (mm_wtR hS 106 (mm_wtT hS 1 0 h0 rfl) rfl rfl) ?_
          refine mm_iload_n d10_trade_87 rfl ?_
          obtain ⟨o14, hk14, h⟩ := mm_bd h
          refine mm_cVi 6 (As := [.int v1]) (ok6_at l hS (mm_wtT hS 2 6 (mm_wtT hS 1 0 h0 rfl) rfl) hk14) lk_X10_224 rfl d10_trade_88 (mm_room rfl rfl) rfl (mm_wtT hS 2 6 (mm_wtT hS 1 0 h0 rfl) rfl) rfl rfl ?_
          have h := Option.some.inj h
          subst h
          exact mm_iret rfl d10_trade_91 ⟨rfl, rfl, rfl⟩
        · rw [if_neg hc5] at h
          by_cases hc6 : v2 = 3
          · rw [if_pos hc6] at h
            refine mm_tabIn (3) (tgt := 92) d10_trade_15 (by rw [hc6]; decide +kernel) (by decide) (by decide) rfl (by decide) ?_
            refine mm_aload_n d10_trade_92 rfl ?_
            refine mm_getR fl_X10_19 d10_trade_93 (mm_wtR hS 100 h0 rfl rfl) ?_
            refine mm_getR fl_X10_234 d10_trade_96 (mm_wtR hS 106 (mm_wtT hS 1 0 h0 rfl) rfl rfl) ?_
            refine mm_iload_n d10_trade_99 rfl ?_
            obtain ⟨o13, hk13, h⟩ := mm_bd h
            refine mm_cVi 6 (As := [.int v1]) (ok6_at l hS (mm_wtT hS 3 6 (mm_wtT hS 1 0 h0 rfl) rfl) hk13) lk_X10_224 rfl d10_trade_100 (mm_room rfl rfl) rfl (mm_wtT hS 3 6 (mm_wtT hS 1 0 h0 rfl) rfl) rfl rfl ?_
            have h := Option.some.inj h
            subst h
            exact mm_iret rfl d10_trade_103 ⟨rfl, rfl, rfl⟩
          · rw [if_neg hc6] at h
            by_cases hc7 : v2 = 4
            · rw [if_pos hc7] at h
              refine mm_tabIn (4) (tgt := 104) d10_trade_15 (by rw [hc7]; decide +kernel) (by decide) (by decide) rfl (by decide) ?_
              refine mm_aload_n d10_trade_104 rfl ?_
              refine mm_getR fl_X10_42 d10_trade_105 (mm_wtR hS 101 h0 rfl rfl) ?_
              refine mm_iload_n d10_trade_108 rfl ?_
              refine mm_iconst (v := 1) d10_trade_109 (by decide +kernel) ?_
              obtain ⟨o12, hk12, h⟩ := mm_bd h
              refine mm_cVi 1 (As := [.int v1, .int 1]) (ok1_withSkill l hS (mm_wtT hS 6 1 h0 rfl) hk12) lk_X10_237 rfl d10_trade_110 (mm_room rfl rfl) rfl (mm_wtT hS 6 1 h0 rfl) rfl rfl ?_
              have h := Option.some.inj h
              subst h
              exact mm_iret rfl d10_trade_113 ⟨rfl, rfl, rfl⟩
            · rw [if_neg hc7] at h
              by_cases hc8 : v2 = 5
              · rw [if_pos hc8] at h
                refine mm_tabIn (5) (tgt := 114) d10_trade_15 (by rw [hc8]; decide +kernel) (by decide) (by decide) rfl (by decide) ?_
                refine mm_aload_n d10_trade_114 rfl ?_
                refine mm_getR fl_X10_42 d10_trade_115 (mm_wtR hS 101 h0 rfl rfl) ?_
                refine mm_iload_n d10_trade_118 rfl ?_
                refine mm_bipush (v := 50) d10_trade_119 (by decide +kernel) ?_
                obtain ⟨o11, hk11, h⟩ := mm_bd h
                refine mm_cVi 1 (As := [.int v1, .int 50]) (ok1_withSkill l hS (mm_wtT hS 6 1 h0 rfl) hk11) lk_X10_237 rfl d10_trade_121 (mm_room rfl rfl) rfl (mm_wtT hS 6 1 h0 rfl) rfl rfl ?_
                have h := Option.some.inj h
                subst h
                exact mm_iret rfl d10_trade_124 ⟨rfl, rfl, rfl⟩
              · rw [if_neg hc8] at h
                by_cases hc9 : v2 = 6
                · rw [if_pos hc9] at h
                  refine mm_tabIn (6) (tgt := 125) d10_trade_15 (by rw [hc9]; decide +kernel) (by decide) (by decide) rfl (by decide) ?_
                  refine mm_aload_n d10_trade_125 rfl ?_
                  refine mm_getR fl_X10_66 d10_trade_126 (mm_wtR hS 106 h0 rfl rfl) ?_
                  refine mm_iload_n d10_trade_129 rfl ?_
                  obtain ⟨o10, hk10, h⟩ := mm_bd h
                  refine mm_cVi 6 (As := [.int v1]) (ok6_at l hS (mm_wtT hS 12 6 h0 rfl) hk10) lk_X10_224 rfl d10_trade_130 (mm_room rfl rfl) rfl (mm_wtT hS 12 6 h0 rfl) rfl rfl ?_
                  have h := Option.some.inj h
                  subst h
                  exact mm_iret rfl d10_trade_133 ⟨rfl, rfl, rfl⟩
                · rw [if_neg hc9] at h
                  have hn3 := lv_neT (a := 0) hc3 (by decide +kernel)
                  have hn4 := lv_neT (a := 1) hc4 (by decide +kernel)
                  have hn5 := lv_neT (a := 2) hc5 (by decide +kernel)
                  have hn6 := lv_neT (a := 3) hc6 (by decide +kernel)
                  have hn7 := lv_neT (a := 4) hc7 (by decide +kernel)
                  have hn8 := lv_neT (a := 5) hc8 (by decide +kernel)
                  have hn9 := lv_neT (a := 6) hc9 (by decide +kernel)
                  refine mm_tabOut (tgt := 134) d10_trade_15 (by omega) (by decide) ?_
                  refine mm_ldc (v := (-1000000002)) d10_trade_134 kX10_124 ?_
                  have h := Option.some.inj h
                  subst h
                  exact mm_iret rfl d10_trade_136 ⟨rfl, rfl, rfl⟩
  · rw [if_pos hc2] at h
    refine mm_ldc (v := (-1000000001)) d10_trade_11 kX10_220 ?_
    have h := Option.some.inj h
    subst h
    exact mm_iret rfl d10_trade_13 ⟨rfl, rfl, rfl⟩
set_option maxHeartbeats 4000000 in
set_option maxRecDepth 100000 in
theorem ok2_bearChildren_26 (l : Launch) {S : mm_Sh} (hS : mm_WT S) {n : Nat}  {rec2 : Nat → Int32 → Int32 → mm_I → mm_J → Option (mm_I × mm_J)} (hrec2 : ∀ {v0 : Nat} {v1 : Int32} {v2 : Int32} (_ : mm_is S v0 2) {I : mm_I} {J : mm_J} {o : mm_I × mm_J}, rec2 v0 v1 v2 I J = some o → mm_W l M2_bearChildren (mm_rm (mm_rk M2_bearChildren)) 0 0 S (mm_end S (mm_Qv o.1 o.2)) 2 [(0, .ref v0), (1, .int v1), (2, .int v2)] [] I J) {v0 : Nat} {v1 : Int32} {v2 : Int32} (h0 : mm_is S v0 2) {I : mm_I} {J : mm_J} {o : mm_I × mm_J} (h : f2_bearChildren_26 S n rec2 v0 v1 v2 I J = some o) : mm_W l M2_bearChildren (mm_rm (mm_rk M2_bearChildren)) 0 0 S (mm_end S (mm_Qv o.1 o.2)) 26 [(0, .ref v0), (1, .int v1), (2, .int v2)] [] I J := by
  unfold f2_bearChildren_26 at h
  refine mm_iinc (v := v2 + 1) d2_bearChildren_26 rfl rfl rfl rfl ?_
  refine mm_goto (tgt := 2) d2_bearChildren_29 (by decide) ?_
  refine mm_sub [(0, .ref v0), (1, .int v1), (2, .int (v2 + 1))] ⟨rfl, rfl, rfl, trivial⟩ ?_
  exact hrec2 h0 h
set_option maxHeartbeats 4000000 in
set_option maxRecDepth 100000 in
theorem ok2_bearChildren_2_b (l : Launch) {S : mm_Sh} (hS : mm_WT S) {n : Nat}  {rec2 : Nat → Int32 → Int32 → mm_I → mm_J → Option (mm_I × mm_J)} (hrec2 : ∀ {v0 : Nat} {v1 : Int32} {v2 : Int32} (_ : mm_is S v0 2) {I : mm_I} {J : mm_J} {o : mm_I × mm_J}, rec2 v0 v1 v2 I J = some o → mm_W l M2_bearChildren (mm_rm (mm_rk M2_bearChildren)) 0 0 S (mm_end S (mm_Qv o.1 o.2)) 2 [(0, .ref v0), (1, .int v1), (2, .int v2)] [] I J) {v0 : Nat} {v1 : Int32} {v2 : Int32} (h0 : mm_is S v0 2) {I : mm_I} {J : mm_J} {o : mm_I × mm_J} (h : f2_bearChildren_2_b S n rec2 v0 v1 v2 I J = some o) : mm_W l M2_bearChildren (mm_rm (mm_rk M2_bearChildren)) 0 0 S (mm_end S (mm_Qv o.1 o.2)) 2 [(0, .ref v0), (1, .int v1), (2, .int v2)] [] I J := by
  unfold f2_bearChildren_2_b at h
  refine mm_iload_n d2_bearChildren_2 rfl ?_
  refine mm_aload_n d2_bearChildren_3 rfl ?_
  refine mm_getR fl_X2_9 d2_bearChildren_4 (mm_wtR hS 100 h0 rfl rfl) ?_
  refine mm_getI fl_X2_110 d2_bearChildren_7 (mm_wtI hS (mm_wtT hS 0 0 h0 rfl) rfl) ?_
  refine mm_icmp_ge (tgt := 32) d2_bearChildren_10 (by decide) (fun hc1 => ?_) (fun hc1 => ?_)
  · rw [if_pos hc1] at h
    have h := Option.some.inj h
    subst h
    exact mm_vret rfl d2_bearChildren_32 ⟨rfl, rfl, rfl⟩
  · rw [if_neg hc1] at h
    refine mm_iload_n d2_bearChildren_13 rfl ?_
    refine mm_iload_n d2_bearChildren_14 rfl ?_
    obtain ⟨o2, hk2, h⟩ := mm_bd h
    refine mm_cSi (As := [.int v1, .int v2]) (ok10_has l hS hk2) lk_X2_113 rfl d2_bearChildren_15 (mm_room rfl rfl) rfl rfl ?_
    refine mm_if_eq (tgt := 26) d2_bearChildren_18 (by decide) (fun hc3 => ?_) (fun hc3 => ?_)
    · rw [if_pos hc3] at h
      refine mm_sub [(0, .ref v0), (1, .int v1), (2, .int v2)] ⟨rfl, rfl, rfl, trivial⟩ ?_
      exact ok2_bearChildren_26 l hS hrec2 h0 h
    · rw [if_neg hc3] at h
      refine mm_aload_n d2_bearChildren_21 rfl ?_
      refine mm_iload_n d2_bearChildren_22 rfl ?_
      obtain ⟨o4, hk4, h⟩ := mm_bd h
      refine mm_cVv 2 (As := [.int v2]) (ok2_bearChild l hS h0 hk4) lk_X2_217 rfl d2_bearChildren_23 (mm_room rfl rfl) rfl h0 rfl rfl ?_
      refine mm_sub [(0, .ref v0), (1, .int v1), (2, .int v2)] ⟨rfl, rfl, rfl, trivial⟩ ?_
      exact ok2_bearChildren_26 l hS hrec2 h0 h
set_option maxHeartbeats 4000000 in
set_option maxRecDepth 100000 in
theorem ok2_bearChildren_2 (l : Launch) {S : mm_Sh} (hS : mm_WT S) {n : Nat}  : ∀ (k : Nat) {v0 : Nat} {v1 : Int32} {v2 : Int32} (h0 : mm_is S v0 2) {I : mm_I} {J : mm_J} {o : mm_I × mm_J}, f2_bearChildren_2 S n k v0 v1 v2 I J = some o → mm_W l M2_bearChildren (mm_rm (mm_rk M2_bearChildren)) 0 0 S (mm_end S (mm_Qv o.1 o.2)) 2 [(0, .ref v0), (1, .int v1), (2, .int v2)] [] I J := by
  intro k
  induction k with
  | zero =>
    intros
    rename_i h
    cases h
  | succ k ih =>
    intro v0 v1 v2 h0 I J o h
    exact ok2_bearChildren_2_b l hS (fun {v0 v1 v2} h0 {I J o} h => ih h0 h) h0 h
set_option maxHeartbeats 4000000 in
set_option maxRecDepth 100000 in
theorem ok2_bearChildren (l : Launch) {S : mm_Sh} (hS : mm_WT S) {n : Nat}  {v0 : Nat} {v1 : Int32} (h0 : mm_is S v0 2) {I : mm_I} {J : mm_J} {o : mm_I × mm_J} (h : f2_bearChildren S n v0 v1 I J = some o) : mm_C l M2_bearChildren S [.ref v0, .int v1] I J (mm_Qv o.1 o.2) := by
  unfold f2_bearChildren at h
  refine mm_enter rfl (by decide +kernel) rfl ?_
  refine mm_iconst (v := 0) d2_bearChildren_0 (by decide +kernel) ?_
  refine mm_istore_n d2_bearChildren_1 rfl rfl ?_
  refine mm_sub [(0, .ref v0), (1, .int v1), (2, .int 0)] ⟨rfl, rfl, rfl, trivial⟩ ?_
  exact ok2_bearChildren_2 l hS  n h0 h
set_option maxHeartbeats 4000000 in
set_option maxRecDepth 100000 in
theorem ok2_beginChange_31 (l : Launch) {S : mm_Sh} (hS : mm_WT S) {n : Nat}    {I : mm_I} {J : mm_J} {o : Int32 × mm_I × mm_J} (h : f2_beginChange_31 S n  I J = some o) : mm_W l M2_beginChange (mm_rm (mm_rk M2_beginChange)) 0 0 S (mm_end S (mm_Qi o.1 o.2.1 o.2.2)) 31 [] [] I J := by
  unfold f2_beginChange_31 at h
  refine mm_ldc (v := (-1000000003)) d2_beginChange_31 kX2_59 ?_
  have h := Option.some.inj h
  subst h
  exact mm_iret rfl d2_beginChange_33 ⟨rfl, rfl, rfl⟩
set_option maxHeartbeats 4000000 in
set_option maxRecDepth 100000 in
theorem ok2_beginChange_129 (l : Launch) {S : mm_Sh} (hS : mm_WT S) {n : Nat}  {v0 : Nat} {v1 : Int32} {v2 : Int32} {v3 : Int32} {v6 : Int32} {s0 : Nat} {s1 : Int32} (h0 : mm_is S v0 2) (g0 : mm_is S s0 6) {I : mm_I} {J : mm_J} {o : Int32 × mm_I × mm_J} (h : f2_beginChange_129 S n v0 v1 v2 v3 v6 s0 s1 I J = some o) : mm_W l M2_beginChange (mm_rm (mm_rk M2_beginChange)) 0 0 S (mm_end S (mm_Qi o.1 o.2.1 o.2.2)) 129 [(0, .ref v0), (1, .int v1), (2, .int v2), (3, .int v3), (6, .int v6)] [.int s1, .ref s0] I J := by
  unfold f2_beginChange_129 at h
  refine mm_iload_n d2_beginChange_129 rfl ?_
  obtain ⟨o1, hk1, h⟩ := mm_bd h
  refine mm_cVv 6 (As := [.int s1, .int v3]) (ok6_put l hS g0 hk1) lk_X2_85 rfl d2_beginChange_130 (mm_room rfl rfl) rfl g0 rfl rfl ?_
  refine mm_aload_n d2_beginChange_133 rfl ?_
  refine mm_iload_n d2_beginChange_134 rfl ?_
  refine mm_iload_n d2_beginChange_135 rfl ?_
  obtain ⟨o2, hk2, h⟩ := mm_bd h
  refine mm_cVv 2 (As := [.int v1, .int v2]) (ok2_startLearning l hS h0 hk2) lk_X2_64 rfl d2_beginChange_136 (mm_room rfl rfl) rfl h0 rfl rfl ?_
  refine mm_iload d2_beginChange_139 rfl ?_
  have h := Option.some.inj h
  subst h
  exact mm_iret rfl d2_beginChange_141 ⟨rfl, rfl, rfl⟩
set_option maxHeartbeats 4000000 in
set_option maxRecDepth 100000 in
theorem ok2_beginChange_84 (l : Launch) {S : mm_Sh} (hS : mm_WT S) {n : Nat}  {v0 : Nat} {v1 : Int32} {v2 : Int32} {v3 : Int32} {v4 : Int32} {s0 : Int32} (h0 : mm_is S v0 2) {I : mm_I} {J : mm_J} {o : Int32 × mm_I × mm_J} (h : f2_beginChange_84 S n v0 v1 v2 v3 v4 s0 I J = some o) : mm_W l M2_beginChange (mm_rm (mm_rk M2_beginChange)) 0 0 S (mm_end S (mm_Qi o.1 o.2.1 o.2.2)) 84 [(0, .ref v0), (1, .int v1), (2, .int v2), (3, .int v3), (4, .int v4)] [.int s0] I J := by
  unfold f2_beginChange_84 at h
  refine mm_istore d2_beginChange_84 rfl rfl ?_
  refine mm_iload d2_beginChange_86 rfl ?_
  refine mm_ldc (v := (-1000000003)) d2_beginChange_88 kX2_59 ?_
  refine mm_icmp_ne (tgt := 96) d2_beginChange_90 (by decide) (fun hc1 => ?_) (fun hc1 => ?_)
  · rw [if_neg hc1] at h
    refine mm_aload_n d2_beginChange_96 rfl ?_
    refine mm_getR fl_X2_19 d2_beginChange_97 (mm_wtR hS 101 h0 rfl rfl) ?_
    refine mm_dup d2_beginChange_100 rfl ?_
    refine mm_getI fl_X2_78 d2_beginChange_101 (mm_wtI hS (mm_wtT hS 2 1 h0 rfl) rfl) ?_
    refine mm_iload d2_beginChange_104 rfl ?_
    refine mm_ior d2_beginChange_106 ?_
    refine mm_putI fp_X2_78 d2_beginChange_107 (mm_wtI hS (mm_wtT hS 2 1 h0 rfl) rfl) ?_
    refine mm_aload_n d2_beginChange_110 rfl ?_
    refine mm_getR fl_X2_19 d2_beginChange_111 (mm_wtR hS 101 h0 rfl rfl) ?_
    refine mm_getR fl_X2_81 d2_beginChange_114 (mm_wtR hS 106 (mm_wtT hS 2 1 h0 rfl) rfl rfl) ?_
    refine mm_iload d2_beginChange_117 rfl ?_
    refine mm_iconst (v := (-1)) d2_beginChange_119 (by decide +kernel) ?_
    refine mm_icmp_ne (tgt := 127) d2_beginChange_120 (by decide) (fun hc2 => ?_) (fun hc2 => ?_)
    · rw [if_neg hc2] at h
      refine mm_iload d2_beginChange_127 rfl ?_
      refine mm_sub [(0, .ref v0), (1, .int v1), (2, .int v2), (3, .int v3), (6, .int s0)] ⟨rfl, rfl, rfl, rfl, rfl, trivial⟩ ?_
      exact ok2_beginChange_129 l hS  h0 (mm_wtT hS 6 6 (mm_wtT hS 2 1 h0 rfl) rfl) h
    · rw [if_pos hc2] at h
      refine mm_iload_n d2_beginChange_123 rfl ?_
      refine mm_goto (tgt := 129) d2_beginChange_124 (by decide) ?_
      refine mm_sub [(0, .ref v0), (1, .int v1), (2, .int v2), (3, .int v3), (6, .int s0)] ⟨rfl, rfl, rfl, rfl, rfl, trivial⟩ ?_
      exact ok2_beginChange_129 l hS  h0 (mm_wtT hS 6 6 (mm_wtT hS 2 1 h0 rfl) rfl) h
  · rw [if_pos hc1] at h
    refine mm_ldc (v := (-1000000003)) d2_beginChange_93 kX2_59 ?_
    have h := Option.some.inj h
    subst h
    exact mm_iret rfl d2_beginChange_95 ⟨rfl, rfl, rfl⟩
set_option maxHeartbeats 4000000 in
set_option maxRecDepth 100000 in
theorem ok2_beginChange_65 (l : Launch) {S : mm_Sh} (hS : mm_WT S) {n : Nat}  {v0 : Nat} {v1 : Int32} {v2 : Int32} {v3 : Int32} {v4 : Int32} {s0 : Int32} (h0 : mm_is S v0 2) {I : mm_I} {J : mm_J} {o : Int32 × mm_I × mm_J} (h : f2_beginChange_65 S n v0 v1 v2 v3 v4 s0 I J = some o) : mm_W l M2_beginChange (mm_rm (mm_rk M2_beginChange)) 0 0 S (mm_end S (mm_Qi o.1 o.2.1 o.2.2)) 65 [(0, .ref v0), (1, .int v1), (2, .int v2), (3, .int v3), (4, .int v4)] [.int s0] I J := by
  unfold f2_beginChange_65 at h
  refine mm_istore d2_beginChange_65 rfl rfl ?_
  refine mm_iload d2_beginChange_67 rfl ?_
  refine mm_if_eq (tgt := 82) d2_beginChange_69 (by decide) (fun hc1 => ?_) (fun hc1 => ?_)
  · rw [if_pos hc1] at h
    refine mm_ldc (v := (-1000000003)) d2_beginChange_82 kX2_59 ?_
    refine mm_sub [(0, .ref v0), (1, .int v1), (2, .int v2), (3, .int v3), (4, .int v4)] ⟨rfl, rfl, rfl, rfl, rfl, trivial⟩ ?_
    exact ok2_beginChange_84 l hS  h0 h
  · rw [if_neg hc1] at h
    refine mm_aload_n d2_beginChange_72 rfl ?_
    refine mm_iload_n d2_beginChange_73 rfl ?_
    refine mm_iload d2_beginChange_74 rfl ?_
    obtain ⟨o2, hk2, h⟩ := mm_bd h
    refine mm_cVi 2 (As := [.int v1, .int v4]) (ok2_witnessesFor l hS h0 hk2) lk_X2_75 rfl d2_beginChange_76 (mm_room rfl rfl) rfl h0 rfl rfl ?_
    refine mm_goto (tgt := 84) d2_beginChange_79 (by decide) ?_
    refine mm_sub [(0, .ref v0), (1, .int v1), (2, .int v2), (3, .int v3), (4, .int v4)] ⟨rfl, rfl, rfl, rfl, rfl, trivial⟩ ?_
    exact ok2_beginChange_84 l hS  h0 h
set_option maxHeartbeats 4000000 in
set_option maxRecDepth 100000 in
theorem ok2_beginChange (l : Launch) {S : mm_Sh} (hS : mm_WT S) {n : Nat}  {v0 : Nat} {v1 : Int32} {v2 : Int32} {v3 : Int32} {v4 : Int32} (h0 : mm_is S v0 2) {I : mm_I} {J : mm_J} {o : Int32 × mm_I × mm_J} (h : f2_beginChange S n v0 v1 v2 v3 v4 I J = some o) : mm_C l M2_beginChange S [.ref v0, .int v1, .int v2, .int v3, .int v4] I J (mm_Qi o.1 o.2.1 o.2.2) := by
  unfold f2_beginChange at h
  refine mm_enter rfl (by decide +kernel) rfl ?_
  refine mm_aload_n d2_beginChange_0 rfl ?_
  refine mm_iload_n d2_beginChange_1 rfl ?_
  refine mm_iload_n d2_beginChange_2 rfl ?_
  obtain ⟨o1, hk1, h⟩ := mm_bd h
  refine mm_cVi 2 (As := [.int v1, .int v2]) (ok2_mayLearn l hS h0 hk1) lk_X2_56 rfl d2_beginChange_3 (mm_room rfl rfl) rfl h0 rfl rfl ?_
  refine mm_if_ne (tgt := 12) d2_beginChange_6 (by decide) (fun hc2 => ?_) (fun hc2 => ?_)
  · rw [if_neg hc2] at h
    refine mm_iload_n d2_beginChange_12 rfl ?_
    refine mm_iconst (v := (-1)) d2_beginChange_13 (by decide +kernel) ?_
    refine mm_icmp_ne (tgt := 42) d2_beginChange_14 (by decide) (fun hc3 => ?_) (fun hc3 => ?_)
    · rw [if_neg hc3] at h
      refine mm_iload d2_beginChange_42 rfl ?_
      refine mm_iconst (v := (-1)) d2_beginChange_44 (by decide +kernel) ?_
      refine mm_icmp_ne (tgt := 58) d2_beginChange_45 (by decide) (fun hc4 => ?_) (fun hc4 => ?_)
      · rw [if_neg hc4] at h
        refine mm_aload_n d2_beginChange_58 rfl ?_
        refine mm_iload d2_beginChange_59 rfl ?_
        refine mm_iload_n d2_beginChange_61 rfl ?_
        obtain ⟨o5, hk5, h⟩ := mm_bd h
        refine mm_cVi 2 (As := [.int v4, .int v3]) (ok2_mayLend l hS h0 hk5) lk_X2_72 rfl d2_beginChange_62 (mm_room rfl rfl) rfl h0 rfl rfl ?_
        refine mm_sub [(0, .ref v0), (1, .int v1), (2, .int v2), (3, .int v3), (4, .int v4)] ⟨rfl, rfl, rfl, rfl, rfl, trivial⟩ ?_
        exact ok2_beginChange_65 l hS  h0 h
      · rw [if_pos hc4] at h
        refine mm_aload_n d2_beginChange_48 rfl ?_
        refine mm_iload_n d2_beginChange_49 rfl ?_
        refine mm_iload_n d2_beginChange_50 rfl ?_
        refine mm_iload_n d2_beginChange_51 rfl ?_
        obtain ⟨o6, hk6, h⟩ := mm_bd h
        refine mm_cVi 2 (As := [.int v1, .int v2, .int v3]) (ok2_mayGiveUp l hS h0 hk6) lk_X2_68 rfl d2_beginChange_52 (mm_room rfl rfl) rfl h0 rfl rfl ?_
        refine mm_goto (tgt := 65) d2_beginChange_55 (by decide) ?_
        refine mm_sub [(0, .ref v0), (1, .int v1), (2, .int v2), (3, .int v3), (4, .int v4)] ⟨rfl, rfl, rfl, rfl, rfl, trivial⟩ ?_
        exact ok2_beginChange_65 l hS  h0 h
    · rw [if_pos hc3] at h
      refine mm_iload d2_beginChange_17 rfl ?_
      refine mm_iconst (v := (-1)) d2_beginChange_19 (by decide +kernel) ?_
      refine mm_icmp_ne (tgt := 31) d2_beginChange_20 (by decide) (fun hc7 => ?_) (fun hc7 => ?_)
      · rw [if_neg hc7] at h
        refine mm_sub [] trivial ?_
        exact ok2_beginChange_31 l hS   h
      · rw [if_pos hc7] at h
        refine mm_aload_n d2_beginChange_23 rfl ?_
        refine mm_iload_n d2_beginChange_24 rfl ?_
        obtain ⟨o8, hk8, h⟩ := mm_bd h
        refine mm_cVi 2 (As := [.int v1]) (ok2_hasRoom l hS h0 hk8) lk_X2_60 rfl d2_beginChange_25 (mm_room rfl rfl) rfl h0 rfl rfl ?_
        refine mm_if_ne (tgt := 34) d2_beginChange_28 (by decide) (fun hc9 => ?_) (fun hc9 => ?_)
        · rw [if_neg hc9] at h
          refine mm_aload_n d2_beginChange_34 rfl ?_
          refine mm_iload_n d2_beginChange_35 rfl ?_
          refine mm_iload_n d2_beginChange_36 rfl ?_
          obtain ⟨o10, hk10, h⟩ := mm_bd h
          refine mm_cVv 2 (As := [.int v1, .int v2]) (ok2_startLearning l hS h0 hk10) lk_X2_64 rfl d2_beginChange_37 (mm_room rfl rfl) rfl h0 rfl rfl ?_
          refine mm_iconst (v := 0) d2_beginChange_40 (by decide +kernel) ?_
          have h := Option.some.inj h
          subst h
          exact mm_iret rfl d2_beginChange_41 ⟨rfl, rfl, rfl⟩
        · rw [if_pos hc9] at h
          refine mm_sub [] trivial ?_
          exact ok2_beginChange_31 l hS   h
  · rw [if_pos hc2] at h
    refine mm_ldc (v := (-1000000003)) d2_beginChange_9 kX2_59 ?_
    have h := Option.some.inj h
    subst h
    exact mm_iret rfl d2_beginChange_11 ⟨rfl, rfl, rfl⟩
set_option maxHeartbeats 4000000 in
set_option maxRecDepth 100000 in
theorem ok2_deadTrades_33 (l : Launch) {S : mm_Sh} (hS : mm_WT S) {n : Nat}  {rec4 : Nat → Int32 → Int32 → mm_I → mm_J → Option (Int32)} (hrec4 : ∀ {v0 : Nat} {v1 : Int32} {v2 : Int32} (_ : mm_is S v0 2) {I : mm_I} {J : mm_J} {o : Int32}, rec4 v0 v1 v2 I J = some o → mm_W l M2_deadTrades (mm_rm (mm_rk M2_deadTrades)) 0 0 S (mm_end S (mm_Qi o I J)) 4 [(0, .ref v0), (1, .int v1), (2, .int v2)] [] I J) {v0 : Nat} {v1 : Int32} {v2 : Int32} (h0 : mm_is S v0 2) {I : mm_I} {J : mm_J} {o : Int32} (h : f2_deadTrades_33 S n rec4 v0 v1 v2 I J = some o) : mm_W l M2_deadTrades (mm_rm (mm_rk M2_deadTrades)) 0 0 S (mm_end S (mm_Qi o I J)) 33 [(0, .ref v0), (1, .int v1), (2, .int v2)] [] I J := by
  unfold f2_deadTrades_33 at h
  refine mm_iinc (v := v2 + 1) d2_deadTrades_33 rfl rfl rfl rfl ?_
  refine mm_goto (tgt := 4) d2_deadTrades_36 (by decide) ?_
  refine mm_sub [(0, .ref v0), (1, .int v1), (2, .int (v2 + 1))] ⟨rfl, rfl, rfl, trivial⟩ ?_
  exact hrec4 h0 h
set_option maxHeartbeats 4000000 in
set_option maxRecDepth 100000 in
theorem ok2_deadTrades_4_b (l : Launch) {S : mm_Sh} (hS : mm_WT S) {n : Nat}  {rec4 : Nat → Int32 → Int32 → mm_I → mm_J → Option (Int32)} (hrec4 : ∀ {v0 : Nat} {v1 : Int32} {v2 : Int32} (_ : mm_is S v0 2) {I : mm_I} {J : mm_J} {o : Int32}, rec4 v0 v1 v2 I J = some o → mm_W l M2_deadTrades (mm_rm (mm_rk M2_deadTrades)) 0 0 S (mm_end S (mm_Qi o I J)) 4 [(0, .ref v0), (1, .int v1), (2, .int v2)] [] I J) {v0 : Nat} {v1 : Int32} {v2 : Int32} (h0 : mm_is S v0 2) {I : mm_I} {J : mm_J} {o : Int32} (h : f2_deadTrades_4_b S n rec4 v0 v1 v2 I J = some o) : mm_W l M2_deadTrades (mm_rm (mm_rk M2_deadTrades)) 0 0 S (mm_end S (mm_Qi o I J)) 4 [(0, .ref v0), (1, .int v1), (2, .int v2)] [] I J := by
  unfold f2_deadTrades_4_b at h
  refine mm_iload_n d2_deadTrades_4 rfl ?_
  refine mm_aload_n d2_deadTrades_5 rfl ?_
  refine mm_getR fl_X2_9 d2_deadTrades_6 (mm_wtR hS 100 h0 rfl rfl) ?_
  refine mm_getI fl_X2_23 d2_deadTrades_9 (mm_wtI hS (mm_wtT hS 0 0 h0 rfl) rfl) ?_
  refine mm_icmp_ge (tgt := 39) d2_deadTrades_12 (by decide) (fun hc1 => ?_) (fun hc1 => ?_)
  · rw [if_pos hc1] at h
    refine mm_iload_n d2_deadTrades_39 rfl ?_
    have h := Option.some.inj h
    subst h
    exact mm_iret rfl d2_deadTrades_40 ⟨rfl, rfl, rfl⟩
  · rw [if_neg hc1] at h
    refine mm_aload_n d2_deadTrades_15 rfl ?_
    refine mm_getR fl_X2_19 d2_deadTrades_16 (mm_wtR hS 101 h0 rfl rfl) ?_
    refine mm_iload_n d2_deadTrades_19 rfl ?_
    refine mm_iconst (v := 1) d2_deadTrades_20 (by decide +kernel) ?_
    obtain ⟨o2, hk2, h⟩ := mm_bd h
    refine mm_cVi 1 (As := [.int v2, .int 1]) (ok1_withSkill l hS (mm_wtT hS 2 1 h0 rfl) hk2) lk_X2_29 rfl d2_deadTrades_21 (mm_room rfl rfl) rfl (mm_wtT hS 2 1 h0 rfl) rfl rfl ?_
    refine mm_if_ne (tgt := 33) d2_deadTrades_24 (by decide) (fun hc3 => ?_) (fun hc3 => ?_)
    · rw [if_neg hc3] at h
      refine mm_sub [(0, .ref v0), (1, .int v1), (2, .int v2)] ⟨rfl, rfl, rfl, trivial⟩ ?_
      exact ok2_deadTrades_33 l hS hrec4 h0 h
    · rw [if_pos hc3] at h
      refine mm_iload_n d2_deadTrades_27 rfl ?_
      refine mm_iconst (v := 1) d2_deadTrades_28 (by decide +kernel) ?_
      refine mm_iload_n d2_deadTrades_29 rfl ?_
      refine mm_ishl d2_deadTrades_30 ?_
      refine mm_ior d2_deadTrades_31 ?_
      refine mm_istore_n d2_deadTrades_32 rfl rfl ?_
      refine mm_sub [(0, .ref v0), (1, .int (v1 ||| ((1 : Int32) <<< (v2 &&& 31)))), (2, .int v2)] ⟨rfl, rfl, rfl, trivial⟩ ?_
      exact ok2_deadTrades_33 l hS hrec4 h0 h
set_option maxHeartbeats 4000000 in
set_option maxRecDepth 100000 in
theorem ok2_deadTrades_4 (l : Launch) {S : mm_Sh} (hS : mm_WT S) {n : Nat}  : ∀ (k : Nat) {v0 : Nat} {v1 : Int32} {v2 : Int32} (h0 : mm_is S v0 2) {I : mm_I} {J : mm_J} {o : Int32}, f2_deadTrades_4 S n k v0 v1 v2 I J = some o → mm_W l M2_deadTrades (mm_rm (mm_rk M2_deadTrades)) 0 0 S (mm_end S (mm_Qi o I J)) 4 [(0, .ref v0), (1, .int v1), (2, .int v2)] [] I J := by
  intro k
  induction k with
  | zero =>
    intros
    rename_i h
    cases h
  | succ k ih =>
    intro v0 v1 v2 h0 I J o h
    exact ok2_deadTrades_4_b l hS (fun {v0 v1 v2} h0 {I J o} h => ih h0 h) h0 h
set_option maxHeartbeats 4000000 in
set_option maxRecDepth 100000 in
theorem ok2_deadTrades (l : Launch) {S : mm_Sh} (hS : mm_WT S) {n : Nat}  {v0 : Nat} (h0 : mm_is S v0 2) {I : mm_I} {J : mm_J} {o : Int32} (h : f2_deadTrades S n v0 I J = some o) : mm_C l M2_deadTrades S [.ref v0] I J (mm_Qi o I J) := by
  unfold f2_deadTrades at h
  refine mm_enter rfl (by decide +kernel) rfl ?_
  refine mm_iconst (v := 0) d2_deadTrades_0 (by decide +kernel) ?_
  refine mm_istore_n d2_deadTrades_1 rfl rfl ?_
  refine mm_iconst (v := 0) d2_deadTrades_2 (by decide +kernel) ?_
  refine mm_istore_n d2_deadTrades_3 rfl rfl ?_
  refine mm_sub [(0, .ref v0), (1, .int 0), (2, .int 0)] ⟨rfl, rfl, rfl, trivial⟩ ?_
  exact ok2_deadTrades_4 l hS  n h0 h
set_option maxHeartbeats 4000000 in
set_option maxRecDepth 100000 in
theorem ok2_leaveAside_87 (l : Launch) {S : mm_Sh} (hS : mm_WT S) {n : Nat}    {I : mm_I} {J : mm_J} {o : mm_I × mm_J} (h : f2_leaveAside_87 S n  I J = some o) : mm_W l M2_leaveAside (mm_rm (mm_rk M2_leaveAside)) 0 0 S (mm_end S (mm_Qv o.1 o.2)) 87 [] [] I J := by
  unfold f2_leaveAside_87 at h
  have h := Option.some.inj h
  subst h
  exact mm_vret rfl d2_leaveAside_87 ⟨rfl, rfl, rfl⟩
set_option maxHeartbeats 4000000 in
set_option maxRecDepth 100000 in
theorem ok2_leaveAside (l : Launch) {S : mm_Sh} (hS : mm_WT S) {n : Nat}  {v0 : Nat} {v1 : Int32} {v2 : Int32} (h0 : mm_is S v0 2) {I : mm_I} {J : mm_J} {o : mm_I × mm_J} (h : f2_leaveAside S n v0 v1 v2 I J = some o) : mm_C l M2_leaveAside S [.ref v0, .int v1, .int v2] I J (mm_Qv o.1 o.2) := by
  unfold f2_leaveAside at h
  refine mm_enter rfl (by decide +kernel) rfl ?_
  refine mm_aload_n d2_leaveAside_0 rfl ?_
  refine mm_getR fl_X2_19 d2_leaveAside_1 (mm_wtR hS 101 h0 rfl rfl) ?_
  refine mm_iload_n d2_leaveAside_4 rfl ?_
  refine mm_iload_n d2_leaveAside_5 rfl ?_
  obtain ⟨o1, hk1, h⟩ := mm_bd h
  refine mm_cVi 1 (As := [.int v1, .int v2]) (ok1_knows l hS (mm_wtT hS 2 1 h0 rfl) hk1) lk_X2_49 rfl d2_leaveAside_6 (mm_room rfl rfl) rfl (mm_wtT hS 2 1 h0 rfl) rfl rfl ?_
  refine mm_if_ne (tgt := 42) d2_leaveAside_9 (by decide) (fun hc2 => ?_) (fun hc2 => ?_)
  · rw [if_neg hc2] at h
    refine mm_aload_n d2_leaveAside_42 rfl ?_
    refine mm_getR fl_X2_19 d2_leaveAside_43 (mm_wtR hS 101 h0 rfl rfl) ?_
    refine mm_getR fl_X2_147 d2_leaveAside_46 (mm_wtR hS 106 (mm_wtT hS 2 1 h0 rfl) rfl rfl) ?_
    refine mm_iload_n d2_leaveAside_49 rfl ?_
    obtain ⟨o3, hk3, h⟩ := mm_bd h
    refine mm_cVi 6 (As := [.int v1]) (ok6_at l hS (mm_wtT hS 3 6 (mm_wtT hS 2 1 h0 rfl) rfl) hk3) lk_X2_96 rfl d2_leaveAside_50 (mm_room rfl rfl) rfl (mm_wtT hS 3 6 (mm_wtT hS 2 1 h0 rfl) rfl) rfl rfl ?_
    refine mm_iload_n d2_leaveAside_53 rfl ?_
    refine mm_icmp_eq (tgt := 87) d2_leaveAside_54 (by decide) (fun hc4 => ?_) (fun hc4 => ?_)
    · rw [if_pos hc4] at h
      refine mm_sub [] trivial ?_
      exact ok2_leaveAside_87 l hS   h
    · rw [if_neg hc4] at h
      refine mm_aload_n d2_leaveAside_57 rfl ?_
      refine mm_getR fl_X2_19 d2_leaveAside_58 (mm_wtR hS 101 h0 rfl rfl) ?_
      refine mm_iload_n d2_leaveAside_61 rfl ?_
      refine mm_iload_n d2_leaveAside_62 rfl ?_
      refine mm_iconst (v := 1) d2_leaveAside_63 (by decide +kernel) ?_
      refine mm_aload_n d2_leaveAside_64 rfl ?_
      refine mm_getR fl_X2_19 d2_leaveAside_65 (mm_wtR hS 101 h0 rfl rfl) ?_
      refine mm_iload_n d2_leaveAside_68 rfl ?_
      refine mm_iload_n d2_leaveAside_69 rfl ?_
      obtain ⟨o5, hk5, h⟩ := mm_bd h
      refine mm_cVi 1 (As := [.int v1, .int v2]) (ok1_skillOf l hS (mm_wtT hS 2 1 h0 rfl) hk5) lk_X2_119 rfl d2_leaveAside_70 (mm_room rfl rfl) rfl (mm_wtT hS 2 1 h0 rfl) rfl rfl ?_
      refine mm_aload_n d2_leaveAside_73 rfl ?_
      refine mm_getR fl_X2_15 d2_leaveAside_74 (mm_wtR hS 107 h0 rfl rfl) ?_
      refine mm_getI fl_X2_198 d2_leaveAside_77 (mm_wtI hS (mm_wtT hS 1 7 h0 rfl) rfl) ?_
      refine mm_isub d2_leaveAside_80 ?_
      refine mm_mmax lm_X2_183 d2_leaveAside_81 (mm_roomM rfl rfl) ?_
      obtain ⟨o6, hk6, h⟩ := mm_bd h
      refine mm_cVv 1 (As := [.int v1, .int v2, .int (if 1 < (o5 - (I (mm_rf S v0 1) 3)) then (o5 - (I (mm_rf S v0 1) 3)) else 1)]) (ok1_setSkill l hS (mm_wtT hS 2 1 h0 rfl) hk6) lk_X2_127 rfl d2_leaveAside_84 (mm_room rfl rfl) rfl (mm_wtT hS 2 1 h0 rfl) rfl rfl ?_
      refine mm_sub [] trivial ?_
      exact ok2_leaveAside_87 l hS   h
  · rw [if_pos hc2] at h
    refine mm_aload_n d2_leaveAside_12 rfl ?_
    refine mm_iload_n d2_leaveAside_13 rfl ?_
    refine mm_iload_n d2_leaveAside_14 rfl ?_
    obtain ⟨o7, hk7, h⟩ := mm_bd h
    refine mm_cVi 2 (As := [.int v1, .int v2]) (ok2_isBackDue l hS h0 hk7) lk_X2_195 rfl d2_leaveAside_15 (mm_room rfl rfl) rfl h0 rfl rfl ?_
    refine mm_if_eq (tgt := 87) d2_leaveAside_18 (by decide) (fun hc8 => ?_) (fun hc8 => ?_)
    · rw [if_pos hc8] at h
      refine mm_sub [] trivial ?_
      exact ok2_leaveAside_87 l hS   h
    · rw [if_neg hc8] at h
      refine mm_aload_n d2_leaveAside_21 rfl ?_
      refine mm_iload_n d2_leaveAside_22 rfl ?_
      obtain ⟨o9, hk9, h⟩ := mm_bd h
      refine mm_cVi 2 (As := [.int v1]) (ok2_hasRoom l hS h0 hk9) lk_X2_60 rfl d2_leaveAside_23 (mm_room rfl rfl) rfl h0 rfl rfl ?_
      refine mm_if_eq (tgt := 87) d2_leaveAside_26 (by decide) (fun hc10 => ?_) (fun hc10 => ?_)
      · rw [if_pos hc10] at h
        refine mm_sub [] trivial ?_
        exact ok2_leaveAside_87 l hS   h
      · rw [if_neg hc10] at h
        refine mm_aload_n d2_leaveAside_29 rfl ?_
        refine mm_getR fl_X2_19 d2_leaveAside_30 (mm_wtR hS 101 h0 rfl rfl) ?_
        refine mm_iload_n d2_leaveAside_33 rfl ?_
        refine mm_iload_n d2_leaveAside_34 rfl ?_
        refine mm_iconst (v := 1) d2_leaveAside_35 (by decide +kernel) ?_
        obtain ⟨o11, hk11, h⟩ := mm_bd h
        refine mm_cVv 1 (As := [.int v1, .int v2, .int 1]) (ok1_setSkill l hS (mm_wtT hS 2 1 h0 rfl) hk11) lk_X2_127 rfl d2_leaveAside_36 (mm_room rfl rfl) rfl (mm_wtT hS 2 1 h0 rfl) rfl rfl ?_
        refine mm_goto (tgt := 87) d2_leaveAside_39 (by decide) ?_
        refine mm_sub [] trivial ?_
        exact ok2_leaveAside_87 l hS   h
set_option maxHeartbeats 4000000 in
set_option maxRecDepth 100000 in
theorem ok3_fillCosts_15_b (l : Launch) {S : mm_Sh} (hS : mm_WT S) {n : Nat}  {rec2 : Nat → Int32 → mm_I → mm_J → Option (mm_I × mm_J)} (hrec2 : ∀ {v0 : Nat} {v1 : Int32} (_ : mm_is S v0 3) {I : mm_I} {J : mm_J} {o : mm_I × mm_J}, rec2 v0 v1 I J = some o → mm_W l M3_fillCosts (mm_rm (mm_rk M3_fillCosts)) 0 0 S (mm_end S (mm_Qv o.1 o.2)) 2 [(0, .ref v0), (1, .int v1)] [] I J) {rec15 : Nat → Int32 → Int32 → mm_I → mm_J → Option (mm_I × mm_J)} (hrec15 : ∀ {v0 : Nat} {v1 : Int32} {v2 : Int32} (_ : mm_is S v0 3) {I : mm_I} {J : mm_J} {o : mm_I × mm_J}, rec15 v0 v1 v2 I J = some o → mm_W l M3_fillCosts (mm_rm (mm_rk M3_fillCosts)) 0 0 S (mm_end S (mm_Qv o.1 o.2)) 15 [(0, .ref v0), (1, .int v1), (2, .int v2)] [] I J) {v0 : Nat} {v1 : Int32} {v2 : Int32} (h0 : mm_is S v0 3) {I : mm_I} {J : mm_J} {o : mm_I × mm_J} (h : f3_fillCosts_15_b S n rec2 rec15 v0 v1 v2 I J = some o) : mm_W l M3_fillCosts (mm_rm (mm_rk M3_fillCosts)) 0 0 S (mm_end S (mm_Qv o.1 o.2)) 15 [(0, .ref v0), (1, .int v1), (2, .int v2)] [] I J := by
  unfold f3_fillCosts_15_b at h
  refine mm_iload_n d3_fillCosts_15 rfl ?_
  refine mm_aload_n d3_fillCosts_16 rfl ?_
  refine mm_getR fl_X3_33 d3_fillCosts_17 (mm_wtR hS 100 h0 rfl rfl) ?_
  refine mm_getI fl_X3_78 d3_fillCosts_20 (mm_wtI hS (mm_wtT hS 0 0 h0 rfl) rfl) ?_
  refine mm_icmp_ge (tgt := 50) d3_fillCosts_23 (by decide) (fun hc1 => ?_) (fun hc1 => ?_)
  · rw [if_pos hc1] at h
    refine mm_iinc (v := v1 + 1) d3_fillCosts_50 rfl rfl rfl rfl ?_
    refine mm_goto (tgt := 2) d3_fillCosts_53 (by decide) ?_
    refine mm_sub [(0, .ref v0), (1, .int (v1 + 1))] ⟨rfl, rfl, trivial⟩ ?_
    exact hrec2 h0 h
  · rw [if_neg hc1] at h
    refine mm_aload_n d3_fillCosts_26 rfl ?_
    refine mm_getR fl_X3_20 d3_fillCosts_27 (mm_wtR hS 106 h0 rfl rfl) ?_
    refine mm_iload_n d3_fillCosts_30 rfl ?_
    refine mm_iload_n d3_fillCosts_31 rfl ?_
    obtain ⟨o2, hk2, h⟩ := mm_bd h
    refine mm_cSi (As := [.int v1, .int v2]) (ok10_cell l hS hk2) lk_X3_90 rfl d3_fillCosts_32 (mm_room rfl rfl) rfl rfl ?_
    refine mm_aload_n d3_fillCosts_35 rfl ?_
    refine mm_iload_n d3_fillCosts_36 rfl ?_
    refine mm_iload_n d3_fillCosts_37 rfl ?_
    obtain ⟨o3, hk3, h⟩ := mm_bd h
    refine mm_cVi 3 (As := [.int v1, .int v2]) (ok3_costOf l hS h0 hk3) lk_X3_94 rfl d3_fillCosts_38 (mm_room rfl rfl) rfl h0 rfl rfl ?_
    obtain ⟨o4, hk4, h⟩ := mm_bd h
    refine mm_cVv 6 (As := [.int o2, .int o3]) (ok6_put l hS (mm_wtT hS 4 6 h0 rfl) hk4) lk_X3_83 rfl d3_fillCosts_41 (mm_room rfl rfl) rfl (mm_wtT hS 4 6 h0 rfl) rfl rfl ?_
    refine mm_iinc (v := v2 + 1) d3_fillCosts_44 rfl rfl rfl rfl ?_
    refine mm_goto (tgt := 15) d3_fillCosts_47 (by decide) ?_
    refine mm_sub [(0, .ref v0), (1, .int v1), (2, .int (v2 + 1))] ⟨rfl, rfl, rfl, trivial⟩ ?_
    exact hrec15 h0 h
set_option maxHeartbeats 4000000 in
set_option maxRecDepth 100000 in
theorem ok3_fillCosts_15 (l : Launch) {S : mm_Sh} (hS : mm_WT S) {n : Nat}  {rec2 : Nat → Int32 → mm_I → mm_J → Option (mm_I × mm_J)} (hrec2 : ∀ {v0 : Nat} {v1 : Int32} (_ : mm_is S v0 3) {I : mm_I} {J : mm_J} {o : mm_I × mm_J}, rec2 v0 v1 I J = some o → mm_W l M3_fillCosts (mm_rm (mm_rk M3_fillCosts)) 0 0 S (mm_end S (mm_Qv o.1 o.2)) 2 [(0, .ref v0), (1, .int v1)] [] I J) : ∀ (k : Nat) {v0 : Nat} {v1 : Int32} {v2 : Int32} (h0 : mm_is S v0 3) {I : mm_I} {J : mm_J} {o : mm_I × mm_J}, f3_fillCosts_15 S n rec2 k v0 v1 v2 I J = some o → mm_W l M3_fillCosts (mm_rm (mm_rk M3_fillCosts)) 0 0 S (mm_end S (mm_Qv o.1 o.2)) 15 [(0, .ref v0), (1, .int v1), (2, .int v2)] [] I J := by
  intro k
  induction k with
  | zero =>
    intros
    rename_i h
    cases h
  | succ k ih =>
    intro v0 v1 v2 h0 I J o h
    exact ok3_fillCosts_15_b l hS hrec2 (fun {v0 v1 v2} h0 {I J o} h => ih h0 h) h0 h
set_option maxHeartbeats 4000000 in
set_option maxRecDepth 100000 in
theorem ok3_fillCosts_2_b (l : Launch) {S : mm_Sh} (hS : mm_WT S) {n : Nat}  {rec2 : Nat → Int32 → mm_I → mm_J → Option (mm_I × mm_J)} (hrec2 : ∀ {v0 : Nat} {v1 : Int32} (_ : mm_is S v0 3) {I : mm_I} {J : mm_J} {o : mm_I × mm_J}, rec2 v0 v1 I J = some o → mm_W l M3_fillCosts (mm_rm (mm_rk M3_fillCosts)) 0 0 S (mm_end S (mm_Qv o.1 o.2)) 2 [(0, .ref v0), (1, .int v1)] [] I J) {v0 : Nat} {v1 : Int32} (h0 : mm_is S v0 3) {I : mm_I} {J : mm_J} {o : mm_I × mm_J} (h : f3_fillCosts_2_b S n rec2 v0 v1 I J = some o) : mm_W l M3_fillCosts (mm_rm (mm_rk M3_fillCosts)) 0 0 S (mm_end S (mm_Qv o.1 o.2)) 2 [(0, .ref v0), (1, .int v1)] [] I J := by
  unfold f3_fillCosts_2_b at h
  refine mm_iload_n d3_fillCosts_2 rfl ?_
  refine mm_aload_n d3_fillCosts_3 rfl ?_
  refine mm_getR fl_X3_33 d3_fillCosts_4 (mm_wtR hS 100 h0 rfl rfl) ?_
  refine mm_getI fl_X3_87 d3_fillCosts_7 (mm_wtI hS (mm_wtT hS 0 0 h0 rfl) rfl) ?_
  refine mm_icmp_ge (tgt := 56) d3_fillCosts_10 (by decide) (fun hc1 => ?_) (fun hc1 => ?_)
  · rw [if_pos hc1] at h
    have h := Option.some.inj h
    subst h
    exact mm_vret rfl d3_fillCosts_56 ⟨rfl, rfl, rfl⟩
  · rw [if_neg hc1] at h
    refine mm_iconst (v := 0) d3_fillCosts_13 (by decide +kernel) ?_
    refine mm_istore_n d3_fillCosts_14 rfl rfl ?_
    refine mm_sub [(0, .ref v0), (1, .int v1), (2, .int 0)] ⟨rfl, rfl, rfl, trivial⟩ ?_
    exact ok3_fillCosts_15 l hS hrec2 n h0 h
set_option maxHeartbeats 4000000 in
set_option maxRecDepth 100000 in
theorem ok3_fillCosts_2 (l : Launch) {S : mm_Sh} (hS : mm_WT S) {n : Nat}  : ∀ (k : Nat) {v0 : Nat} {v1 : Int32} (h0 : mm_is S v0 3) {I : mm_I} {J : mm_J} {o : mm_I × mm_J}, f3_fillCosts_2 S n k v0 v1 I J = some o → mm_W l M3_fillCosts (mm_rm (mm_rk M3_fillCosts)) 0 0 S (mm_end S (mm_Qv o.1 o.2)) 2 [(0, .ref v0), (1, .int v1)] [] I J := by
  intro k
  induction k with
  | zero =>
    intros
    rename_i h
    cases h
  | succ k ih =>
    intro v0 v1 h0 I J o h
    exact ok3_fillCosts_2_b l hS (fun {v0 v1} h0 {I J o} h => ih h0 h) h0 h
set_option maxHeartbeats 4000000 in
set_option maxRecDepth 100000 in
theorem ok3_fillCosts (l : Launch) {S : mm_Sh} (hS : mm_WT S) {n : Nat}  {v0 : Nat} (h0 : mm_is S v0 3) {I : mm_I} {J : mm_J} {o : mm_I × mm_J} (h : f3_fillCosts S n v0 I J = some o) : mm_C l M3_fillCosts S [.ref v0] I J (mm_Qv o.1 o.2) := by
  unfold f3_fillCosts at h
  refine mm_enter rfl (by decide +kernel) rfl ?_
  refine mm_iconst (v := 0) d3_fillCosts_0 (by decide +kernel) ?_
  refine mm_istore_n d3_fillCosts_1 rfl rfl ?_
  refine mm_sub [(0, .ref v0), (1, .int 0)] ⟨rfl, rfl, trivial⟩ ?_
  exact ok3_fillCosts_2 l hS  n h0 h
set_option maxHeartbeats 4000000 in
set_option maxRecDepth 100000 in
theorem ok3_fillSums_38 (l : Launch) {S : mm_Sh} (hS : mm_WT S) {n : Nat}  {rec2 : Nat → Int32 → mm_I → mm_J → Option (mm_I × mm_J)} (hrec2 : ∀ {v0 : Nat} {v1 : Int32} (_ : mm_is S v0 3) {I : mm_I} {J : mm_J} {o : mm_I × mm_J}, rec2 v0 v1 I J = some o → mm_W l M3_fillSums (mm_rm (mm_rk M3_fillSums)) 0 0 S (mm_end S (mm_Qv o.1 o.2)) 2 [(0, .ref v0), (1, .int v1)] [] I J) {v0 : Nat} {v1 : Int32} {s0 : Nat} {s1 : Int32} {s2 : Int32} (h0 : mm_is S v0 3) (g0 : mm_is S s0 6) {I : mm_I} {J : mm_J} {o : mm_I × mm_J} (h : f3_fillSums_38 S n rec2 v0 v1 s0 s1 s2 I J = some o) : mm_W l M3_fillSums (mm_rm (mm_rk M3_fillSums)) 0 0 S (mm_end S (mm_Qv o.1 o.2)) 38 [(0, .ref v0), (1, .int v1)] [.int s2, .int s1, .ref s0] I J := by
  unfold f3_fillSums_38 at h
  obtain ⟨o1, hk1, h⟩ := mm_bd h
  refine mm_cVv 6 (As := [.int s1, .int s2]) (ok6_put l hS g0 hk1) lk_X3_83 rfl d3_fillSums_38 (mm_room rfl rfl) rfl g0 rfl rfl ?_
  refine mm_iinc (v := v1 + 1) d3_fillSums_41 rfl rfl rfl rfl ?_
  refine mm_goto (tgt := 2) d3_fillSums_44 (by decide) ?_
  refine mm_sub [(0, .ref v0), (1, .int (v1 + 1))] ⟨rfl, rfl, trivial⟩ ?_
  exact hrec2 h0 h
set_option maxHeartbeats 4000000 in
set_option maxRecDepth 100000 in
theorem ok3_fillSums_82_b (l : Launch) {S : mm_Sh} (hS : mm_WT S) {n : Nat}  {rec57 : Nat → Int32 → mm_I → mm_J → Option (mm_I × mm_J)} (hrec57 : ∀ {v0 : Nat} {v1 : Int32} (_ : mm_is S v0 3) {I : mm_I} {J : mm_J} {o : mm_I × mm_J}, rec57 v0 v1 I J = some o → mm_W l M3_fillSums (mm_rm (mm_rk M3_fillSums)) 0 0 S (mm_end S (mm_Qv o.1 o.2)) 57 [(0, .ref v0), (1, .int v1)] [] I J) {rec63 : Nat → Int32 → Int32 → mm_I → mm_J → Option (mm_I × mm_J)} (hrec63 : ∀ {v0 : Nat} {v1 : Int32} {v2 : Int32} (_ : mm_is S v0 3) {I : mm_I} {J : mm_J} {o : mm_I × mm_J}, rec63 v0 v1 v2 I J = some o → mm_W l M3_fillSums (mm_rm (mm_rk M3_fillSums)) 0 0 S (mm_end S (mm_Qv o.1 o.2)) 63 [(0, .ref v0), (1, .int v1), (2, .int v2)] [] I J) {rec82 : Nat → Int32 → Int32 → Int32 → Int32 → mm_I → mm_J → Option (mm_I × mm_J)} (hrec82 : ∀ {v0 : Nat} {v1 : Int32} {v2 : Int32} {v3 : Int32} {v4 : Int32} (_ : mm_is S v0 3) {I : mm_I} {J : mm_J} {o : mm_I × mm_J}, rec82 v0 v1 v2 v3 v4 I J = some o → mm_W l M3_fillSums (mm_rm (mm_rk M3_fillSums)) 0 0 S (mm_end S (mm_Qv o.1 o.2)) 82 [(0, .ref v0), (1, .int v1), (2, .int v2), (3, .int v3), (4, .int v4)] [] I J) {v0 : Nat} {v1 : Int32} {v2 : Int32} {v3 : Int32} {v4 : Int32} (h0 : mm_is S v0 3) {I : mm_I} {J : mm_J} {o : mm_I × mm_J} (h : f3_fillSums_82_b S n rec57 rec63 rec82 v0 v1 v2 v3 v4 I J = some o) : mm_W l M3_fillSums (mm_rm (mm_rk M3_fillSums)) 0 0 S (mm_end S (mm_Qv o.1 o.2)) 82 [(0, .ref v0), (1, .int v1), (2, .int v2), (3, .int v3), (4, .int v4)] [] I J := by
  unfold f3_fillSums_82_b at h
  refine mm_iload d3_fillSums_82 rfl ?_
  refine mm_aload_n d3_fillSums_84 rfl ?_
  refine mm_getR fl_X3_33 d3_fillSums_85 (mm_wtR hS 100 h0 rfl rfl) ?_
  refine mm_getI fl_X3_78 d3_fillSums_88 (mm_wtI hS (mm_wtT hS 0 0 h0 rfl) rfl) ?_
  refine mm_icmp_ge (tgt := 113) d3_fillSums_91 (by decide) (fun hc1 => ?_) (fun hc1 => ?_)
  · rw [if_pos hc1] at h
    refine mm_aload_n d3_fillSums_113 rfl ?_
    refine mm_getR fl_X3_23 d3_fillSums_114 (mm_wtR hS 106 h0 rfl rfl) ?_
    refine mm_iload_n d3_fillSums_117 rfl ?_
    refine mm_aload_n d3_fillSums_118 rfl ?_
    refine mm_getI fl_X3_29 d3_fillSums_119 (mm_wtI hS h0 rfl) ?_
    refine mm_imul d3_fillSums_122 ?_
    refine mm_iload_n d3_fillSums_123 rfl ?_
    refine mm_iadd d3_fillSums_124 ?_
    refine mm_iload_n d3_fillSums_125 rfl ?_
    obtain ⟨o2, hk2, h⟩ := mm_bd h
    refine mm_cVv 6 (As := [.int ((v1 * (I v0 7)) + v2), .int v3]) (ok6_put l hS (mm_wtT hS 5 6 h0 rfl) hk2) lk_X3_83 rfl d3_fillSums_126 (mm_room rfl rfl) rfl (mm_wtT hS 5 6 h0 rfl) rfl rfl ?_
    refine mm_iinc (v := v2 + 1) d3_fillSums_129 rfl rfl rfl rfl ?_
    refine mm_goto (tgt := 63) d3_fillSums_132 (by decide) ?_
    refine mm_sub [(0, .ref v0), (1, .int v1), (2, .int (v2 + 1))] ⟨rfl, rfl, rfl, trivial⟩ ?_
    exact hrec63 h0 h
  · rw [if_neg hc1] at h
    refine mm_iload_n d3_fillSums_94 rfl ?_
    refine mm_aload_n d3_fillSums_95 rfl ?_
    refine mm_iload_n d3_fillSums_96 rfl ?_
    refine mm_iload_n d3_fillSums_97 rfl ?_
    refine mm_iload d3_fillSums_98 rfl ?_
    obtain ⟨o3, hk3, h⟩ := mm_bd h
    refine mm_cVi 3 (As := [.int v1, .int v2, .int v4]) (ok3_sumWith l hS h0 hk3) lk_X3_117 rfl d3_fillSums_100 (mm_room rfl rfl) rfl h0 rfl rfl ?_
    refine mm_mmin lm_X3_121 d3_fillSums_103 (mm_roomM rfl rfl) ?_
    refine mm_istore_n d3_fillSums_106 rfl rfl ?_
    refine mm_iinc (v := v4 + 1) d3_fillSums_107 rfl rfl rfl rfl ?_
    refine mm_goto (tgt := 82) d3_fillSums_110 (by decide) ?_
    refine mm_sub [(0, .ref v0), (1, .int v1), (2, .int v2), (3, .int (if o3 < v3 then o3 else v3)), (4, .int (v4 + 1))] ⟨rfl, rfl, rfl, rfl, rfl, trivial⟩ ?_
    exact hrec82 h0 h
set_option maxHeartbeats 4000000 in
set_option maxRecDepth 100000 in
theorem ok3_fillSums_82 (l : Launch) {S : mm_Sh} (hS : mm_WT S) {n : Nat}  {rec57 : Nat → Int32 → mm_I → mm_J → Option (mm_I × mm_J)} (hrec57 : ∀ {v0 : Nat} {v1 : Int32} (_ : mm_is S v0 3) {I : mm_I} {J : mm_J} {o : mm_I × mm_J}, rec57 v0 v1 I J = some o → mm_W l M3_fillSums (mm_rm (mm_rk M3_fillSums)) 0 0 S (mm_end S (mm_Qv o.1 o.2)) 57 [(0, .ref v0), (1, .int v1)] [] I J) {rec63 : Nat → Int32 → Int32 → mm_I → mm_J → Option (mm_I × mm_J)} (hrec63 : ∀ {v0 : Nat} {v1 : Int32} {v2 : Int32} (_ : mm_is S v0 3) {I : mm_I} {J : mm_J} {o : mm_I × mm_J}, rec63 v0 v1 v2 I J = some o → mm_W l M3_fillSums (mm_rm (mm_rk M3_fillSums)) 0 0 S (mm_end S (mm_Qv o.1 o.2)) 63 [(0, .ref v0), (1, .int v1), (2, .int v2)] [] I J) : ∀ (k : Nat) {v0 : Nat} {v1 : Int32} {v2 : Int32} {v3 : Int32} {v4 : Int32} (h0 : mm_is S v0 3) {I : mm_I} {J : mm_J} {o : mm_I × mm_J}, f3_fillSums_82 S n rec57 rec63 k v0 v1 v2 v3 v4 I J = some o → mm_W l M3_fillSums (mm_rm (mm_rk M3_fillSums)) 0 0 S (mm_end S (mm_Qv o.1 o.2)) 82 [(0, .ref v0), (1, .int v1), (2, .int v2), (3, .int v3), (4, .int v4)] [] I J := by
  intro k
  induction k with
  | zero =>
    intros
    rename_i h
    cases h
  | succ k ih =>
    intro v0 v1 v2 v3 v4 h0 I J o h
    exact ok3_fillSums_82_b l hS hrec57 hrec63 (fun {v0 v1 v2 v3 v4} h0 {I J o} h => ih h0 h) h0 h
set_option maxHeartbeats 4000000 in
set_option maxRecDepth 100000 in
theorem ok3_fillSums_63_b (l : Launch) {S : mm_Sh} (hS : mm_WT S) {n : Nat}  {rec57 : Nat → Int32 → mm_I → mm_J → Option (mm_I × mm_J)} (hrec57 : ∀ {v0 : Nat} {v1 : Int32} (_ : mm_is S v0 3) {I : mm_I} {J : mm_J} {o : mm_I × mm_J}, rec57 v0 v1 I J = some o → mm_W l M3_fillSums (mm_rm (mm_rk M3_fillSums)) 0 0 S (mm_end S (mm_Qv o.1 o.2)) 57 [(0, .ref v0), (1, .int v1)] [] I J) {rec63 : Nat → Int32 → Int32 → mm_I → mm_J → Option (mm_I × mm_J)} (hrec63 : ∀ {v0 : Nat} {v1 : Int32} {v2 : Int32} (_ : mm_is S v0 3) {I : mm_I} {J : mm_J} {o : mm_I × mm_J}, rec63 v0 v1 v2 I J = some o → mm_W l M3_fillSums (mm_rm (mm_rk M3_fillSums)) 0 0 S (mm_end S (mm_Qv o.1 o.2)) 63 [(0, .ref v0), (1, .int v1), (2, .int v2)] [] I J) {v0 : Nat} {v1 : Int32} {v2 : Int32} (h0 : mm_is S v0 3) {I : mm_I} {J : mm_J} {o : mm_I × mm_J} (h : f3_fillSums_63_b S n rec57 rec63 v0 v1 v2 I J = some o) : mm_W l M3_fillSums (mm_rm (mm_rk M3_fillSums)) 0 0 S (mm_end S (mm_Qv o.1 o.2)) 63 [(0, .ref v0), (1, .int v1), (2, .int v2)] [] I J := by
  unfold f3_fillSums_63_b at h
  refine mm_iload_n d3_fillSums_63 rfl ?_
  refine mm_aload_n d3_fillSums_64 rfl ?_
  refine mm_getI fl_X3_29 d3_fillSums_65 (mm_wtI hS h0 rfl) ?_
  refine mm_icmp_ge (tgt := 135) d3_fillSums_68 (by decide) (fun hc1 => ?_) (fun hc1 => ?_)
  · rw [if_pos hc1] at h
    refine mm_iinc (v := v1 + (-1)) d3_fillSums_135 rfl rfl rfl rfl ?_
    refine mm_goto (tgt := 57) d3_fillSums_138 (by decide) ?_
    refine mm_sub [(0, .ref v0), (1, .int (v1 + (-1)))] ⟨rfl, rfl, trivial⟩ ?_
    exact hrec57 h0 h
  · rw [if_neg hc1] at h
    refine mm_aload_n d3_fillSums_71 rfl ?_
    refine mm_iload_n d3_fillSums_72 rfl ?_
    refine mm_iload_n d3_fillSums_73 rfl ?_
    refine mm_iconst (v := (-1)) d3_fillSums_74 (by decide +kernel) ?_
    obtain ⟨o2, hk2, h⟩ := mm_bd h
    refine mm_cVi 3 (As := [.int v1, .int v2, .int (-1)]) (ok3_sumWith l hS h0 hk2) lk_X3_117 rfl d3_fillSums_75 (mm_room rfl rfl) rfl h0 rfl rfl ?_
    refine mm_istore_n d3_fillSums_78 rfl rfl ?_
    refine mm_iconst (v := 0) d3_fillSums_79 (by decide +kernel) ?_
    refine mm_istore d3_fillSums_80 rfl rfl ?_
    refine mm_sub [(0, .ref v0), (1, .int v1), (2, .int v2), (3, .int o2), (4, .int 0)] ⟨rfl, rfl, rfl, rfl, rfl, trivial⟩ ?_
    exact ok3_fillSums_82 l hS hrec57 hrec63 n h0 h
set_option maxHeartbeats 4000000 in
set_option maxRecDepth 100000 in
theorem ok3_fillSums_63 (l : Launch) {S : mm_Sh} (hS : mm_WT S) {n : Nat}  {rec57 : Nat → Int32 → mm_I → mm_J → Option (mm_I × mm_J)} (hrec57 : ∀ {v0 : Nat} {v1 : Int32} (_ : mm_is S v0 3) {I : mm_I} {J : mm_J} {o : mm_I × mm_J}, rec57 v0 v1 I J = some o → mm_W l M3_fillSums (mm_rm (mm_rk M3_fillSums)) 0 0 S (mm_end S (mm_Qv o.1 o.2)) 57 [(0, .ref v0), (1, .int v1)] [] I J) : ∀ (k : Nat) {v0 : Nat} {v1 : Int32} {v2 : Int32} (h0 : mm_is S v0 3) {I : mm_I} {J : mm_J} {o : mm_I × mm_J}, f3_fillSums_63 S n rec57 k v0 v1 v2 I J = some o → mm_W l M3_fillSums (mm_rm (mm_rk M3_fillSums)) 0 0 S (mm_end S (mm_Qv o.1 o.2)) 63 [(0, .ref v0), (1, .int v1), (2, .int v2)] [] I J := by
  intro k
  induction k with
  | zero =>
    intros
    rename_i h
    cases h
  | succ k ih =>
    intro v0 v1 v2 h0 I J o h
    exact ok3_fillSums_63_b l hS hrec57 (fun {v0 v1 v2} h0 {I J o} h => ih h0 h) h0 h
set_option maxHeartbeats 4000000 in
set_option maxRecDepth 100000 in
theorem ok3_fillSums_57_b (l : Launch) {S : mm_Sh} (hS : mm_WT S) {n : Nat}  {rec57 : Nat → Int32 → mm_I → mm_J → Option (mm_I × mm_J)} (hrec57 : ∀ {v0 : Nat} {v1 : Int32} (_ : mm_is S v0 3) {I : mm_I} {J : mm_J} {o : mm_I × mm_J}, rec57 v0 v1 I J = some o → mm_W l M3_fillSums (mm_rm (mm_rk M3_fillSums)) 0 0 S (mm_end S (mm_Qv o.1 o.2)) 57 [(0, .ref v0), (1, .int v1)] [] I J) {v0 : Nat} {v1 : Int32} (h0 : mm_is S v0 3) {I : mm_I} {J : mm_J} {o : mm_I × mm_J} (h : f3_fillSums_57_b S n rec57 v0 v1 I J = some o) : mm_W l M3_fillSums (mm_rm (mm_rk M3_fillSums)) 0 0 S (mm_end S (mm_Qv o.1 o.2)) 57 [(0, .ref v0), (1, .int v1)] [] I J := by
  unfold f3_fillSums_57_b at h
  refine mm_iload_n d3_fillSums_57 rfl ?_
  refine mm_if_lt (tgt := 141) d3_fillSums_58 (by decide) (fun hc1 => ?_) (fun hc1 => ?_)
  · rw [if_pos hc1] at h
    have h := Option.some.inj h
    subst h
    exact mm_vret rfl d3_fillSums_141 ⟨rfl, rfl, rfl⟩
  · rw [if_neg hc1] at h
    refine mm_iconst (v := 0) d3_fillSums_61 (by decide +kernel) ?_
    refine mm_istore_n d3_fillSums_62 rfl rfl ?_
    refine mm_sub [(0, .ref v0), (1, .int v1), (2, .int 0)] ⟨rfl, rfl, rfl, trivial⟩ ?_
    exact ok3_fillSums_63 l hS hrec57 n h0 h
set_option maxHeartbeats 4000000 in
set_option maxRecDepth 100000 in
theorem ok3_fillSums_57 (l : Launch) {S : mm_Sh} (hS : mm_WT S) {n : Nat}  : ∀ (k : Nat) {v0 : Nat} {v1 : Int32} (h0 : mm_is S v0 3) {I : mm_I} {J : mm_J} {o : mm_I × mm_J}, f3_fillSums_57 S n k v0 v1 I J = some o → mm_W l M3_fillSums (mm_rm (mm_rk M3_fillSums)) 0 0 S (mm_end S (mm_Qv o.1 o.2)) 57 [(0, .ref v0), (1, .int v1)] [] I J := by
  intro k
  induction k with
  | zero =>
    intros
    rename_i h
    cases h
  | succ k ih =>
    intro v0 v1 h0 I J o h
    exact ok3_fillSums_57_b l hS (fun {v0 v1} h0 {I J o} h => ih h0 h) h0 h
set_option maxHeartbeats 4000000 in
set_option maxRecDepth 100000 in
theorem ok3_fillSums_2_b (l : Launch) {S : mm_Sh} (hS : mm_WT S) {n : Nat}  {rec2 : Nat → Int32 → mm_I → mm_J → Option (mm_I × mm_J)} (hrec2 : ∀ {v0 : Nat} {v1 : Int32} (_ : mm_is S v0 3) {I : mm_I} {J : mm_J} {o : mm_I × mm_J}, rec2 v0 v1 I J = some o → mm_W l M3_fillSums (mm_rm (mm_rk M3_fillSums)) 0 0 S (mm_end S (mm_Qv o.1 o.2)) 2 [(0, .ref v0), (1, .int v1)] [] I J) {v0 : Nat} {v1 : Int32} (h0 : mm_is S v0 3) {I : mm_I} {J : mm_J} {o : mm_I × mm_J} (h : f3_fillSums_2_b S n rec2 v0 v1 I J = some o) : mm_W l M3_fillSums (mm_rm (mm_rk M3_fillSums)) 0 0 S (mm_end S (mm_Qv o.1 o.2)) 2 [(0, .ref v0), (1, .int v1)] [] I J := by
  unfold f3_fillSums_2_b at h
  refine mm_iload_n d3_fillSums_2 rfl ?_
  refine mm_aload_n d3_fillSums_3 rfl ?_
  refine mm_getI fl_X3_29 d3_fillSums_4 (mm_wtI hS h0 rfl) ?_
  refine mm_icmp_ge (tgt := 47) d3_fillSums_7 (by decide) (fun hc1 => ?_) (fun hc1 => ?_)
  · rw [if_pos hc1] at h
    refine mm_aload_n d3_fillSums_47 rfl ?_
    refine mm_getR fl_X3_33 d3_fillSums_48 (mm_wtR hS 100 h0 rfl rfl) ?_
    refine mm_getI fl_X3_87 d3_fillSums_51 (mm_wtI hS (mm_wtT hS 0 0 h0 rfl) rfl) ?_
    refine mm_iconst (v := 1) d3_fillSums_54 (by decide +kernel) ?_
    refine mm_isub d3_fillSums_55 ?_
    refine mm_istore_n d3_fillSums_56 rfl rfl ?_
    refine mm_sub [(0, .ref v0), (1, .int ((I (mm_rf S v0 0) 6) - 1))] ⟨rfl, rfl, trivial⟩ ?_
    exact ok3_fillSums_57 l hS  n h0 h
  · rw [if_neg hc1] at h
    refine mm_aload_n d3_fillSums_10 rfl ?_
    refine mm_getR fl_X3_23 d3_fillSums_11 (mm_wtR hS 106 h0 rfl rfl) ?_
    refine mm_aload_n d3_fillSums_14 rfl ?_
    refine mm_getR fl_X3_33 d3_fillSums_15 (mm_wtR hS 100 h0 rfl rfl) ?_
    refine mm_getI fl_X3_87 d3_fillSums_18 (mm_wtI hS (mm_wtT hS 0 0 h0 rfl) rfl) ?_
    refine mm_aload_n d3_fillSums_21 rfl ?_
    refine mm_getI fl_X3_29 d3_fillSums_22 (mm_wtI hS h0 rfl) ?_
    refine mm_imul d3_fillSums_25 ?_
    refine mm_iload_n d3_fillSums_26 rfl ?_
    refine mm_iadd d3_fillSums_27 ?_
    refine mm_iload_n d3_fillSums_28 rfl ?_
    refine mm_if_ne (tgt := 36) d3_fillSums_29 (by decide) (fun hc2 => ?_) (fun hc2 => ?_)
    · rw [if_neg hc2] at h
      refine mm_ldc (v := 1000000) d3_fillSums_36 kX3_74 ?_
      refine mm_sub [(0, .ref v0), (1, .int v1)] ⟨rfl, rfl, trivial⟩ ?_
      exact ok3_fillSums_38 l hS hrec2 h0 (mm_wtT hS 5 6 h0 rfl) h
    · rw [if_pos hc2] at h
      refine mm_iconst (v := 0) d3_fillSums_32 (by decide +kernel) ?_
      refine mm_goto (tgt := 38) d3_fillSums_33 (by decide) ?_
      refine mm_sub [(0, .ref v0), (1, .int v1)] ⟨rfl, rfl, trivial⟩ ?_
      exact ok3_fillSums_38 l hS hrec2 h0 (mm_wtT hS 5 6 h0 rfl) h
set_option maxHeartbeats 4000000 in
set_option maxRecDepth 100000 in
theorem ok3_fillSums_2 (l : Launch) {S : mm_Sh} (hS : mm_WT S) {n : Nat}  : ∀ (k : Nat) {v0 : Nat} {v1 : Int32} (h0 : mm_is S v0 3) {I : mm_I} {J : mm_J} {o : mm_I × mm_J}, f3_fillSums_2 S n k v0 v1 I J = some o → mm_W l M3_fillSums (mm_rm (mm_rk M3_fillSums)) 0 0 S (mm_end S (mm_Qv o.1 o.2)) 2 [(0, .ref v0), (1, .int v1)] [] I J := by
  intro k
  induction k with
  | zero =>
    intros
    rename_i h
    cases h
  | succ k ih =>
    intro v0 v1 h0 I J o h
    exact ok3_fillSums_2_b l hS (fun {v0 v1} h0 {I J o} h => ih h0 h) h0 h
set_option maxHeartbeats 4000000 in
set_option maxRecDepth 100000 in
theorem ok3_fillSums (l : Launch) {S : mm_Sh} (hS : mm_WT S) {n : Nat}  {v0 : Nat} (h0 : mm_is S v0 3) {I : mm_I} {J : mm_J} {o : mm_I × mm_J} (h : f3_fillSums S n v0 I J = some o) : mm_C l M3_fillSums S [.ref v0] I J (mm_Qv o.1 o.2) := by
  unfold f3_fillSums at h
  refine mm_enter rfl (by decide +kernel) rfl ?_
  refine mm_iconst (v := 0) d3_fillSums_0 (by decide +kernel) ?_
  refine mm_istore_n d3_fillSums_1 rfl rfl ?_
  refine mm_sub [(0, .ref v0), (1, .int 0)] ⟨rfl, rfl, trivial⟩ ?_
  exact ok3_fillSums_2 l hS  n h0 h
set_option maxHeartbeats 4000000 in
set_option maxRecDepth 100000 in
theorem ok3_giveTrades_103 (l : Launch) {S : mm_Sh} (hS : mm_WT S) {n : Nat}  {rec9 : Nat → Int32 → Int32 → mm_I → mm_J → Option (mm_I × mm_J)} (hrec9 : ∀ {v0 : Nat} {v1 : Int32} {v2 : Int32} (_ : mm_is S v0 3) {I : mm_I} {J : mm_J} {o : mm_I × mm_J}, rec9 v0 v1 v2 I J = some o → mm_W l M3_giveTrades (mm_rm (mm_rk M3_giveTrades)) 0 0 S (mm_end S (mm_Qv o.1 o.2)) 9 [(0, .ref v0), (1, .int v1), (2, .int v2)] [] I J) {v0 : Nat} {v1 : Int32} {v2 : Int32} (h0 : mm_is S v0 3) {I : mm_I} {J : mm_J} {o : mm_I × mm_J} (h : f3_giveTrades_103 S n rec9 v0 v1 v2 I J = some o) : mm_W l M3_giveTrades (mm_rm (mm_rk M3_giveTrades)) 0 0 S (mm_end S (mm_Qv o.1 o.2)) 103 [(0, .ref v0), (1, .int v1), (2, .int v2)] [] I J := by
  unfold f3_giveTrades_103 at h
  refine mm_iinc (v := v2 + 1) d3_giveTrades_103 rfl rfl rfl rfl ?_
  refine mm_goto (tgt := 9) d3_giveTrades_106 (by decide) ?_
  refine mm_sub [(0, .ref v0), (1, .int v1), (2, .int (v2 + 1))] ⟨rfl, rfl, rfl, trivial⟩ ?_
  exact hrec9 h0 h
set_option maxHeartbeats 4000000 in
set_option maxRecDepth 100000 in
theorem ok3_giveTrades_69 (l : Launch) {S : mm_Sh} (hS : mm_WT S) {n : Nat}  {rec9 : Nat → Int32 → Int32 → mm_I → mm_J → Option (mm_I × mm_J)} (hrec9 : ∀ {v0 : Nat} {v1 : Int32} {v2 : Int32} (_ : mm_is S v0 3) {I : mm_I} {J : mm_J} {o : mm_I × mm_J}, rec9 v0 v1 v2 I J = some o → mm_W l M3_giveTrades (mm_rm (mm_rk M3_giveTrades)) 0 0 S (mm_end S (mm_Qv o.1 o.2)) 9 [(0, .ref v0), (1, .int v1), (2, .int v2)] [] I J) {v0 : Nat} {v1 : Int32} {v2 : Int32} {v4 : Int32} (h0 : mm_is S v0 3) {I : mm_I} {J : mm_J} {o : mm_I × mm_J} (h : f3_giveTrades_69 S n rec9 v0 v1 v2 v4 I J = some o) : mm_W l M3_giveTrades (mm_rm (mm_rk M3_giveTrades)) 0 0 S (mm_end S (mm_Qv o.1 o.2)) 69 [(0, .ref v0), (1, .int v1), (2, .int v2), (4, .int v4)] [] I J := by
  unfold f3_giveTrades_69 at h
  refine mm_iload d3_giveTrades_69 rfl ?_
  refine mm_aload_n d3_giveTrades_71 rfl ?_
  refine mm_getR fl_X3_33 d3_giveTrades_72 (mm_wtR hS 100 h0 rfl rfl) ?_
  refine mm_getI fl_X3_78 d3_giveTrades_75 (mm_wtI hS (mm_wtT hS 0 0 h0 rfl) rfl) ?_
  refine mm_icmp_ge (tgt := 103) d3_giveTrades_78 (by decide) (fun hc1 => ?_) (fun hc1 => ?_)
  · rw [if_pos hc1] at h
    refine mm_sub [(0, .ref v0), (1, .int v1), (2, .int v2)] ⟨rfl, rfl, rfl, trivial⟩ ?_
    exact ok3_giveTrades_103 l hS hrec9 h0 h
  · rw [if_neg hc1] at h
    refine mm_aload_n d3_giveTrades_81 rfl ?_
    refine mm_getR fl_X3_26 d3_giveTrades_82 (mm_wtR hS 106 h0 rfl rfl) ?_
    refine mm_iload_n d3_giveTrades_85 rfl ?_
    refine mm_iload d3_giveTrades_86 rfl ?_
    obtain ⟨o2, hk2, h⟩ := mm_bd h
    refine mm_cVv 6 (As := [.int v2, .int v4]) (ok6_put l hS (mm_wtT hS 6 6 h0 rfl) hk2) lk_X3_83 rfl d3_giveTrades_88 (mm_room rfl rfl) rfl (mm_wtT hS 6 6 h0 rfl) rfl rfl ?_
    refine mm_iload_n d3_giveTrades_91 rfl ?_
    refine mm_aload_n d3_giveTrades_92 rfl ?_
    refine mm_getR fl_X3_14 d3_giveTrades_93 (mm_wtR hS 106 h0 rfl rfl) ?_
    refine mm_iload d3_giveTrades_96 rfl ?_
    obtain ⟨o3, hk3, h⟩ := mm_bd h
    refine mm_cVi 6 (As := [.int v4]) (ok6_at l hS (mm_wtT hS 3 6 h0 rfl) hk3) lk_X3_71 rfl d3_giveTrades_98 (mm_room rfl rfl) rfl (mm_wtT hS 3 6 h0 rfl) rfl rfl ?_
    refine mm_isub d3_giveTrades_101 ?_
    refine mm_istore_n d3_giveTrades_102 rfl rfl ?_
    refine mm_sub [(0, .ref v0), (1, .int (v1 - o3)), (2, .int v2)] ⟨rfl, rfl, rfl, trivial⟩ ?_
    exact ok3_giveTrades_103 l hS hrec9 h0 h
set_option maxHeartbeats 4000000 in
set_option maxRecDepth 100000 in
theorem ok3_giveTrades_39_b (l : Launch) {S : mm_Sh} (hS : mm_WT S) {n : Nat}  {rec9 : Nat → Int32 → Int32 → mm_I → mm_J → Option (mm_I × mm_J)} (hrec9 : ∀ {v0 : Nat} {v1 : Int32} {v2 : Int32} (_ : mm_is S v0 3) {I : mm_I} {J : mm_J} {o : mm_I × mm_J}, rec9 v0 v1 v2 I J = some o → mm_W l M3_giveTrades (mm_rm (mm_rk M3_giveTrades)) 0 0 S (mm_end S (mm_Qv o.1 o.2)) 9 [(0, .ref v0), (1, .int v1), (2, .int v2)] [] I J) {rec39 : Nat → Int32 → Int32 → Int32 → Int32 → mm_I → mm_J → Option (mm_I × mm_J)} (hrec39 : ∀ {v0 : Nat} {v1 : Int32} {v2 : Int32} {v3 : Int32} {v4 : Int32} (_ : mm_is S v0 3) {I : mm_I} {J : mm_J} {o : mm_I × mm_J}, rec39 v0 v1 v2 v3 v4 I J = some o → mm_W l M3_giveTrades (mm_rm (mm_rk M3_giveTrades)) 0 0 S (mm_end S (mm_Qv o.1 o.2)) 39 [(0, .ref v0), (1, .int v1), (2, .int v2), (3, .int v3), (4, .int v4)] [] I J) {v0 : Nat} {v1 : Int32} {v2 : Int32} {v3 : Int32} {v4 : Int32} (h0 : mm_is S v0 3) {I : mm_I} {J : mm_J} {o : mm_I × mm_J} (h : f3_giveTrades_39_b S n rec9 rec39 v0 v1 v2 v3 v4 I J = some o) : mm_W l M3_giveTrades (mm_rm (mm_rk M3_giveTrades)) 0 0 S (mm_end S (mm_Qv o.1 o.2)) 39 [(0, .ref v0), (1, .int v1), (2, .int v2), (3, .int v3), (4, .int v4)] [] I J := by
  unfold f3_giveTrades_39_b at h
  refine mm_iload d3_giveTrades_39 rfl ?_
  refine mm_aload_n d3_giveTrades_41 rfl ?_
  refine mm_getR fl_X3_33 d3_giveTrades_42 (mm_wtR hS 100 h0 rfl rfl) ?_
  refine mm_getI fl_X3_78 d3_giveTrades_45 (mm_wtI hS (mm_wtT hS 0 0 h0 rfl) rfl) ?_
  refine mm_icmp_ge (tgt := 69) d3_giveTrades_48 (by decide) (fun hc1 => ?_) (fun hc1 => ?_)
  · rw [if_pos hc1] at h
    refine mm_sub [(0, .ref v0), (1, .int v1), (2, .int v2), (4, .int v4)] ⟨rfl, rfl, rfl, rfl, trivial⟩ ?_
    exact ok3_giveTrades_69 l hS hrec9 h0 h
  · rw [if_neg hc1] at h
    refine mm_aload_n d3_giveTrades_51 rfl ?_
    refine mm_iload_n d3_giveTrades_52 rfl ?_
    refine mm_iload_n d3_giveTrades_53 rfl ?_
    refine mm_iload d3_giveTrades_54 rfl ?_
    obtain ⟨o2, hk2, h⟩ := mm_bd h
    refine mm_cVi 3 (As := [.int v2, .int v1, .int v4]) (ok3_sumWith l hS h0 hk2) lk_X3_117 rfl d3_giveTrades_56 (mm_room rfl rfl) rfl h0 rfl rfl ?_
    refine mm_iload_n d3_giveTrades_59 rfl ?_
    refine mm_icmp_eq (tgt := 69) d3_giveTrades_60 (by decide) (fun hc3 => ?_) (fun hc3 => ?_)
    · rw [if_pos hc3] at h
      refine mm_sub [(0, .ref v0), (1, .int v1), (2, .int v2), (4, .int v4)] ⟨rfl, rfl, rfl, rfl, trivial⟩ ?_
      exact ok3_giveTrades_69 l hS hrec9 h0 h
    · rw [if_neg hc3] at h
      refine mm_iinc (v := v4 + 1) d3_giveTrades_63 rfl rfl rfl rfl ?_
      refine mm_goto (tgt := 39) d3_giveTrades_66 (by decide) ?_
      refine mm_sub [(0, .ref v0), (1, .int v1), (2, .int v2), (3, .int v3), (4, .int (v4 + 1))] ⟨rfl, rfl, rfl, rfl, rfl, trivial⟩ ?_
      exact hrec39 h0 h
set_option maxHeartbeats 4000000 in
set_option maxRecDepth 100000 in
theorem ok3_giveTrades_39 (l : Launch) {S : mm_Sh} (hS : mm_WT S) {n : Nat}  {rec9 : Nat → Int32 → Int32 → mm_I → mm_J → Option (mm_I × mm_J)} (hrec9 : ∀ {v0 : Nat} {v1 : Int32} {v2 : Int32} (_ : mm_is S v0 3) {I : mm_I} {J : mm_J} {o : mm_I × mm_J}, rec9 v0 v1 v2 I J = some o → mm_W l M3_giveTrades (mm_rm (mm_rk M3_giveTrades)) 0 0 S (mm_end S (mm_Qv o.1 o.2)) 9 [(0, .ref v0), (1, .int v1), (2, .int v2)] [] I J) : ∀ (k : Nat) {v0 : Nat} {v1 : Int32} {v2 : Int32} {v3 : Int32} {v4 : Int32} (h0 : mm_is S v0 3) {I : mm_I} {J : mm_J} {o : mm_I × mm_J}, f3_giveTrades_39 S n rec9 k v0 v1 v2 v3 v4 I J = some o → mm_W l M3_giveTrades (mm_rm (mm_rk M3_giveTrades)) 0 0 S (mm_end S (mm_Qv o.1 o.2)) 39 [(0, .ref v0), (1, .int v1), (2, .int v2), (3, .int v3), (4, .int v4)] [] I J := by
  intro k
  induction k with
  | zero =>
    intros
    rename_i h
    cases h
  | succ k ih =>
    intro v0 v1 v2 v3 v4 h0 I J o h
    exact ok3_giveTrades_39_b l hS hrec9 (fun {v0 v1 v2 v3 v4} h0 {I J o} h => ih h0 h) h0 h
set_option maxHeartbeats 4000000 in
set_option maxRecDepth 100000 in
theorem ok3_giveTrades_9_b (l : Launch) {S : mm_Sh} (hS : mm_WT S) {n : Nat}  {rec9 : Nat → Int32 → Int32 → mm_I → mm_J → Option (mm_I × mm_J)} (hrec9 : ∀ {v0 : Nat} {v1 : Int32} {v2 : Int32} (_ : mm_is S v0 3) {I : mm_I} {J : mm_J} {o : mm_I × mm_J}, rec9 v0 v1 v2 I J = some o → mm_W l M3_giveTrades (mm_rm (mm_rk M3_giveTrades)) 0 0 S (mm_end S (mm_Qv o.1 o.2)) 9 [(0, .ref v0), (1, .int v1), (2, .int v2)] [] I J) {v0 : Nat} {v1 : Int32} {v2 : Int32} (h0 : mm_is S v0 3) {I : mm_I} {J : mm_J} {o : mm_I × mm_J} (h : f3_giveTrades_9_b S n rec9 v0 v1 v2 I J = some o) : mm_W l M3_giveTrades (mm_rm (mm_rk M3_giveTrades)) 0 0 S (mm_end S (mm_Qv o.1 o.2)) 9 [(0, .ref v0), (1, .int v1), (2, .int v2)] [] I J := by
  unfold f3_giveTrades_9_b at h
  refine mm_iload_n d3_giveTrades_9 rfl ?_
  refine mm_aload_n d3_giveTrades_10 rfl ?_
  refine mm_getR fl_X3_33 d3_giveTrades_11 (mm_wtR hS 100 h0 rfl rfl) ?_
  refine mm_getI fl_X3_87 d3_giveTrades_14 (mm_wtI hS (mm_wtT hS 0 0 h0 rfl) rfl) ?_
  refine mm_icmp_ge (tgt := 109) d3_giveTrades_17 (by decide) (fun hc1 => ?_) (fun hc1 => ?_)
  · rw [if_pos hc1] at h
    have h := Option.some.inj h
    subst h
    exact mm_vret rfl d3_giveTrades_109 ⟨rfl, rfl, rfl⟩
  · rw [if_neg hc1] at h
    refine mm_aload_n d3_giveTrades_20 rfl ?_
    refine mm_getR fl_X3_23 d3_giveTrades_21 (mm_wtR hS 106 h0 rfl rfl) ?_
    refine mm_iload_n d3_giveTrades_24 rfl ?_
    refine mm_aload_n d3_giveTrades_25 rfl ?_
    refine mm_getI fl_X3_29 d3_giveTrades_26 (mm_wtI hS h0 rfl) ?_
    refine mm_imul d3_giveTrades_29 ?_
    refine mm_iload_n d3_giveTrades_30 rfl ?_
    refine mm_iadd d3_giveTrades_31 ?_
    obtain ⟨o2, hk2, h⟩ := mm_bd h
    refine mm_cVi 6 (As := [.int ((v2 * (I v0 7)) + v1)]) (ok6_at l hS (mm_wtT hS 5 6 h0 rfl) hk2) lk_X3_71 rfl d3_giveTrades_32 (mm_room rfl rfl) rfl (mm_wtT hS 5 6 h0 rfl) rfl rfl ?_
    refine mm_istore_n d3_giveTrades_35 rfl rfl ?_
    refine mm_iconst (v := 0) d3_giveTrades_36 (by decide +kernel) ?_
    refine mm_istore d3_giveTrades_37 rfl rfl ?_
    refine mm_sub [(0, .ref v0), (1, .int v1), (2, .int v2), (3, .int o2), (4, .int 0)] ⟨rfl, rfl, rfl, rfl, rfl, trivial⟩ ?_
    exact ok3_giveTrades_39 l hS hrec9 n h0 h
set_option maxHeartbeats 4000000 in
set_option maxRecDepth 100000 in
theorem ok3_giveTrades_9 (l : Launch) {S : mm_Sh} (hS : mm_WT S) {n : Nat}  : ∀ (k : Nat) {v0 : Nat} {v1 : Int32} {v2 : Int32} (h0 : mm_is S v0 3) {I : mm_I} {J : mm_J} {o : mm_I × mm_J}, f3_giveTrades_9 S n k v0 v1 v2 I J = some o → mm_W l M3_giveTrades (mm_rm (mm_rk M3_giveTrades)) 0 0 S (mm_end S (mm_Qv o.1 o.2)) 9 [(0, .ref v0), (1, .int v1), (2, .int v2)] [] I J := by
  intro k
  induction k with
  | zero =>
    intros
    rename_i h
    cases h
  | succ k ih =>
    intro v0 v1 v2 h0 I J o h
    exact ok3_giveTrades_9_b l hS (fun {v0 v1 v2} h0 {I J o} h => ih h0 h) h0 h
set_option maxHeartbeats 4000000 in
set_option maxRecDepth 100000 in
theorem ok3_giveTrades (l : Launch) {S : mm_Sh} (hS : mm_WT S) {n : Nat}  {v0 : Nat} (h0 : mm_is S v0 3) {I : mm_I} {J : mm_J} {o : mm_I × mm_J} (h : f3_giveTrades S n v0 I J = some o) : mm_C l M3_giveTrades S [.ref v0] I J (mm_Qv o.1 o.2) := by
  unfold f3_giveTrades at h
  refine mm_enter rfl (by decide +kernel) rfl ?_
  refine mm_aload_n d3_giveTrades_0 rfl ?_
  refine mm_getI fl_X3_29 d3_giveTrades_1 (mm_wtI hS h0 rfl) ?_
  refine mm_iconst (v := 1) d3_giveTrades_4 (by decide +kernel) ?_
  refine mm_isub d3_giveTrades_5 ?_
  refine mm_istore_n d3_giveTrades_6 rfl rfl ?_
  refine mm_iconst (v := 0) d3_giveTrades_7 (by decide +kernel) ?_
  refine mm_istore_n d3_giveTrades_8 rfl rfl ?_
  refine mm_sub [(0, .ref v0), (1, .int ((I v0 7) - 1)), (2, .int 0)] ⟨rfl, rfl, rfl, trivial⟩ ?_
  exact ok3_giveTrades_9 l hS  n h0 h
set_option maxHeartbeats 4000000 in
set_option maxRecDepth 100000 in
theorem ok5_fillGains_67 (l : Launch) {S : mm_Sh} (hS : mm_WT S) {n : Nat}  {rec2 : Nat → Int32 → mm_I → mm_J → Option (mm_I × mm_J)} (hrec2 : ∀ {v0 : Nat} {v1 : Int32} (_ : mm_is S v0 5) {I : mm_I} {J : mm_J} {o : mm_I × mm_J}, rec2 v0 v1 I J = some o → mm_W l M5_fillGains (mm_rm (mm_rk M5_fillGains)) 0 0 S (mm_end S (mm_Qv o.1 o.2)) 2 [(0, .ref v0), (1, .int v1)] [] I J) {v0 : Nat} {v1 : Int32} {s0 : Nat} {s1 : Int32} {s2 : Int32} (h0 : mm_is S v0 5) (g0 : mm_is S s0 6) {I : mm_I} {J : mm_J} {o : mm_I × mm_J} (h : f5_fillGains_67 S n rec2 v0 v1 s0 s1 s2 I J = some o) : mm_W l M5_fillGains (mm_rm (mm_rk M5_fillGains)) 0 0 S (mm_end S (mm_Qv o.1 o.2)) 67 [(0, .ref v0), (1, .int v1)] [.int s2, .int s1, .ref s0] I J := by
  unfold f5_fillGains_67 at h
  obtain ⟨o1, hk1, h⟩ := mm_bd h
  refine mm_cVv 6 (As := [.int s1, .int s2]) (ok6_put l hS g0 hk1) lk_X5_54 rfl d5_fillGains_67 (mm_room rfl rfl) rfl g0 rfl rfl ?_
  refine mm_iinc (v := v1 + 1) d5_fillGains_70 rfl rfl rfl rfl ?_
  refine mm_goto (tgt := 2) d5_fillGains_73 (by decide) ?_
  refine mm_sub [(0, .ref v0), (1, .int (v1 + 1))] ⟨rfl, rfl, trivial⟩ ?_
  exact hrec2 h0 h
set_option maxHeartbeats 4000000 in
set_option maxRecDepth 100000 in
theorem ok5_fillGains_45 (l : Launch) {S : mm_Sh} (hS : mm_WT S) {n : Nat}  {rec2 : Nat → Int32 → mm_I → mm_J → Option (mm_I × mm_J)} (hrec2 : ∀ {v0 : Nat} {v1 : Int32} (_ : mm_is S v0 5) {I : mm_I} {J : mm_J} {o : mm_I × mm_J}, rec2 v0 v1 I J = some o → mm_W l M5_fillGains (mm_rm (mm_rk M5_fillGains)) 0 0 S (mm_end S (mm_Qv o.1 o.2)) 2 [(0, .ref v0), (1, .int v1)] [] I J) {v0 : Nat} {v1 : Int32} {s0 : Int32} (h0 : mm_is S v0 5) {I : mm_I} {J : mm_J} {o : mm_I × mm_J} (h : f5_fillGains_45 S n rec2 v0 v1 s0 I J = some o) : mm_W l M5_fillGains (mm_rm (mm_rk M5_fillGains)) 0 0 S (mm_end S (mm_Qv o.1 o.2)) 45 [(0, .ref v0), (1, .int v1)] [.int s0] I J := by
  unfold f5_fillGains_45 at h
  refine mm_istore_n d5_fillGains_45 rfl rfl ?_
  refine mm_aload_n d5_fillGains_46 rfl ?_
  refine mm_getR fl_X5_14 d5_fillGains_47 (mm_wtR hS 106 h0 rfl rfl) ?_
  refine mm_iload_n d5_fillGains_50 rfl ?_
  refine mm_iload_n d5_fillGains_51 rfl ?_
  refine mm_if_eq (tgt := 66) d5_fillGains_52 (by decide) (fun hc1 => ?_) (fun hc1 => ?_)
  · rw [if_pos hc1] at h
    refine mm_iconst (v := (-1)) d5_fillGains_66 (by decide +kernel) ?_
    refine mm_sub [(0, .ref v0), (1, .int v1)] ⟨rfl, rfl, trivial⟩ ?_
    exact ok5_fillGains_67 l hS hrec2 h0 (mm_wtT hS 1 6 h0 rfl) h
  · rw [if_neg hc1] at h
    refine mm_aload_n d5_fillGains_55 rfl ?_
    refine mm_getR fl_X5_36 d5_fillGains_56 (mm_wtR hS 102 h0 rfl rfl) ?_
    refine mm_iload_n d5_fillGains_59 rfl ?_
    obtain ⟨o2, hk2, h⟩ := mm_bd h
    refine mm_cVi 2 (As := [.int v1]) (ok2_leastLiked l hS (mm_wtT hS 0 2 h0 rfl) hk2) lk_X5_79 rfl d5_fillGains_60 (mm_room rfl rfl) rfl (mm_wtT hS 0 2 h0 rfl) rfl rfl ?_
    refine mm_goto (tgt := 67) d5_fillGains_63 (by decide) ?_
    refine mm_sub [(0, .ref v0), (1, .int v1)] ⟨rfl, rfl, trivial⟩ ?_
    exact ok5_fillGains_67 l hS hrec2 h0 (mm_wtT hS 1 6 h0 rfl) h
set_option maxHeartbeats 4000000 in
set_option maxRecDepth 100000 in
theorem ok5_fillGains_44 (l : Launch) {S : mm_Sh} (hS : mm_WT S) {n : Nat}  {rec2 : Nat → Int32 → mm_I → mm_J → Option (mm_I × mm_J)} (hrec2 : ∀ {v0 : Nat} {v1 : Int32} (_ : mm_is S v0 5) {I : mm_I} {J : mm_J} {o : mm_I × mm_J}, rec2 v0 v1 I J = some o → mm_W l M5_fillGains (mm_rm (mm_rk M5_fillGains)) 0 0 S (mm_end S (mm_Qv o.1 o.2)) 2 [(0, .ref v0), (1, .int v1)] [] I J) {v0 : Nat} {v1 : Int32} (h0 : mm_is S v0 5) {I : mm_I} {J : mm_J} {o : mm_I × mm_J} (h : f5_fillGains_44 S n rec2 v0 v1 I J = some o) : mm_W l M5_fillGains (mm_rm (mm_rk M5_fillGains)) 0 0 S (mm_end S (mm_Qv o.1 o.2)) 44 [(0, .ref v0), (1, .int v1)] [] I J := by
  unfold f5_fillGains_44 at h
  refine mm_iconst (v := 0) d5_fillGains_44 (by decide +kernel) ?_
  refine mm_sub [(0, .ref v0), (1, .int v1)] ⟨rfl, rfl, trivial⟩ ?_
  exact ok5_fillGains_45 l hS hrec2 h0 h
set_option maxHeartbeats 4000000 in
set_option maxRecDepth 100000 in
theorem ok5_fillGains_86_b (l : Launch) {S : mm_Sh} (hS : mm_WT S) {n : Nat}  {rec78 : Nat → Int32 → mm_I → mm_J → Option (mm_I × mm_J)} (hrec78 : ∀ {v0 : Nat} {v1 : Int32} (_ : mm_is S v0 5) {I : mm_I} {J : mm_J} {o : mm_I × mm_J}, rec78 v0 v1 I J = some o → mm_W l M5_fillGains (mm_rm (mm_rk M5_fillGains)) 0 0 S (mm_end S (mm_Qv o.1 o.2)) 78 [(0, .ref v0), (1, .int v1)] [] I J) {rec86 : Nat → Int32 → Int32 → mm_I → mm_J → Option (mm_I × mm_J)} (hrec86 : ∀ {v0 : Nat} {v1 : Int32} {v2 : Int32} (_ : mm_is S v0 5) {I : mm_I} {J : mm_J} {o : mm_I × mm_J}, rec86 v0 v1 v2 I J = some o → mm_W l M5_fillGains (mm_rm (mm_rk M5_fillGains)) 0 0 S (mm_end S (mm_Qv o.1 o.2)) 86 [(0, .ref v0), (1, .int v1), (2, .int v2)] [] I J) {v0 : Nat} {v1 : Int32} {v2 : Int32} (h0 : mm_is S v0 5) {I : mm_I} {J : mm_J} {o : mm_I × mm_J} (h : f5_fillGains_86_b S n rec78 rec86 v0 v1 v2 I J = some o) : mm_W l M5_fillGains (mm_rm (mm_rk M5_fillGains)) 0 0 S (mm_end S (mm_Qv o.1 o.2)) 86 [(0, .ref v0), (1, .int v1), (2, .int v2)] [] I J := by
  unfold f5_fillGains_86_b at h
  refine mm_iload_n d5_fillGains_86 rfl ?_
  refine mm_bipush (v := 8) d5_fillGains_87 (by decide +kernel) ?_
  refine mm_icmp_ge (tgt := 132) d5_fillGains_89 (by decide) (fun hc1 => ?_) (fun hc1 => ?_)
  · rw [if_pos hc1] at h
    refine mm_iinc (v := v1 + 1) d5_fillGains_132 rfl rfl rfl rfl ?_
    refine mm_goto (tgt := 78) d5_fillGains_135 (by decide) ?_
    refine mm_sub [(0, .ref v0), (1, .int (v1 + 1))] ⟨rfl, rfl, trivial⟩ ?_
    exact hrec78 h0 h
  · rw [if_neg hc1] at h
    refine mm_aload_n d5_fillGains_92 rfl ?_
    refine mm_getR fl_X5_20 d5_fillGains_93 (mm_wtR hS 106 h0 rfl rfl) ?_
    refine mm_iload_n d5_fillGains_96 rfl ?_
    refine mm_bipush (v := 8) d5_fillGains_97 (by decide +kernel) ?_
    refine mm_imul d5_fillGains_99 ?_
    refine mm_iload_n d5_fillGains_100 rfl ?_
    refine mm_iadd d5_fillGains_101 ?_
    refine mm_aload_n d5_fillGains_102 rfl ?_
    refine mm_iload_n d5_fillGains_103 rfl ?_
    refine mm_aload_n d5_fillGains_104 rfl ?_
    refine mm_getR fl_X5_14 d5_fillGains_105 (mm_wtR hS 106 h0 rfl rfl) ?_
    refine mm_iload_n d5_fillGains_108 rfl ?_
    obtain ⟨o2, hk2, h⟩ := mm_bd h
    refine mm_cVi 6 (As := [.int v1]) (ok6_at l hS (mm_wtT hS 1 6 h0 rfl) hk2) lk_X5_75 rfl d5_fillGains_109 (mm_room rfl rfl) rfl (mm_wtT hS 1 6 h0 rfl) rfl rfl ?_
    refine mm_aload_n d5_fillGains_112 rfl ?_
    refine mm_getR fl_X5_14 d5_fillGains_113 (mm_wtR hS 106 h0 rfl rfl) ?_
    refine mm_iload_n d5_fillGains_116 rfl ?_
    obtain ⟨o3, hk3, h⟩ := mm_bd h
    refine mm_cVi 6 (As := [.int v2]) (ok6_at l hS (mm_wtT hS 1 6 h0 rfl) hk3) lk_X5_75 rfl d5_fillGains_117 (mm_room rfl rfl) rfl (mm_wtT hS 1 6 h0 rfl) rfl rfl ?_
    obtain ⟨o4, hk4, h⟩ := mm_bd h
    refine mm_cVi 5 (As := [.int v1, .int o2, .int o3]) (ok5_gainOf l hS h0 hk4) lk_X5_82 rfl d5_fillGains_120 (mm_room rfl rfl) rfl h0 rfl rfl ?_
    obtain ⟨o5, hk5, h⟩ := mm_bd h
    refine mm_cVv 6 (As := [.int ((v1 * 8) + v2), .int o4]) (ok6_put l hS (mm_wtT hS 2 6 h0 rfl) hk5) lk_X5_54 rfl d5_fillGains_123 (mm_room rfl rfl) rfl (mm_wtT hS 2 6 h0 rfl) rfl rfl ?_
    refine mm_iinc (v := v2 + 1) d5_fillGains_126 rfl rfl rfl rfl ?_
    refine mm_goto (tgt := 86) d5_fillGains_129 (by decide) ?_
    refine mm_sub [(0, .ref v0), (1, .int v1), (2, .int (v2 + 1))] ⟨rfl, rfl, rfl, trivial⟩ ?_
    exact hrec86 h0 h
set_option maxHeartbeats 4000000 in
set_option maxRecDepth 100000 in
theorem ok5_fillGains_86 (l : Launch) {S : mm_Sh} (hS : mm_WT S) {n : Nat}  {rec78 : Nat → Int32 → mm_I → mm_J → Option (mm_I × mm_J)} (hrec78 : ∀ {v0 : Nat} {v1 : Int32} (_ : mm_is S v0 5) {I : mm_I} {J : mm_J} {o : mm_I × mm_J}, rec78 v0 v1 I J = some o → mm_W l M5_fillGains (mm_rm (mm_rk M5_fillGains)) 0 0 S (mm_end S (mm_Qv o.1 o.2)) 78 [(0, .ref v0), (1, .int v1)] [] I J) : ∀ (k : Nat) {v0 : Nat} {v1 : Int32} {v2 : Int32} (h0 : mm_is S v0 5) {I : mm_I} {J : mm_J} {o : mm_I × mm_J}, f5_fillGains_86 S n rec78 k v0 v1 v2 I J = some o → mm_W l M5_fillGains (mm_rm (mm_rk M5_fillGains)) 0 0 S (mm_end S (mm_Qv o.1 o.2)) 86 [(0, .ref v0), (1, .int v1), (2, .int v2)] [] I J := by
  intro k
  induction k with
  | zero =>
    intros
    rename_i h
    cases h
  | succ k ih =>
    intro v0 v1 v2 h0 I J o h
    exact ok5_fillGains_86_b l hS hrec78 (fun {v0 v1 v2} h0 {I J o} h => ih h0 h) h0 h
set_option maxHeartbeats 4000000 in
set_option maxRecDepth 100000 in
theorem ok5_fillGains_78_b (l : Launch) {S : mm_Sh} (hS : mm_WT S) {n : Nat}  {rec78 : Nat → Int32 → mm_I → mm_J → Option (mm_I × mm_J)} (hrec78 : ∀ {v0 : Nat} {v1 : Int32} (_ : mm_is S v0 5) {I : mm_I} {J : mm_J} {o : mm_I × mm_J}, rec78 v0 v1 I J = some o → mm_W l M5_fillGains (mm_rm (mm_rk M5_fillGains)) 0 0 S (mm_end S (mm_Qv o.1 o.2)) 78 [(0, .ref v0), (1, .int v1)] [] I J) {v0 : Nat} {v1 : Int32} (h0 : mm_is S v0 5) {I : mm_I} {J : mm_J} {o : mm_I × mm_J} (h : f5_fillGains_78_b S n rec78 v0 v1 I J = some o) : mm_W l M5_fillGains (mm_rm (mm_rk M5_fillGains)) 0 0 S (mm_end S (mm_Qv o.1 o.2)) 78 [(0, .ref v0), (1, .int v1)] [] I J := by
  unfold f5_fillGains_78_b at h
  refine mm_iload_n d5_fillGains_78 rfl ?_
  refine mm_bipush (v := 8) d5_fillGains_79 (by decide +kernel) ?_
  refine mm_icmp_ge (tgt := 138) d5_fillGains_81 (by decide) (fun hc1 => ?_) (fun hc1 => ?_)
  · rw [if_pos hc1] at h
    have h := Option.some.inj h
    subst h
    exact mm_vret rfl d5_fillGains_138 ⟨rfl, rfl, rfl⟩
  · rw [if_neg hc1] at h
    refine mm_iconst (v := 0) d5_fillGains_84 (by decide +kernel) ?_
    refine mm_istore_n d5_fillGains_85 rfl rfl ?_
    refine mm_sub [(0, .ref v0), (1, .int v1), (2, .int 0)] ⟨rfl, rfl, rfl, trivial⟩ ?_
    exact ok5_fillGains_86 l hS hrec78 n h0 h
set_option maxHeartbeats 4000000 in
set_option maxRecDepth 100000 in
theorem ok5_fillGains_78 (l : Launch) {S : mm_Sh} (hS : mm_WT S) {n : Nat}  : ∀ (k : Nat) {v0 : Nat} {v1 : Int32} (h0 : mm_is S v0 5) {I : mm_I} {J : mm_J} {o : mm_I × mm_J}, f5_fillGains_78 S n k v0 v1 I J = some o → mm_W l M5_fillGains (mm_rm (mm_rk M5_fillGains)) 0 0 S (mm_end S (mm_Qv o.1 o.2)) 78 [(0, .ref v0), (1, .int v1)] [] I J := by
  intro k
  induction k with
  | zero =>
    intros
    rename_i h
    cases h
  | succ k ih =>
    intro v0 v1 h0 I J o h
    exact ok5_fillGains_78_b l hS (fun {v0 v1} h0 {I J o} h => ih h0 h) h0 h
set_option maxHeartbeats 4000000 in
set_option maxRecDepth 100000 in
theorem ok5_fillGains_2_b (l : Launch) {S : mm_Sh} (hS : mm_WT S) {n : Nat}  {rec2 : Nat → Int32 → mm_I → mm_J → Option (mm_I × mm_J)} (hrec2 : ∀ {v0 : Nat} {v1 : Int32} (_ : mm_is S v0 5) {I : mm_I} {J : mm_J} {o : mm_I × mm_J}, rec2 v0 v1 I J = some o → mm_W l M5_fillGains (mm_rm (mm_rk M5_fillGains)) 0 0 S (mm_end S (mm_Qv o.1 o.2)) 2 [(0, .ref v0), (1, .int v1)] [] I J) {v0 : Nat} {v1 : Int32} (h0 : mm_is S v0 5) {I : mm_I} {J : mm_J} {o : mm_I × mm_J} (h : f5_fillGains_2_b S n rec2 v0 v1 I J = some o) : mm_W l M5_fillGains (mm_rm (mm_rk M5_fillGains)) 0 0 S (mm_end S (mm_Qv o.1 o.2)) 2 [(0, .ref v0), (1, .int v1)] [] I J := by
  unfold f5_fillGains_2_b at h
  refine mm_iload_n d5_fillGains_2 rfl ?_
  refine mm_bipush (v := 8) d5_fillGains_3 (by decide +kernel) ?_
  refine mm_icmp_ge (tgt := 76) d5_fillGains_5 (by decide) (fun hc1 => ?_) (fun hc1 => ?_)
  · rw [if_pos hc1] at h
    refine mm_iconst (v := 0) d5_fillGains_76 (by decide +kernel) ?_
    refine mm_istore_n d5_fillGains_77 rfl rfl ?_
    refine mm_sub [(0, .ref v0), (1, .int 0)] ⟨rfl, rfl, trivial⟩ ?_
    exact ok5_fillGains_78 l hS  n h0 h
  · rw [if_neg hc1] at h
    refine mm_aload_n d5_fillGains_8 rfl ?_
    refine mm_getR fl_X5_36 d5_fillGains_9 (mm_wtR hS 102 h0 rfl rfl) ?_
    refine mm_getR fl_X5_62 d5_fillGains_12 (mm_wtR hS 101 (mm_wtT hS 0 2 h0 rfl) rfl rfl) ?_
    refine mm_iload_n d5_fillGains_15 rfl ?_
    obtain ⟨o2, hk2, h⟩ := mm_bd h
    refine mm_cVi 1 (As := [.int v1]) (ok1_lives l hS (mm_wtT hS 2 1 (mm_wtT hS 0 2 h0 rfl) rfl) hk2) lk_X5_66 rfl d5_fillGains_16 (mm_room rfl rfl) rfl (mm_wtT hS 2 1 (mm_wtT hS 0 2 h0 rfl) rfl) rfl rfl ?_
    refine mm_if_eq (tgt := 44) d5_fillGains_19 (by decide) (fun hc3 => ?_) (fun hc3 => ?_)
    · rw [if_pos hc3] at h
      refine mm_sub [(0, .ref v0), (1, .int v1)] ⟨rfl, rfl, trivial⟩ ?_
      exact ok5_fillGains_44 l hS hrec2 h0 h
    · rw [if_neg hc3] at h
      refine mm_aload_n d5_fillGains_22 rfl ?_
      refine mm_getR fl_X5_36 d5_fillGains_23 (mm_wtR hS 102 h0 rfl rfl) ?_
      refine mm_getR fl_X5_62 d5_fillGains_26 (mm_wtR hS 101 (mm_wtT hS 0 2 h0 rfl) rfl rfl) ?_
      refine mm_getR fl_X5_72 d5_fillGains_29 (mm_wtR hS 106 (mm_wtT hS 2 1 (mm_wtT hS 0 2 h0 rfl) rfl) rfl rfl) ?_
      refine mm_iload_n d5_fillGains_32 rfl ?_
      obtain ⟨o4, hk4, h⟩ := mm_bd h
      refine mm_cVi 6 (As := [.int v1]) (ok6_at l hS (mm_wtT hS 4 6 (mm_wtT hS 2 1 (mm_wtT hS 0 2 h0 rfl) rfl) rfl) hk4) lk_X5_75 rfl d5_fillGains_33 (mm_room rfl rfl) rfl (mm_wtT hS 4 6 (mm_wtT hS 2 1 (mm_wtT hS 0 2 h0 rfl) rfl) rfl) rfl rfl ?_
      refine mm_iconst (v := (-1)) d5_fillGains_36 (by decide +kernel) ?_
      refine mm_icmp_ne (tgt := 44) d5_fillGains_37 (by decide) (fun hc5 => ?_) (fun hc5 => ?_)
      · rw [if_neg hc5] at h
        refine mm_sub [(0, .ref v0), (1, .int v1)] ⟨rfl, rfl, trivial⟩ ?_
        exact ok5_fillGains_44 l hS hrec2 h0 h
      · rw [if_pos hc5] at h
        refine mm_iconst (v := 1) d5_fillGains_40 (by decide +kernel) ?_
        refine mm_goto (tgt := 45) d5_fillGains_41 (by decide) ?_
        refine mm_sub [(0, .ref v0), (1, .int v1)] ⟨rfl, rfl, trivial⟩ ?_
        exact ok5_fillGains_45 l hS hrec2 h0 h
set_option maxHeartbeats 4000000 in
set_option maxRecDepth 100000 in
theorem ok5_fillGains_2 (l : Launch) {S : mm_Sh} (hS : mm_WT S) {n : Nat}  : ∀ (k : Nat) {v0 : Nat} {v1 : Int32} (h0 : mm_is S v0 5) {I : mm_I} {J : mm_J} {o : mm_I × mm_J}, f5_fillGains_2 S n k v0 v1 I J = some o → mm_W l M5_fillGains (mm_rm (mm_rk M5_fillGains)) 0 0 S (mm_end S (mm_Qv o.1 o.2)) 2 [(0, .ref v0), (1, .int v1)] [] I J := by
  intro k
  induction k with
  | zero =>
    intros
    rename_i h
    cases h
  | succ k ih =>
    intro v0 v1 h0 I J o h
    exact ok5_fillGains_2_b l hS (fun {v0 v1} h0 {I J o} h => ih h0 h) h0 h
set_option maxHeartbeats 4000000 in
set_option maxRecDepth 100000 in
theorem ok5_fillGains (l : Launch) {S : mm_Sh} (hS : mm_WT S) {n : Nat}  {v0 : Nat} (h0 : mm_is S v0 5) {I : mm_I} {J : mm_J} {o : mm_I × mm_J} (h : f5_fillGains S n v0 I J = some o) : mm_C l M5_fillGains S [.ref v0] I J (mm_Qv o.1 o.2) := by
  unfold f5_fillGains at h
  refine mm_enter rfl (by decide +kernel) rfl ?_
  refine mm_iconst (v := 0) d5_fillGains_0 (by decide +kernel) ?_
  refine mm_istore_n d5_fillGains_1 rfl rfl ?_
  refine mm_sub [(0, .ref v0), (1, .int 0)] ⟨rfl, rfl, trivial⟩ ?_
  exact ok5_fillGains_2 l hS  n h0 h
set_option maxHeartbeats 4000000 in
set_option maxRecDepth 100000 in
theorem ok8_makersOf (l : Launch) {S : mm_Sh} (hS : mm_WT S) {n : Nat}  {v0 : Nat} {v1 : Int32} {v2 : Nat} (h0 : mm_is S v0 8) (h2 : mm_is S v2 1) {I : mm_I} {J : mm_J} {o : Int32} (h : f8_makersOf S n v0 v1 v2 I J = some o) : mm_C l M8_makersOf S [.ref v0, .int v1, .ref v2] I J (mm_Qi o I J) := by
  unfold f8_makersOf at h
  refine mm_enter rfl (by decide +kernel) rfl ?_
  refine mm_aload_n d8_makersOf_0 rfl ?_
  refine mm_aload_n d8_makersOf_1 rfl ?_
  refine mm_getR fl_X8_14 d8_makersOf_2 (mm_wtR hS 106 h0 rfl rfl) ?_
  refine mm_iload_n d8_makersOf_5 rfl ?_
  obtain ⟨o1, hk1, h⟩ := mm_bd h
  refine mm_cVi 6 (As := [.int v1]) (ok6_at l hS (mm_wtT hS 0 6 h0 rfl) hk1) lk_X8_55 rfl d8_makersOf_6 (mm_room rfl rfl) rfl (mm_wtT hS 0 6 h0 rfl) rfl rfl ?_
  refine mm_aload_n d8_makersOf_9 rfl ?_
  refine mm_getR fl_X8_20 d8_makersOf_10 (mm_wtR hS 106 h0 rfl rfl) ?_
  refine mm_iload_n d8_makersOf_13 rfl ?_
  obtain ⟨o2, hk2, h⟩ := mm_bd h
  refine mm_cVi 6 (As := [.int v1]) (ok6_at l hS (mm_wtT hS 1 6 h0 rfl) hk2) lk_X8_55 rfl d8_makersOf_14 (mm_room rfl rfl) rfl (mm_wtT hS 1 6 h0 rfl) rfl rfl ?_
  obtain ⟨o3, hk3, h⟩ := mm_bd h
  refine mm_cVi 1 (As := [.int o1, .int o2]) (ok1_withSkill l hS h2 hk3) lk_X8_59 rfl d8_makersOf_17 (mm_room rfl rfl) rfl h2 rfl rfl ?_
  have h := Option.some.inj h
  subst h
  exact mm_iret rfl d8_makersOf_20 ⟨rfl, rfl, rfl⟩
set_option maxHeartbeats 4000000 in
set_option maxRecDepth 100000 in
theorem ok9_tellLike_106 (l : Launch) {S : mm_Sh} (hS : mm_WT S) {n : Nat}  {v0 : Nat} {v1 : Int32} {v3 : Int32} {v4 : Int64} (h0 : mm_is S v0 9) {I : mm_I} {J : mm_J} {o : mm_I × mm_J} (h : f9_tellLike_106 S n v0 v1 v3 v4 I J = some o) : mm_W l M9_tellLike (mm_rm (mm_rk M9_tellLike)) 0 0 S (mm_end S (mm_Qv o.1 o.2)) 106 [(0, .ref v0), (1, .int v1), (3, .int v3), (4, .long v4)] [] I J := by
  unfold f9_tellLike_106 at h
  refine mm_aload_n d9_tellLike_106 rfl ?_
  refine mm_dup d9_tellLike_107 rfl ?_
  refine mm_getJ fl_X9_15 d9_tellLike_108 (mm_wtJ hS h0 rfl) ?_
  refine mm_lload d9_tellLike_111 rfl ?_
  refine mm_lor d9_tellLike_113 ?_
  refine mm_putJ fp_X9_15 d9_tellLike_114 (mm_wtJ hS h0 rfl) ?_
  refine mm_aload_n d9_tellLike_117 rfl ?_
  refine mm_getR fl_X9_23 d9_tellLike_118 (mm_wtR hS 100 h0 rfl rfl) ?_
  refine mm_getR fl_X9_158 d9_tellLike_121 (mm_wtR hS 106 (mm_wtT hS 1 0 h0 rfl) rfl rfl) ?_
  refine mm_iload_n d9_tellLike_124 rfl ?_
  refine mm_iload_n d9_tellLike_125 rfl ?_
  obtain ⟨o1, hk1, h⟩ := mm_bd h
  refine mm_cSi (As := [.int v1, .int v3]) (ok10_cell l hS hk1) lk_X9_150 rfl d9_tellLike_126 (mm_room rfl rfl) rfl rfl ?_
  refine mm_aload_n d9_tellLike_129 rfl ?_
  refine mm_getR fl_X9_19 d9_tellLike_130 (mm_wtR hS 104 h0 rfl rfl) ?_
  refine mm_iconst (v := 0) d9_tellLike_133 (by decide +kernel) ?_
  refine mm_bipush (v := 99) d9_tellLike_134 (by decide +kernel) ?_
  obtain ⟨o2, hk2, h⟩ := mm_bd h
  refine mm_cVi 4 (As := [.int 0, .int 99]) (ok4_number l hS (mm_wtT hS 0 4 h0 rfl) hk2) lk_X9_106 rfl d9_tellLike_136 (mm_room rfl rfl) rfl (mm_wtT hS 0 4 h0 rfl) rfl rfl ?_
  obtain ⟨o3, hk3, h⟩ := mm_bd h
  refine mm_cVv 6 (As := [.int o1, .int o2.1]) (ok6_put l hS (mm_wtT hS 4 6 (mm_wtT hS 1 0 h0 rfl) rfl) hk3) lk_X9_95 rfl d9_tellLike_139 (mm_room rfl rfl) rfl (mm_wtT hS 4 6 (mm_wtT hS 1 0 h0 rfl) rfl) rfl rfl ?_
  refine mm_aload_n d9_tellLike_142 rfl ?_
  refine mm_dup d9_tellLike_143 rfl ?_
  refine mm_getI fl_X9_9 d9_tellLike_144 (mm_wtI hS h0 rfl) ?_
  refine mm_iconst (v := 1) d9_tellLike_147 (by decide +kernel) ?_
  refine mm_iadd d9_tellLike_148 ?_
  refine mm_putI fp_X9_9 d9_tellLike_149 (mm_wtI hS h0 rfl) ?_
  have h := Option.some.inj h
  subst h
  exact mm_vret rfl d9_tellLike_152 ⟨rfl, rfl, rfl⟩
set_option maxHeartbeats 4000000 in
set_option maxRecDepth 100000 in
theorem ok9_tellLike_15 (l : Launch) {S : mm_Sh} (hS : mm_WT S) {n : Nat}  {v0 : Nat} {s0 : Nat} {s1 : Int32} (h0 : mm_is S v0 9) (g0 : mm_is S s0 9) {I : mm_I} {J : mm_J} {o : mm_I × mm_J} (h : f9_tellLike_15 S n v0 s0 s1 I J = some o) : mm_W l M9_tellLike (mm_rm (mm_rk M9_tellLike)) 0 0 S (mm_end S (mm_Qv o.1 o.2)) 15 [(0, .ref v0)] [.int s1, .ref s0] I J := by
  unfold f9_tellLike_15 at h
  obtain ⟨o1, hk1, h⟩ := mm_bd h
  refine mm_cVv 9 (As := [.int s1]) (ok9_openClause l hS g0 hk1) lk_X9_83 rfl d9_tellLike_15 (mm_room rfl rfl) rfl g0 rfl rfl ?_
  refine mm_aload_n d9_tellLike_18 rfl ?_
  refine mm_getR fl_X9_19 d9_tellLike_19 (mm_wtR hS 104 h0 rfl rfl) ?_
  refine mm_iconst (v := 0) d9_tellLike_22 (by decide +kernel) ?_
  refine mm_aload_n d9_tellLike_23 rfl ?_
  refine mm_getR fl_X9_23 d9_tellLike_24 (mm_wtR hS 100 h0 rfl rfl) ?_
  refine mm_getI fl_X9_54 d9_tellLike_27 (mm_wtI hS (mm_wtT hS 1 0 h0 rfl) rfl) ?_
  refine mm_iconst (v := 1) d9_tellLike_30 (by decide +kernel) ?_
  refine mm_isub d9_tellLike_31 ?_
  obtain ⟨o2, hk2, h⟩ := mm_bd h
  refine mm_cVi 4 (As := [.int 0, .int ((o1.1 (mm_rf S v0 1) 6) - 1)]) (ok4_number l hS (mm_wtT hS 0 4 h0 rfl) hk2) lk_X9_106 rfl d9_tellLike_32 (mm_room rfl rfl) rfl (mm_wtT hS 0 4 h0 rfl) rfl rfl ?_
  refine mm_istore_n d9_tellLike_35 rfl rfl ?_
  refine mm_aload_n d9_tellLike_36 rfl ?_
  refine mm_getR fl_X9_19 d9_tellLike_37 (mm_wtR hS 104 h0 rfl rfl) ?_
  refine mm_getI fl_X9_70 d9_tellLike_40 (mm_wtI hS (mm_wtT hS 0 4 h0 rfl) rfl) ?_
  refine mm_istore_n d9_tellLike_43 rfl rfl ?_
  refine mm_aload_n d9_tellLike_44 rfl ?_
  refine mm_getR fl_X9_19 d9_tellLike_45 (mm_wtR hS 104 h0 rfl rfl) ?_
  refine mm_iconst (v := 0) d9_tellLike_48 (by decide +kernel) ?_
  refine mm_aload_n d9_tellLike_49 rfl ?_
  refine mm_getR fl_X9_23 d9_tellLike_50 (mm_wtR hS 100 h0 rfl rfl) ?_
  refine mm_getI fl_X9_80 d9_tellLike_53 (mm_wtI hS (mm_wtT hS 1 0 h0 rfl) rfl) ?_
  refine mm_iconst (v := 1) d9_tellLike_56 (by decide +kernel) ?_
  refine mm_isub d9_tellLike_57 ?_
  obtain ⟨o3, hk3, h⟩ := mm_bd h
  refine mm_cVi 4 (As := [.int 0, .int ((o2.2.1 (mm_rf S v0 1) 5) - 1)]) (ok4_number l hS (mm_wtT hS 0 4 h0 rfl) hk3) lk_X9_106 rfl d9_tellLike_58 (mm_room rfl rfl) rfl (mm_wtT hS 0 4 h0 rfl) rfl rfl ?_
  refine mm_istore_n d9_tellLike_61 rfl rfl ?_
  refine mm_lconst (v := 1) d9_tellLike_62 (by decide +kernel) ?_
  refine mm_iconst (v := 0) d9_tellLike_63 (by decide +kernel) ?_
  refine mm_iload_n d9_tellLike_64 rfl ?_
  refine mm_iload_n d9_tellLike_65 rfl ?_
  obtain ⟨o4, hk4, h⟩ := mm_bd h
  refine mm_cSi (As := [.int o2.1, .int o3.1]) (ok10_cell l hS hk4) lk_X9_150 rfl d9_tellLike_66 (mm_room rfl rfl) rfl rfl ?_
  refine mm_mmax lm_X9_153 d9_tellLike_69 (mm_roomM rfl rfl) ?_
  refine mm_lshl d9_tellLike_72 ?_
  refine mm_lstore d9_tellLike_73 rfl rfl ?_
  refine mm_aload_n d9_tellLike_75 rfl ?_
  refine mm_getR fl_X9_19 d9_tellLike_76 (mm_wtR hS 104 h0 rfl rfl) ?_
  obtain ⟨o5, hk5, h⟩ := mm_bd h
  refine mm_cVi 4 (As := []) (ok4_isSound l hS (mm_wtT hS 0 4 h0 rfl) hk5) lk_X9_39 rfl d9_tellLike_79 (mm_room rfl rfl) rfl (mm_wtT hS 0 4 h0 rfl) rfl rfl ?_
  refine mm_if_eq (tgt := 106) d9_tellLike_82 (by decide) (fun hc6 => ?_) (fun hc6 => ?_)
  · rw [if_pos hc6] at h
    refine mm_sub [(0, .ref v0), (1, .int o2.1), (3, .int o3.1), (4, .long ((1 : Int64) <<< ((if 0 < o4 then o4 else 0).toInt64 &&& 63)))] ⟨rfl, rfl, rfl, rfl, trivial⟩ ?_
    exact ok9_tellLike_106 l hS  h0 h
  · rw [if_neg hc6] at h
    refine mm_aload_n d9_tellLike_85 rfl ?_
    refine mm_getJ fl_X9_15 d9_tellLike_86 (mm_wtJ hS h0 rfl) ?_
    refine mm_lload d9_tellLike_89 rfl ?_
    refine mm_land d9_tellLike_91 ?_
    refine mm_lconst (v := 0) d9_tellLike_92 (by decide +kernel) ?_
    refine mm_lcmp d9_tellLike_93 ?_
    refine mm_if_eq (tgt := 106) d9_tellLike_94 (by decide) (fun hc7 => ?_) (fun hc7 => ?_)
    · rw [if_pos hc7] at h
      refine mm_sub [(0, .ref v0), (1, .int o2.1), (3, .int o3.1), (4, .long ((1 : Int64) <<< ((if 0 < o4 then o4 else 0).toInt64 &&& 63)))] ⟨rfl, rfl, rfl, rfl, trivial⟩ ?_
      exact ok9_tellLike_106 l hS  h0 h
    · rw [if_neg hc7] at h
      refine mm_aload_n d9_tellLike_97 rfl ?_
      refine mm_getR fl_X9_19 d9_tellLike_98 (mm_wtR hS 104 h0 rfl rfl) ?_
      refine mm_iconst (v := 4) d9_tellLike_101 (by decide +kernel) ?_
      refine mm_iload_n d9_tellLike_102 rfl ?_
      obtain ⟨o8, hk8, h⟩ := mm_bd h
      refine mm_cVv 4 (As := [.int 4, .int (o2.2.1 (mm_rf S v0 0) 3)]) (ok4_blame l hS (mm_wtT hS 0 4 h0 rfl) hk8) lk_X9_73 rfl d9_tellLike_103 (mm_room rfl rfl) rfl (mm_wtT hS 0 4 h0 rfl) rfl rfl ?_
      refine mm_sub [(0, .ref v0), (1, .int o2.1), (3, .int o3.1), (4, .long ((1 : Int64) <<< ((if 0 < o4 then o4 else 0).toInt64 &&& 63)))] ⟨rfl, rfl, rfl, rfl, trivial⟩ ?_
      exact ok9_tellLike_106 l hS  h0 h
set_option maxHeartbeats 4000000 in
set_option maxRecDepth 100000 in
theorem ok9_tellLike (l : Launch) {S : mm_Sh} (hS : mm_WT S) {n : Nat}  {v0 : Nat} (h0 : mm_is S v0 9) {I : mm_I} {J : mm_J} {o : mm_I × mm_J} (h : f9_tellLike S n v0 I J = some o) : mm_C l M9_tellLike S [.ref v0] I J (mm_Qv o.1 o.2) := by
  unfold f9_tellLike at h
  refine mm_enter rfl (by decide +kernel) rfl ?_
  refine mm_aload_n d9_tellLike_0 rfl ?_
  refine mm_aload_n d9_tellLike_1 rfl ?_
  refine mm_getI fl_X9_9 d9_tellLike_2 (mm_wtI hS h0 rfl) ?_
  refine mm_bipush (v := 40) d9_tellLike_5 (by decide +kernel) ?_
  refine mm_icmp_ge (tgt := 14) d9_tellLike_7 (by decide) (fun hc1 => ?_) (fun hc1 => ?_)
  · rw [if_pos hc1] at h
    refine mm_iconst (v := 0) d9_tellLike_14 (by decide +kernel) ?_
    refine mm_sub [(0, .ref v0)] ⟨rfl, trivial⟩ ?_
    exact ok9_tellLike_15 l hS  h0 h0 h
  · rw [if_neg hc1] at h
    refine mm_iconst (v := 1) d9_tellLike_10 (by decide +kernel) ?_
    refine mm_goto (tgt := 15) d9_tellLike_11 (by decide) ?_
    refine mm_sub [(0, .ref v0)] ⟨rfl, trivial⟩ ?_
    exact ok9_tellLike_15 l hS  h0 h0 h
set_option maxHeartbeats 4000000 in
set_option maxRecDepth 100000 in
theorem ok9_tellSkill_47 (l : Launch) {S : mm_Sh} (hS : mm_WT S) {n : Nat}  {v0 : Nat} {v1 : Int32} {v3 : Int32} (h0 : mm_is S v0 9) {I : mm_I} {J : mm_J} {o : mm_I × mm_J} (h : f9_tellSkill_47 S n v0 v1 v3 I J = some o) : mm_W l M9_tellSkill (mm_rm (mm_rk M9_tellSkill)) 0 0 S (mm_end S (mm_Qv o.1 o.2)) 47 [(0, .ref v0), (1, .int v1), (3, .int v3)] [] I J := by
  unfold f9_tellSkill_47 at h
  refine mm_aload_n d9_tellSkill_47 rfl ?_
  refine mm_getR fl_X9_27 d9_tellSkill_48 (mm_wtR hS 101 h0 rfl rfl) ?_
  refine mm_iload_n d9_tellSkill_51 rfl ?_
  refine mm_iload_n d9_tellSkill_52 rfl ?_
  refine mm_aload_n d9_tellSkill_53 rfl ?_
  refine mm_getR fl_X9_19 d9_tellSkill_54 (mm_wtR hS 104 h0 rfl rfl) ?_
  refine mm_iconst (v := 1) d9_tellSkill_57 (by decide +kernel) ?_
  refine mm_bipush (v := 100) d9_tellSkill_58 (by decide +kernel) ?_
  obtain ⟨o1, hk1, h⟩ := mm_bd h
  refine mm_cVi 4 (As := [.int 1, .int 100]) (ok4_number l hS (mm_wtT hS 0 4 h0 rfl) hk1) lk_X9_106 rfl d9_tellSkill_60 (mm_room rfl rfl) rfl (mm_wtT hS 0 4 h0 rfl) rfl rfl ?_
  obtain ⟨o2, hk2, h⟩ := mm_bd h
  refine mm_cVv 1 (As := [.int v1, .int v3, .int o1.1]) (ok1_setSkill l hS (mm_wtT hS 2 1 h0 rfl) hk2) lk_X9_146 rfl d9_tellSkill_63 (mm_room rfl rfl) rfl (mm_wtT hS 2 1 h0 rfl) rfl rfl ?_
  have h := Option.some.inj h
  subst h
  exact mm_vret rfl d9_tellSkill_66 ⟨rfl, rfl, rfl⟩
set_option maxHeartbeats 4000000 in
set_option maxRecDepth 100000 in
theorem ok9_tellSkill (l : Launch) {S : mm_Sh} (hS : mm_WT S) {n : Nat}  {v0 : Nat} {v1 : Int32} (h0 : mm_is S v0 9) {I : mm_I} {J : mm_J} {o : mm_I × mm_J} (h : f9_tellSkill S n v0 v1 I J = some o) : mm_C l M9_tellSkill S [.ref v0, .int v1] I J (mm_Qv o.1 o.2) := by
  unfold f9_tellSkill at h
  refine mm_enter rfl (by decide +kernel) rfl ?_
  refine mm_aload_n d9_tellSkill_0 rfl ?_
  refine mm_getR fl_X9_19 d9_tellSkill_1 (mm_wtR hS 104 h0 rfl rfl) ?_
  refine mm_getI fl_X9_70 d9_tellSkill_4 (mm_wtI hS (mm_wtT hS 0 4 h0 rfl) rfl) ?_
  refine mm_istore_n d9_tellSkill_7 rfl rfl ?_
  refine mm_aload_n d9_tellSkill_8 rfl ?_
  refine mm_getR fl_X9_19 d9_tellSkill_9 (mm_wtR hS 104 h0 rfl rfl) ?_
  refine mm_iconst (v := 0) d9_tellSkill_12 (by decide +kernel) ?_
  refine mm_aload_n d9_tellSkill_13 rfl ?_
  refine mm_getR fl_X9_23 d9_tellSkill_14 (mm_wtR hS 100 h0 rfl rfl) ?_
  refine mm_getI fl_X9_80 d9_tellSkill_17 (mm_wtI hS (mm_wtT hS 1 0 h0 rfl) rfl) ?_
  refine mm_iconst (v := 1) d9_tellSkill_20 (by decide +kernel) ?_
  refine mm_isub d9_tellSkill_21 ?_
  obtain ⟨o1, hk1, h⟩ := mm_bd h
  refine mm_cVi 4 (As := [.int 0, .int ((I (mm_rf S v0 1) 5) - 1)]) (ok4_number l hS (mm_wtT hS 0 4 h0 rfl) hk1) lk_X9_106 rfl d9_tellSkill_22 (mm_room rfl rfl) rfl (mm_wtT hS 0 4 h0 rfl) rfl rfl ?_
  refine mm_istore_n d9_tellSkill_25 rfl rfl ?_
  refine mm_aload_n d9_tellSkill_26 rfl ?_
  refine mm_getR fl_X9_27 d9_tellSkill_27 (mm_wtR hS 101 h0 rfl rfl) ?_
  refine mm_iload_n d9_tellSkill_30 rfl ?_
  refine mm_iload_n d9_tellSkill_31 rfl ?_
  obtain ⟨o2, hk2, h⟩ := mm_bd h
  refine mm_cVi 1 (As := [.int v1, .int o1.1]) (ok1_knows l hS (mm_wtT hS 2 1 h0 rfl) hk2) lk_X9_142 rfl d9_tellSkill_32 (mm_room rfl rfl) rfl (mm_wtT hS 2 1 h0 rfl) rfl rfl ?_
  refine mm_if_eq (tgt := 47) d9_tellSkill_35 (by decide) (fun hc3 => ?_) (fun hc3 => ?_)
  · rw [if_pos hc3] at h
    refine mm_sub [(0, .ref v0), (1, .int v1), (3, .int o1.1)] ⟨rfl, rfl, rfl, trivial⟩ ?_
    exact ok9_tellSkill_47 l hS  h0 h
  · rw [if_neg hc3] at h
    refine mm_aload_n d9_tellSkill_38 rfl ?_
    refine mm_getR fl_X9_19 d9_tellSkill_39 (mm_wtR hS 104 h0 rfl rfl) ?_
    refine mm_iconst (v := 4) d9_tellSkill_42 (by decide +kernel) ?_
    refine mm_iload_n d9_tellSkill_43 rfl ?_
    obtain ⟨o4, hk4, h⟩ := mm_bd h
    refine mm_cVv 4 (As := [.int 4, .int (I (mm_rf S v0 0) 3)]) (ok4_blame l hS (mm_wtT hS 0 4 h0 rfl) hk4) lk_X9_73 rfl d9_tellSkill_44 (mm_room rfl rfl) rfl (mm_wtT hS 0 4 h0 rfl) rfl rfl ?_
    refine mm_sub [(0, .ref v0), (1, .int v1), (3, .int o1.1)] ⟨rfl, rfl, rfl, trivial⟩ ?_
    exact ok9_tellSkill_47 l hS  h0 h
set_option maxHeartbeats 4000000 in
set_option maxRecDepth 100000 in
theorem ok10_change_90 (l : Launch) {S : mm_Sh} (hS : mm_WT S) {n : Nat}  {s0 : Int32}  {I : mm_I} {J : mm_J} {o : Int32 × mm_I × mm_J} (h : f10_change_90 S n s0 I J = some o) : mm_W l M10_change (mm_rm (mm_rk M10_change)) 0 0 S (mm_end S (mm_Qi o.1 o.2.1 o.2.2)) 90 [] [.int s0] I J := by
  unfold f10_change_90 at h
  have h := Option.some.inj h
  subst h
  exact mm_iret rfl d10_change_90 ⟨rfl, rfl, rfl⟩
set_option maxHeartbeats 4000000 in
set_option maxRecDepth 100000 in
theorem ok10_change_88 (l : Launch) {S : mm_Sh} (hS : mm_WT S) {n : Nat}    {I : mm_I} {J : mm_J} {o : Int32 × mm_I × mm_J} (h : f10_change_88 S n  I J = some o) : mm_W l M10_change (mm_rm (mm_rk M10_change)) 0 0 S (mm_end S (mm_Qi o.1 o.2.1 o.2.2)) 88 [] [] I J := by
  unfold f10_change_88 at h
  refine mm_ldc (v := (-1000000001)) d10_change_88 kX10_220 ?_
  refine mm_sub [] trivial ?_
  exact ok10_change_90 l hS   h
set_option maxHeartbeats 4000000 in
set_option maxRecDepth 100000 in
theorem ok10_change_61 (l : Launch) {S : mm_Sh} (hS : mm_WT S) {n : Nat}  {v0 : Nat} {v1 : Int32} {v2 : Int32} {v3 : Int32} {v4 : Int32} {v5 : Int32} {s0 : Int32} (h0 : mm_is S v0 10) {I : mm_I} {J : mm_J} {o : Int32 × mm_I × mm_J} (h : f10_change_61 S n v0 v1 v2 v3 v4 v5 s0 I J = some o) : mm_W l M10_change (mm_rm (mm_rk M10_change)) 0 0 S (mm_end S (mm_Qi o.1 o.2.1 o.2.2)) 61 [(0, .ref v0), (1, .int v1), (2, .int v2), (3, .int v3), (4, .int v4), (5, .int v5)] [.int s0] I J := by
  unfold f10_change_61 at h
  refine mm_istore d10_change_61 rfl rfl ?_
  refine mm_iload d10_change_63 rfl ?_
  refine mm_if_eq (tgt := 88) d10_change_65 (by decide) (fun hc1 => ?_) (fun hc1 => ?_)
  · rw [if_pos hc1] at h
    refine mm_sub [] trivial ?_
    exact ok10_change_88 l hS   h
  · rw [if_neg hc1] at h
    refine mm_iload d10_change_68 rfl ?_
    refine mm_if_eq (tgt := 88) d10_change_70 (by decide) (fun hc2 => ?_) (fun hc2 => ?_)
    · rw [if_pos hc2] at h
      refine mm_sub [] trivial ?_
      exact ok10_change_88 l hS   h
    · rw [if_neg hc2] at h
      refine mm_aload_n d10_change_73 rfl ?_
      refine mm_getR fl_X10_91 d10_change_74 (mm_wtR hS 102 h0 rfl rfl) ?_
      refine mm_iload_n d10_change_77 rfl ?_
      refine mm_iload_n d10_change_78 rfl ?_
      refine mm_iload_n d10_change_79 rfl ?_
      refine mm_iload d10_change_80 rfl ?_
      obtain ⟨o3, hk3, h⟩ := mm_bd h
      refine mm_cVi 2 (As := [.int v1, .int v2, .int v3, .int v4]) (ok2_beginChange l hS (mm_wtT hS 15 2 h0 rfl) hk3) lk_X10_279 rfl d10_change_82 (mm_room rfl rfl) rfl (mm_wtT hS 15 2 h0 rfl) rfl rfl ?_
      refine mm_goto (tgt := 90) d10_change_85 (by decide) ?_
      refine mm_sub [] trivial ?_
      exact ok10_change_90 l hS   h
set_option maxHeartbeats 4000000 in
set_option maxRecDepth 100000 in
theorem ok10_change_56 (l : Launch) {S : mm_Sh} (hS : mm_WT S) {n : Nat}  {v0 : Nat} {v1 : Int32} {v2 : Int32} {v3 : Int32} {v4 : Int32} {v5 : Int32} (h0 : mm_is S v0 10) {I : mm_I} {J : mm_J} {o : Int32 × mm_I × mm_J} (h : f10_change_56 S n v0 v1 v2 v3 v4 v5 I J = some o) : mm_W l M10_change (mm_rm (mm_rk M10_change)) 0 0 S (mm_end S (mm_Qi o.1 o.2.1 o.2.2)) 56 [(0, .ref v0), (1, .int v1), (2, .int v2), (3, .int v3), (4, .int v4), (5, .int v5)] [] I J := by
  unfold f10_change_56 at h
  refine mm_iconst (v := 1) d10_change_56 (by decide +kernel) ?_
  refine mm_goto (tgt := 61) d10_change_57 (by decide) ?_
  refine mm_sub [(0, .ref v0), (1, .int v1), (2, .int v2), (3, .int v3), (4, .int v4), (5, .int v5)] ⟨rfl, rfl, rfl, rfl, rfl, rfl, trivial⟩ ?_
  exact ok10_change_61 l hS  h0 h
set_option maxHeartbeats 4000000 in
set_option maxRecDepth 100000 in
theorem ok10_change_60 (l : Launch) {S : mm_Sh} (hS : mm_WT S) {n : Nat}  {v0 : Nat} {v1 : Int32} {v2 : Int32} {v3 : Int32} {v4 : Int32} {v5 : Int32} (h0 : mm_is S v0 10) {I : mm_I} {J : mm_J} {o : Int32 × mm_I × mm_J} (h : f10_change_60 S n v0 v1 v2 v3 v4 v5 I J = some o) : mm_W l M10_change (mm_rm (mm_rk M10_change)) 0 0 S (mm_end S (mm_Qi o.1 o.2.1 o.2.2)) 60 [(0, .ref v0), (1, .int v1), (2, .int v2), (3, .int v3), (4, .int v4), (5, .int v5)] [] I J := by
  unfold f10_change_60 at h
  refine mm_iconst (v := 0) d10_change_60 (by decide +kernel) ?_
  refine mm_sub [(0, .ref v0), (1, .int v1), (2, .int v2), (3, .int v3), (4, .int v4), (5, .int v5)] ⟨rfl, rfl, rfl, rfl, rfl, rfl, trivial⟩ ?_
  exact ok10_change_61 l hS  h0 h
set_option maxHeartbeats 4000000 in
set_option maxRecDepth 100000 in
theorem ok10_change_30 (l : Launch) {S : mm_Sh} (hS : mm_WT S) {n : Nat}  {v0 : Nat} {v1 : Int32} {v2 : Int32} {v3 : Int32} {v4 : Int32} {s0 : Int32} (h0 : mm_is S v0 10) {I : mm_I} {J : mm_J} {o : Int32 × mm_I × mm_J} (h : f10_change_30 S n v0 v1 v2 v3 v4 s0 I J = some o) : mm_W l M10_change (mm_rm (mm_rk M10_change)) 0 0 S (mm_end S (mm_Qi o.1 o.2.1 o.2.2)) 30 [(0, .ref v0), (1, .int v1), (2, .int v2), (3, .int v3), (4, .int v4)] [.int s0] I J := by
  unfold f10_change_30 at h
  refine mm_istore d10_change_30 rfl rfl ?_
  refine mm_iload d10_change_32 rfl ?_
  refine mm_iconst (v := (-1)) d10_change_34 (by decide +kernel) ?_
  refine mm_icmp_eq (tgt := 56) d10_change_35 (by decide) (fun hc1 => ?_) (fun hc1 => ?_)
  · rw [if_pos hc1] at h
    refine mm_sub [(0, .ref v0), (1, .int v1), (2, .int v2), (3, .int v3), (4, .int v4), (5, .int s0)] ⟨rfl, rfl, rfl, rfl, rfl, rfl, trivial⟩ ?_
    exact ok10_change_56 l hS  h0 h
  · rw [if_neg hc1] at h
    refine mm_aload_n d10_change_38 rfl ?_
    refine mm_getR fl_X10_19 d10_change_39 (mm_wtR hS 100 h0 rfl rfl) ?_
    refine mm_iload d10_change_42 rfl ?_
    obtain ⟨o2, hk2, h⟩ := mm_bd h
    refine mm_cVi 0 (As := [.int v4]) (ok0_hasPerson l hS (mm_wtT hS 1 0 h0 rfl) hk2) lk_X10_241 rfl d10_change_44 (mm_room rfl rfl) rfl (mm_wtT hS 1 0 h0 rfl) rfl rfl ?_
    refine mm_if_eq (tgt := 60) d10_change_47 (by decide) (fun hc3 => ?_) (fun hc3 => ?_)
    · rw [if_pos hc3] at h
      refine mm_sub [(0, .ref v0), (1, .int v1), (2, .int v2), (3, .int v3), (4, .int v4), (5, .int s0)] ⟨rfl, rfl, rfl, rfl, rfl, rfl, trivial⟩ ?_
      exact ok10_change_60 l hS  h0 h
    · rw [if_neg hc3] at h
      refine mm_iload d10_change_50 rfl ?_
      refine mm_iload_n d10_change_52 rfl ?_
      refine mm_icmp_eq (tgt := 60) d10_change_53 (by decide) (fun hc4 => ?_) (fun hc4 => ?_)
      · rw [if_pos hc4] at h
        refine mm_sub [(0, .ref v0), (1, .int v1), (2, .int v2), (3, .int v3), (4, .int v4), (5, .int s0)] ⟨rfl, rfl, rfl, rfl, rfl, rfl, trivial⟩ ?_
        exact ok10_change_60 l hS  h0 h
      · rw [if_neg hc4] at h
        refine mm_sub [(0, .ref v0), (1, .int v1), (2, .int v2), (3, .int v3), (4, .int v4), (5, .int s0)] ⟨rfl, rfl, rfl, rfl, rfl, rfl, trivial⟩ ?_
        exact ok10_change_56 l hS  h0 h
set_option maxHeartbeats 4000000 in
set_option maxRecDepth 100000 in
theorem ok10_change_25 (l : Launch) {S : mm_Sh} (hS : mm_WT S) {n : Nat}  {v0 : Nat} {v1 : Int32} {v2 : Int32} {v3 : Int32} {v4 : Int32} (h0 : mm_is S v0 10) {I : mm_I} {J : mm_J} {o : Int32 × mm_I × mm_J} (h : f10_change_25 S n v0 v1 v2 v3 v4 I J = some o) : mm_W l M10_change (mm_rm (mm_rk M10_change)) 0 0 S (mm_end S (mm_Qi o.1 o.2.1 o.2.2)) 25 [(0, .ref v0), (1, .int v1), (2, .int v2), (3, .int v3), (4, .int v4)] [] I J := by
  unfold f10_change_25 at h
  refine mm_iconst (v := 1) d10_change_25 (by decide +kernel) ?_
  refine mm_goto (tgt := 30) d10_change_26 (by decide) ?_
  refine mm_sub [(0, .ref v0), (1, .int v1), (2, .int v2), (3, .int v3), (4, .int v4)] ⟨rfl, rfl, rfl, rfl, rfl, trivial⟩ ?_
  exact ok10_change_30 l hS  h0 h
set_option maxHeartbeats 4000000 in
set_option maxRecDepth 100000 in
theorem ok10_change_29 (l : Launch) {S : mm_Sh} (hS : mm_WT S) {n : Nat}  {v0 : Nat} {v1 : Int32} {v2 : Int32} {v3 : Int32} {v4 : Int32} (h0 : mm_is S v0 10) {I : mm_I} {J : mm_J} {o : Int32 × mm_I × mm_J} (h : f10_change_29 S n v0 v1 v2 v3 v4 I J = some o) : mm_W l M10_change (mm_rm (mm_rk M10_change)) 0 0 S (mm_end S (mm_Qi o.1 o.2.1 o.2.2)) 29 [(0, .ref v0), (1, .int v1), (2, .int v2), (3, .int v3), (4, .int v4)] [] I J := by
  unfold f10_change_29 at h
  refine mm_iconst (v := 0) d10_change_29 (by decide +kernel) ?_
  refine mm_sub [(0, .ref v0), (1, .int v1), (2, .int v2), (3, .int v3), (4, .int v4)] ⟨rfl, rfl, rfl, rfl, rfl, trivial⟩ ?_
  exact ok10_change_30 l hS  h0 h
set_option maxHeartbeats 4000000 in
set_option maxRecDepth 100000 in
theorem ok10_change (l : Launch) {S : mm_Sh} (hS : mm_WT S) {n : Nat}  {v0 : Nat} {v1 : Int32} {v2 : Int32} {v3 : Int32} {v4 : Int32} (h0 : mm_is S v0 10) {I : mm_I} {J : mm_J} {o : Int32 × mm_I × mm_J} (h : f10_change S n v0 v1 v2 v3 v4 I J = some o) : mm_C l M10_change S [.ref v0, .int v1, .int v2, .int v3, .int v4] I J (mm_Qi o.1 o.2.1 o.2.2) := by
  unfold f10_change at h
  refine mm_enter rfl (by decide +kernel) rfl ?_
  refine mm_aload_n d10_change_0 rfl ?_
  refine mm_iload_n d10_change_1 rfl ?_
  refine mm_iload_n d10_change_2 rfl ?_
  obtain ⟨o1, hk1, h⟩ := mm_bd h
  refine mm_cVi 10 (As := [.int v1, .int v2]) (ok10_isKnownPair l hS h0 hk1) lk_X10_270 rfl d10_change_3 (mm_room rfl rfl) rfl h0 rfl rfl ?_
  refine mm_if_eq (tgt := 29) d10_change_6 (by decide) (fun hc2 => ?_) (fun hc2 => ?_)
  · rw [if_pos hc2] at h
    refine mm_sub [(0, .ref v0), (1, .int v1), (2, .int v2), (3, .int v3), (4, .int v4)] ⟨rfl, rfl, rfl, rfl, rfl, trivial⟩ ?_
    exact ok10_change_29 l hS  h0 h
  · rw [if_neg hc2] at h
    refine mm_iload_n d10_change_9 rfl ?_
    refine mm_iconst (v := (-1)) d10_change_10 (by decide +kernel) ?_
    refine mm_icmp_eq (tgt := 25) d10_change_11 (by decide) (fun hc3 => ?_) (fun hc3 => ?_)
    · rw [if_pos hc3] at h
      refine mm_sub [(0, .ref v0), (1, .int v1), (2, .int v2), (3, .int v3), (4, .int v4)] ⟨rfl, rfl, rfl, rfl, rfl, trivial⟩ ?_
      exact ok10_change_25 l hS  h0 h
    · rw [if_neg hc3] at h
      refine mm_aload_n d10_change_14 rfl ?_
      refine mm_getR fl_X10_19 d10_change_15 (mm_wtR hS 100 h0 rfl rfl) ?_
      refine mm_iload_n d10_change_18 rfl ?_
      obtain ⟨o4, hk4, h⟩ := mm_bd h
      refine mm_cVi 0 (As := [.int v3]) (ok0_hasTrade l hS (mm_wtT hS 1 0 h0 rfl) hk4) lk_X10_216 rfl d10_change_19 (mm_room rfl rfl) rfl (mm_wtT hS 1 0 h0 rfl) rfl rfl ?_
      refine mm_if_eq (tgt := 29) d10_change_22 (by decide) (fun hc5 => ?_) (fun hc5 => ?_)
      · rw [if_pos hc5] at h
        refine mm_sub [(0, .ref v0), (1, .int v1), (2, .int v2), (3, .int v3), (4, .int v4)] ⟨rfl, rfl, rfl, rfl, rfl, trivial⟩ ?_
        exact ok10_change_29 l hS  h0 h
      · rw [if_neg hc5] at h
        refine mm_sub [(0, .ref v0), (1, .int v1), (2, .int v2), (3, .int v3), (4, .int v4)] ⟨rfl, rfl, rfl, rfl, rfl, trivial⟩ ?_
        exact ok10_change_25 l hS  h0 h
set_option maxHeartbeats 4000000 in
set_option maxRecDepth 100000 in
theorem ok10_makers_34 (l : Launch) {S : mm_Sh} (hS : mm_WT S) {n : Nat}  {s0 : Int32}  {I : mm_I} {J : mm_J} {o : Int32} (h : f10_makers_34 S n s0 I J = some o) : mm_W l M10_makers (mm_rm (mm_rk M10_makers)) 0 0 S (mm_end S (mm_Qi o I J)) 34 [] [.int s0] I J := by
  unfold f10_makers_34 at h
  have h := Option.some.inj h
  subst h
  exact mm_iret rfl d10_makers_34 ⟨rfl, rfl, rfl⟩
set_option maxHeartbeats 4000000 in
set_option maxRecDepth 100000 in
theorem ok10_makers (l : Launch) {S : mm_Sh} (hS : mm_WT S) {n : Nat}  {v0 : Nat} {v1 : Int32} (h0 : mm_is S v0 10) {I : mm_I} {J : mm_J} {o : Int32} (h : f10_makers S n v0 v1 I J = some o) : mm_C l M10_makers S [.ref v0, .int v1] I J (mm_Qi o I J) := by
  unfold f10_makers at h
  refine mm_enter rfl (by decide +kernel) rfl ?_
  refine mm_iload_n d10_makers_0 rfl ?_
  refine mm_iconst (v := 0) d10_makers_1 (by decide +kernel) ?_
  refine mm_aload_n d10_makers_2 rfl ?_
  refine mm_getR fl_X10_73 d10_makers_3 (mm_wtR hS 108 h0 rfl rfl) ?_
  refine mm_getI fl_X10_206 d10_makers_6 (mm_wtI hS (mm_wtT hS 13 8 h0 rfl) rfl) ?_
  refine mm_iconst (v := 1) d10_makers_9 (by decide +kernel) ?_
  refine mm_isub d10_makers_10 ?_
  obtain ⟨o1, hk1, h⟩ := mm_bd h
  refine mm_cSi (As := [.int v1, .int 0, .int ((I (mm_rf S v0 13) 6) - 1)]) (ok10_within l hS hk1) lk_X10_120 rfl d10_makers_11 (mm_room rfl rfl) rfl rfl ?_
  refine mm_if_eq (tgt := 32) d10_makers_14 (by decide) (fun hc2 => ?_) (fun hc2 => ?_)
  · rw [if_pos hc2] at h
    refine mm_ldc (v := (-1000000001)) d10_makers_32 kX10_220 ?_
    refine mm_sub [] trivial ?_
    exact ok10_makers_34 l hS   h
  · rw [if_neg hc2] at h
    refine mm_aload_n d10_makers_17 rfl ?_
    refine mm_getR fl_X10_73 d10_makers_18 (mm_wtR hS 108 h0 rfl rfl) ?_
    refine mm_iload_n d10_makers_21 rfl ?_
    refine mm_aload_n d10_makers_22 rfl ?_
    refine mm_getR fl_X10_42 d10_makers_23 (mm_wtR hS 101 h0 rfl rfl) ?_
    obtain ⟨o3, hk3, h⟩ := mm_bd h
    refine mm_cVi 8 (As := [.int v1, .ref (mm_rf S v0 6)]) (ok8_makersOf l hS (mm_wtT hS 13 8 h0 rfl) (mm_wtT hS 6 1 h0 rfl) hk3) lk_X10_333 rfl d10_makers_26 (mm_room rfl rfl) rfl (mm_wtT hS 13 8 h0 rfl) rfl rfl ?_
    refine mm_goto (tgt := 34) d10_makers_29 (by decide) ?_
    refine mm_sub [] trivial ?_
    exact ok10_makers_34 l hS   h
set_option maxHeartbeats 4000000 in
set_option maxRecDepth 100000 in
theorem ok10_told_159 (l : Launch) {S : mm_Sh} (hS : mm_WT S) {n : Nat}  {s0 : Int32}  {I : mm_I} {J : mm_J} {o : Int32} (h : f10_told_159 S n s0 I J = some o) : mm_W l M10_told (mm_rm (mm_rk M10_told)) 0 0 S (mm_end S (mm_Qi o I J)) 159 [] [.int s0] I J := by
  unfold f10_told_159 at h
  have h := Option.some.inj h
  subst h
  exact mm_iret rfl d10_told_159 ⟨rfl, rfl, rfl⟩
set_option maxHeartbeats 4000000 in
set_option maxRecDepth 100000 in
theorem ok10_told (l : Launch) {S : mm_Sh} (hS : mm_WT S) {n : Nat}  {v0 : Nat} {v1 : Int32} (h0 : mm_is S v0 10) {I : mm_I} {J : mm_J} {o : Int32} (h : f10_told S n v0 v1 I J = some o) : mm_C l M10_told S [.ref v0, .int v1] I J (mm_Qi o I J) := by
  unfold f10_told at h
  refine mm_enter rfl (by decide +kernel) rfl ?_
  refine mm_iload_n d10_told_0 rfl ?_
  by_cases hc1 : v1 = 0
  · rw [if_pos hc1] at h
    refine mm_tabIn (0) (tgt := 72) d10_told_1 (by rw [hc1]; decide +kernel) (by decide) (by decide) rfl (by decide) ?_
    refine mm_aload_n d10_told_72 rfl ?_
    refine mm_getR fl_X10_19 d10_told_73 (mm_wtR hS 100 h0 rfl rfl) ?_
    refine mm_getI fl_X10_178 d10_told_76 (mm_wtI hS (mm_wtT hS 1 0 h0 rfl) rfl) ?_
    have h := Option.some.inj h
    subst h
    exact mm_iret rfl d10_told_79 ⟨rfl, rfl, rfl⟩
  · rw [if_neg hc1] at h
    by_cases hc2 : v1 = 1
    · rw [if_pos hc2] at h
      refine mm_tabIn (1) (tgt := 80) d10_told_1 (by rw [hc2]; decide +kernel) (by decide) (by decide) rfl (by decide) ?_
      refine mm_aload_n d10_told_80 rfl ?_
      refine mm_getR fl_X10_19 d10_told_81 (mm_wtR hS 100 h0 rfl rfl) ?_
      refine mm_getI fl_X10_164 d10_told_84 (mm_wtI hS (mm_wtT hS 1 0 h0 rfl) rfl) ?_
      have h := Option.some.inj h
      subst h
      exact mm_iret rfl d10_told_87 ⟨rfl, rfl, rfl⟩
    · rw [if_neg hc2] at h
      by_cases hc3 : v1 = 2
      · rw [if_pos hc3] at h
        refine mm_tabIn (2) (tgt := 88) d10_told_1 (by rw [hc3]; decide +kernel) (by decide) (by decide) rfl (by decide) ?_
        refine mm_aload_n d10_told_88 rfl ?_
        refine mm_getR fl_X10_42 d10_told_89 (mm_wtR hS 101 h0 rfl rfl) ?_
        refine mm_getI fl_X10_181 d10_told_92 (mm_wtI hS (mm_wtT hS 6 1 h0 rfl) rfl) ?_
        have h := Option.some.inj h
        subst h
        exact mm_iret rfl d10_told_95 ⟨rfl, rfl, rfl⟩
      · rw [if_neg hc3] at h
        by_cases hc4 : v1 = 3
        · rw [if_pos hc4] at h
          refine mm_tabIn (3) (tgt := 96) d10_told_1 (by rw [hc4]; decide +kernel) (by decide) (by decide) rfl (by decide) ?_
          refine mm_aload_n d10_told_96 rfl ?_
          refine mm_getR fl_X10_42 d10_told_97 (mm_wtR hS 101 h0 rfl rfl) ?_
          refine mm_getI fl_X10_184 d10_told_100 (mm_wtI hS (mm_wtT hS 6 1 h0 rfl) rfl) ?_
          have h := Option.some.inj h
          subst h
          exact mm_iret rfl d10_told_103 ⟨rfl, rfl, rfl⟩
        · rw [if_neg hc4] at h
          by_cases hc5 : v1 = 4
          · rw [if_pos hc5] at h
            refine mm_tabIn (4) (tgt := 104) d10_told_1 (by rw [hc5]; decide +kernel) (by decide) (by decide) rfl (by decide) ?_
            refine mm_aload_n d10_told_104 rfl ?_
            refine mm_getR fl_X10_29 d10_told_105 (mm_wtR hS 107 h0 rfl rfl) ?_
            refine mm_getI fl_X10_187 d10_told_108 (mm_wtI hS (mm_wtT hS 3 7 h0 rfl) rfl) ?_
            have h := Option.some.inj h
            subst h
            exact mm_iret rfl d10_told_111 ⟨rfl, rfl, rfl⟩
          · rw [if_neg hc5] at h
            by_cases hc6 : v1 = 5
            · rw [if_pos hc6] at h
              refine mm_tabIn (5) (tgt := 112) d10_told_1 (by rw [hc6]; decide +kernel) (by decide) (by decide) rfl (by decide) ?_
              refine mm_aload_n d10_told_112 rfl ?_
              refine mm_getR fl_X10_29 d10_told_113 (mm_wtR hS 107 h0 rfl rfl) ?_
              refine mm_getI fl_X10_190 d10_told_116 (mm_wtI hS (mm_wtT hS 3 7 h0 rfl) rfl) ?_
              have h := Option.some.inj h
              subst h
              exact mm_iret rfl d10_told_119 ⟨rfl, rfl, rfl⟩
            · rw [if_neg hc6] at h
              by_cases hc7 : v1 = 6
              · rw [if_pos hc7] at h
                refine mm_tabIn (6) (tgt := 120) d10_told_1 (by rw [hc7]; decide +kernel) (by decide) (by decide) rfl (by decide) ?_
                refine mm_aload_n d10_told_120 rfl ?_
                refine mm_getR fl_X10_29 d10_told_121 (mm_wtR hS 107 h0 rfl rfl) ?_
                refine mm_getI fl_X10_193 d10_told_124 (mm_wtI hS (mm_wtT hS 3 7 h0 rfl) rfl) ?_
                have h := Option.some.inj h
                subst h
                exact mm_iret rfl d10_told_127 ⟨rfl, rfl, rfl⟩
              · rw [if_neg hc7] at h
                by_cases hc8 : v1 = 7
                · rw [if_pos hc8] at h
                  refine mm_tabIn (7) (tgt := 128) d10_told_1 (by rw [hc8]; decide +kernel) (by decide) (by decide) rfl (by decide) ?_
                  refine mm_aload_n d10_told_128 rfl ?_
                  refine mm_getR fl_X10_29 d10_told_129 (mm_wtR hS 107 h0 rfl rfl) ?_
                  refine mm_getI fl_X10_196 d10_told_132 (mm_wtI hS (mm_wtT hS 3 7 h0 rfl) rfl) ?_
                  have h := Option.some.inj h
                  subst h
                  exact mm_iret rfl d10_told_135 ⟨rfl, rfl, rfl⟩
                · rw [if_neg hc8] at h
                  by_cases hc9 : v1 = 8
                  · rw [if_pos hc9] at h
                    refine mm_tabIn (8) (tgt := 136) d10_told_1 (by rw [hc9]; decide +kernel) (by decide) (by decide) rfl (by decide) ?_
                    refine mm_aload_n d10_told_136 rfl ?_
                    refine mm_getR fl_X10_29 d10_told_137 (mm_wtR hS 107 h0 rfl rfl) ?_
                    refine mm_getI fl_X10_199 d10_told_140 (mm_wtI hS (mm_wtT hS 3 7 h0 rfl) rfl) ?_
                    have h := Option.some.inj h
                    subst h
                    exact mm_iret rfl d10_told_143 ⟨rfl, rfl, rfl⟩
                  · rw [if_neg hc9] at h
                    by_cases hc10 : v1 = 9
                    · rw [if_pos hc10] at h
                      refine mm_tabIn (9) (tgt := 144) d10_told_1 (by rw [hc10]; decide +kernel) (by decide) (by decide) rfl (by decide) ?_
                      refine mm_aload_n d10_told_144 rfl ?_
                      refine mm_getR fl_X10_29 d10_told_145 (mm_wtR hS 107 h0 rfl rfl) ?_
                      refine mm_getI fl_X10_202 d10_told_148 (mm_wtI hS (mm_wtT hS 3 7 h0 rfl) rfl) ?_
                      refine mm_if_eq (tgt := 158) d10_told_151 (by decide) (fun hc16 => ?_) (fun hc16 => ?_)
                      · rw [if_pos hc16] at h
                        refine mm_iconst (v := 0) d10_told_158 (by decide +kernel) ?_
                        refine mm_sub [] trivial ?_
                        exact ok10_told_159 l hS   h
                      · rw [if_neg hc16] at h
                        refine mm_iconst (v := 1) d10_told_154 (by decide +kernel) ?_
                        refine mm_goto (tgt := 159) d10_told_155 (by decide) ?_
                        refine mm_sub [] trivial ?_
                        exact ok10_told_159 l hS   h
                    · rw [if_neg hc10] at h
                      by_cases hc11 : v1 = 10
                      · rw [if_pos hc11] at h
                        refine mm_tabIn (10) (tgt := 160) d10_told_1 (by rw [hc11]; decide +kernel) (by decide) (by decide) rfl (by decide) ?_
                        refine mm_aload_n d10_told_160 rfl ?_
                        refine mm_getR fl_X10_10 d10_told_161 (mm_wtR hS 104 h0 rfl rfl) ?_
                        refine mm_getI fl_X10_125 d10_told_164 (mm_wtI hS (mm_wtT hS 0 4 h0 rfl) rfl) ?_
                        have h := Option.some.inj h
                        subst h
                        exact mm_iret rfl d10_told_167 ⟨rfl, rfl, rfl⟩
                      · rw [if_neg hc11] at h
                        by_cases hc12 : v1 = 11
                        · rw [if_pos hc12] at h
                          refine mm_tabIn (11) (tgt := 168) d10_told_1 (by rw [hc12]; decide +kernel) (by decide) (by decide) rfl (by decide) ?_
                          refine mm_aload_n d10_told_168 rfl ?_
                          refine mm_getR fl_X10_73 d10_told_169 (mm_wtR hS 108 h0 rfl rfl) ?_
                          refine mm_getI fl_X10_206 d10_told_172 (mm_wtI hS (mm_wtT hS 13 8 h0 rfl) rfl) ?_
                          have h := Option.some.inj h
                          subst h
                          exact mm_iret rfl d10_told_175 ⟨rfl, rfl, rfl⟩
                        · rw [if_neg hc12] at h
                          by_cases hc13 : v1 = 12
                          · rw [if_pos hc13] at h
                            refine mm_tabIn (12) (tgt := 176) d10_told_1 (by rw [hc13]; decide +kernel) (by decide) (by decide) rfl (by decide) ?_
                            refine mm_aload_n d10_told_176 rfl ?_
                            refine mm_getR fl_X10_73 d10_told_177 (mm_wtR hS 108 h0 rfl rfl) ?_
                            refine mm_getI fl_X10_209 d10_told_180 (mm_wtI hS (mm_wtT hS 13 8 h0 rfl) rfl) ?_
                            have h := Option.some.inj h
                            subst h
                            exact mm_iret rfl d10_told_183 ⟨rfl, rfl, rfl⟩
                          · rw [if_neg hc13] at h
                            by_cases hc14 : v1 = 13
                            · rw [if_pos hc14] at h
                              refine mm_tabIn (13) (tgt := 184) d10_told_1 (by rw [hc14]; decide +kernel) (by decide) (by decide) rfl (by decide) ?_
                              refine mm_aload_n d10_told_184 rfl ?_
                              refine mm_getR fl_X10_91 d10_told_185 (mm_wtR hS 102 h0 rfl rfl) ?_
                              obtain ⟨o15, hk15, h⟩ := mm_bd h
                              refine mm_cVi 2 (As := []) (ok2_deadTrades l hS (mm_wtT hS 15 2 h0 rfl) hk15) lk_X10_212 rfl d10_told_188 (mm_room rfl rfl) rfl (mm_wtT hS 15 2 h0 rfl) rfl rfl ?_
                              have h := Option.some.inj h
                              subst h
                              exact mm_iret rfl d10_told_191 ⟨rfl, rfl, rfl⟩
                            · rw [if_neg hc14] at h
                              have hn1 := lv_neT (a := 0) hc1 (by decide +kernel)
                              have hn2 := lv_neT (a := 1) hc2 (by decide +kernel)
                              have hn3 := lv_neT (a := 2) hc3 (by decide +kernel)
                              have hn4 := lv_neT (a := 3) hc4 (by decide +kernel)
                              have hn5 := lv_neT (a := 4) hc5 (by decide +kernel)
                              have hn6 := lv_neT (a := 5) hc6 (by decide +kernel)
                              have hn7 := lv_neT (a := 6) hc7 (by decide +kernel)
                              have hn8 := lv_neT (a := 7) hc8 (by decide +kernel)
                              have hn9 := lv_neT (a := 8) hc9 (by decide +kernel)
                              have hn10 := lv_neT (a := 9) hc10 (by decide +kernel)
                              have hn11 := lv_neT (a := 10) hc11 (by decide +kernel)
                              have hn12 := lv_neT (a := 11) hc12 (by decide +kernel)
                              have hn13 := lv_neT (a := 12) hc13 (by decide +kernel)
                              have hn14 := lv_neT (a := 13) hc14 (by decide +kernel)
                              refine mm_tabOut (tgt := 192) d10_told_1 (by omega) (by decide) ?_
                              refine mm_ldc (v := (-1000000002)) d10_told_192 kX10_124 ?_
                              have h := Option.some.inj h
                              subst h
                              exact mm_iret rfl d10_told_194 ⟨rfl, rfl, rfl⟩
set_option maxHeartbeats 4000000 in
set_option maxRecDepth 100000 in
theorem ok2_passYearOf_163 (l : Launch) {S : mm_Sh} (hS : mm_WT S) {n : Nat}  {rec64 : Nat → Int32 → Int32 → Int32 → mm_I → mm_J → Option (mm_I × mm_J)} (hrec64 : ∀ {v0 : Nat} {v1 : Int32} {v2 : Int32} {v4 : Int32} (_ : mm_is S v0 2) {I : mm_I} {J : mm_J} {o : mm_I × mm_J}, rec64 v0 v1 v2 v4 I J = some o → mm_W l M2_passYearOf (mm_rm (mm_rk M2_passYearOf)) 0 0 S (mm_end S (mm_Qv o.1 o.2)) 64 [(0, .ref v0), (1, .int v1), (2, .int v2), (4, .int v4)] [] I J) {v0 : Nat} {v1 : Int32} {v2 : Int32} {v4 : Int32} (h0 : mm_is S v0 2) {I : mm_I} {J : mm_J} {o : mm_I × mm_J} (h : f2_passYearOf_163 S n rec64 v0 v1 v2 v4 I J = some o) : mm_W l M2_passYearOf (mm_rm (mm_rk M2_passYearOf)) 0 0 S (mm_end S (mm_Qv o.1 o.2)) 163 [(0, .ref v0), (1, .int v1), (2, .int v2), (4, .int v4)] [] I J := by
  unfold f2_passYearOf_163 at h
  refine mm_iinc (v := v4 + 1) d2_passYearOf_163 rfl rfl rfl rfl ?_
  refine mm_goto (tgt := 64) d2_passYearOf_166 (by decide) ?_
  refine mm_sub [(0, .ref v0), (1, .int v1), (2, .int v2), (4, .int (v4 + 1))] ⟨rfl, rfl, rfl, rfl, trivial⟩ ?_
  exact hrec64 h0 h
set_option maxHeartbeats 4000000 in
set_option maxRecDepth 100000 in
theorem ok2_passYearOf_146 (l : Launch) {S : mm_Sh} (hS : mm_WT S) {n : Nat}  {rec64 : Nat → Int32 → Int32 → Int32 → mm_I → mm_J → Option (mm_I × mm_J)} (hrec64 : ∀ {v0 : Nat} {v1 : Int32} {v2 : Int32} {v4 : Int32} (_ : mm_is S v0 2) {I : mm_I} {J : mm_J} {o : mm_I × mm_J}, rec64 v0 v1 v2 v4 I J = some o → mm_W l M2_passYearOf (mm_rm (mm_rk M2_passYearOf)) 0 0 S (mm_end S (mm_Qv o.1 o.2)) 64 [(0, .ref v0), (1, .int v1), (2, .int v2), (4, .int v4)] [] I J) {v0 : Nat} {v1 : Int32} {v2 : Int32} {v4 : Int32} {v5 : Int32} {v6 : Int32} (h0 : mm_is S v0 2) {I : mm_I} {J : mm_J} {o : mm_I × mm_J} (h : f2_passYearOf_146 S n rec64 v0 v1 v2 v4 v5 v6 I J = some o) : mm_W l M2_passYearOf (mm_rm (mm_rk M2_passYearOf)) 0 0 S (mm_end S (mm_Qv o.1 o.2)) 146 [(0, .ref v0), (1, .int v1), (2, .int v2), (4, .int v4), (5, .int v5), (6, .int v6)] [] I J := by
  unfold f2_passYearOf_146 at h
  refine mm_iload d2_passYearOf_146 rfl ?_
  refine mm_if_ne (tgt := 163) d2_passYearOf_148 (by decide) (fun hc1 => ?_) (fun hc1 => ?_)
  · rw [if_neg hc1] at h
    refine mm_sub [(0, .ref v0), (1, .int v1), (2, .int v2), (4, .int v4)] ⟨rfl, rfl, rfl, rfl, trivial⟩ ?_
    exact ok2_passYearOf_163 l hS hrec64 h0 h
  · rw [if_pos hc1] at h
    refine mm_iload d2_passYearOf_151 rfl ?_
    refine mm_if_ne (tgt := 163) d2_passYearOf_153 (by decide) (fun hc2 => ?_) (fun hc2 => ?_)
    · rw [if_neg hc2] at h
      refine mm_sub [(0, .ref v0), (1, .int v1), (2, .int v2), (4, .int v4)] ⟨rfl, rfl, rfl, rfl, trivial⟩ ?_
      exact ok2_passYearOf_163 l hS hrec64 h0 h
    · rw [if_pos hc2] at h
      refine mm_aload_n d2_passYearOf_156 rfl ?_
      refine mm_iload_n d2_passYearOf_157 rfl ?_
      refine mm_iload d2_passYearOf_158 rfl ?_
      obtain ⟨o3, hk3, h⟩ := mm_bd h
      refine mm_cVv 2 (As := [.int v1, .int v4]) (ok2_leaveAside l hS h0 hk3) lk_X2_162 rfl d2_passYearOf_160 (mm_room rfl rfl) rfl h0 rfl rfl ?_
      refine mm_sub [(0, .ref v0), (1, .int v1), (2, .int v2), (4, .int v4)] ⟨rfl, rfl, rfl, rfl, trivial⟩ ?_
      exact ok2_passYearOf_163 l hS hrec64 h0 h
set_option maxHeartbeats 4000000 in
set_option maxRecDepth 100000 in
theorem ok2_passYearOf_134 (l : Launch) {S : mm_Sh} (hS : mm_WT S) {n : Nat}  {rec64 : Nat → Int32 → Int32 → Int32 → mm_I → mm_J → Option (mm_I × mm_J)} (hrec64 : ∀ {v0 : Nat} {v1 : Int32} {v2 : Int32} {v4 : Int32} (_ : mm_is S v0 2) {I : mm_I} {J : mm_J} {o : mm_I × mm_J}, rec64 v0 v1 v2 v4 I J = some o → mm_W l M2_passYearOf (mm_rm (mm_rk M2_passYearOf)) 0 0 S (mm_end S (mm_Qv o.1 o.2)) 64 [(0, .ref v0), (1, .int v1), (2, .int v2), (4, .int v4)] [] I J) {v0 : Nat} {v1 : Int32} {v2 : Int32} {v4 : Int32} {v5 : Int32} {v6 : Int32} (h0 : mm_is S v0 2) {I : mm_I} {J : mm_J} {o : mm_I × mm_J} (h : f2_passYearOf_134 S n rec64 v0 v1 v2 v4 v5 v6 I J = some o) : mm_W l M2_passYearOf (mm_rm (mm_rk M2_passYearOf)) 0 0 S (mm_end S (mm_Qv o.1 o.2)) 134 [(0, .ref v0), (1, .int v1), (2, .int v2), (4, .int v4), (5, .int v5), (6, .int v6)] [] I J := by
  unfold f2_passYearOf_134 at h
  refine mm_iload d2_passYearOf_134 rfl ?_
  refine mm_if_eq (tgt := 146) d2_passYearOf_136 (by decide) (fun hc1 => ?_) (fun hc1 => ?_)
  · rw [if_pos hc1] at h
    refine mm_sub [(0, .ref v0), (1, .int v1), (2, .int v2), (4, .int v4), (5, .int v5), (6, .int v6)] ⟨rfl, rfl, rfl, rfl, rfl, rfl, trivial⟩ ?_
    exact ok2_passYearOf_146 l hS hrec64 h0 h
  · rw [if_neg hc1] at h
    refine mm_aload_n d2_passYearOf_139 rfl ?_
    refine mm_iload_n d2_passYearOf_140 rfl ?_
    refine mm_iload d2_passYearOf_141 rfl ?_
    obtain ⟨o2, hk2, h⟩ := mm_bd h
    refine mm_cVv 2 (As := [.int v1, .int v4]) (ok2_learnOn l hS h0 hk2) lk_X2_159 rfl d2_passYearOf_143 (mm_room rfl rfl) rfl h0 rfl rfl ?_
    refine mm_sub [(0, .ref v0), (1, .int v1), (2, .int v2), (4, .int v4), (5, .int v5), (6, .int v6)] ⟨rfl, rfl, rfl, rfl, rfl, rfl, trivial⟩ ?_
    exact ok2_passYearOf_146 l hS hrec64 h0 h
set_option maxHeartbeats 4000000 in
set_option maxRecDepth 100000 in
theorem ok2_passYearOf_120 (l : Launch) {S : mm_Sh} (hS : mm_WT S) {n : Nat}  {rec64 : Nat → Int32 → Int32 → Int32 → mm_I → mm_J → Option (mm_I × mm_J)} (hrec64 : ∀ {v0 : Nat} {v1 : Int32} {v2 : Int32} {v4 : Int32} (_ : mm_is S v0 2) {I : mm_I} {J : mm_J} {o : mm_I × mm_J}, rec64 v0 v1 v2 v4 I J = some o → mm_W l M2_passYearOf (mm_rm (mm_rk M2_passYearOf)) 0 0 S (mm_end S (mm_Qv o.1 o.2)) 64 [(0, .ref v0), (1, .int v1), (2, .int v2), (4, .int v4)] [] I J) {v0 : Nat} {v1 : Int32} {v2 : Int32} {v4 : Int32} {v5 : Int32} {s0 : Int32} (h0 : mm_is S v0 2) {I : mm_I} {J : mm_J} {o : mm_I × mm_J} (h : f2_passYearOf_120 S n rec64 v0 v1 v2 v4 v5 s0 I J = some o) : mm_W l M2_passYearOf (mm_rm (mm_rk M2_passYearOf)) 0 0 S (mm_end S (mm_Qv o.1 o.2)) 120 [(0, .ref v0), (1, .int v1), (2, .int v2), (4, .int v4), (5, .int v5)] [.int s0] I J := by
  unfold f2_passYearOf_120 at h
  refine mm_istore d2_passYearOf_120 rfl rfl ?_
  refine mm_iload d2_passYearOf_122 rfl ?_
  refine mm_if_eq (tgt := 134) d2_passYearOf_124 (by decide) (fun hc1 => ?_) (fun hc1 => ?_)
  · rw [if_pos hc1] at h
    refine mm_sub [(0, .ref v0), (1, .int v1), (2, .int v2), (4, .int v4), (5, .int v5), (6, .int s0)] ⟨rfl, rfl, rfl, rfl, rfl, rfl, trivial⟩ ?_
    exact ok2_passYearOf_134 l hS hrec64 h0 h
  · rw [if_neg hc1] at h
    refine mm_aload_n d2_passYearOf_127 rfl ?_
    refine mm_iload_n d2_passYearOf_128 rfl ?_
    refine mm_iload d2_passYearOf_129 rfl ?_
    obtain ⟨o2, hk2, h⟩ := mm_bd h
    refine mm_cVv 2 (As := [.int v1, .int v4]) (ok2_fade l hS h0 hk2) lk_X2_156 rfl d2_passYearOf_131 (mm_room rfl rfl) rfl h0 rfl rfl ?_
    refine mm_sub [(0, .ref v0), (1, .int v1), (2, .int v2), (4, .int v4), (5, .int v5), (6, .int s0)] ⟨rfl, rfl, rfl, rfl, rfl, rfl, trivial⟩ ?_
    exact ok2_passYearOf_134 l hS hrec64 h0 h
set_option maxHeartbeats 4000000 in
set_option maxRecDepth 100000 in
theorem ok2_passYearOf_97 (l : Launch) {S : mm_Sh} (hS : mm_WT S) {n : Nat}  {rec64 : Nat → Int32 → Int32 → Int32 → mm_I → mm_J → Option (mm_I × mm_J)} (hrec64 : ∀ {v0 : Nat} {v1 : Int32} {v2 : Int32} {v4 : Int32} (_ : mm_is S v0 2) {I : mm_I} {J : mm_J} {o : mm_I × mm_J}, rec64 v0 v1 v2 v4 I J = some o → mm_W l M2_passYearOf (mm_rm (mm_rk M2_passYearOf)) 0 0 S (mm_end S (mm_Qv o.1 o.2)) 64 [(0, .ref v0), (1, .int v1), (2, .int v2), (4, .int v4)] [] I J) {v0 : Nat} {v1 : Int32} {v2 : Int32} {v4 : Int32} {s0 : Int32} (h0 : mm_is S v0 2) {I : mm_I} {J : mm_J} {o : mm_I × mm_J} (h : f2_passYearOf_97 S n rec64 v0 v1 v2 v4 s0 I J = some o) : mm_W l M2_passYearOf (mm_rm (mm_rk M2_passYearOf)) 0 0 S (mm_end S (mm_Qv o.1 o.2)) 97 [(0, .ref v0), (1, .int v1), (2, .int v2), (4, .int v4)] [.int s0] I J := by
  unfold f2_passYearOf_97 at h
  refine mm_istore d2_passYearOf_97 rfl rfl ?_
  refine mm_aload_n d2_passYearOf_99 rfl ?_
  refine mm_getR fl_X2_19 d2_passYearOf_100 (mm_wtR hS 101 h0 rfl rfl) ?_
  refine mm_getR fl_X2_93 d2_passYearOf_103 (mm_wtR hS 106 (mm_wtT hS 2 1 h0 rfl) rfl rfl) ?_
  refine mm_iload_n d2_passYearOf_106 rfl ?_
  obtain ⟨o1, hk1, h⟩ := mm_bd h
  refine mm_cVi 6 (As := [.int v1]) (ok6_at l hS (mm_wtT hS 4 6 (mm_wtT hS 2 1 h0 rfl) rfl) hk1) lk_X2_96 rfl d2_passYearOf_107 (mm_room rfl rfl) rfl (mm_wtT hS 4 6 (mm_wtT hS 2 1 h0 rfl) rfl) rfl rfl ?_
  refine mm_iload d2_passYearOf_110 rfl ?_
  refine mm_icmp_ne (tgt := 119) d2_passYearOf_112 (by decide) (fun hc2 => ?_) (fun hc2 => ?_)
  · rw [if_neg hc2] at h
    refine mm_iconst (v := 0) d2_passYearOf_119 (by decide +kernel) ?_
    refine mm_sub [(0, .ref v0), (1, .int v1), (2, .int v2), (4, .int v4), (5, .int s0)] ⟨rfl, rfl, rfl, rfl, rfl, trivial⟩ ?_
    exact ok2_passYearOf_120 l hS hrec64 h0 h
  · rw [if_pos hc2] at h
    refine mm_iconst (v := 1) d2_passYearOf_115 (by decide +kernel) ?_
    refine mm_goto (tgt := 120) d2_passYearOf_116 (by decide) ?_
    refine mm_sub [(0, .ref v0), (1, .int v1), (2, .int v2), (4, .int v4), (5, .int s0)] ⟨rfl, rfl, rfl, rfl, rfl, trivial⟩ ?_
    exact ok2_passYearOf_120 l hS hrec64 h0 h
set_option maxHeartbeats 4000000 in
set_option maxRecDepth 100000 in
theorem ok2_passYearOf_273 (l : Launch) {S : mm_Sh} (hS : mm_WT S) {n : Nat}    {I : mm_I} {J : mm_J} {o : mm_I × mm_J} (h : f2_passYearOf_273 S n  I J = some o) : mm_W l M2_passYearOf (mm_rm (mm_rk M2_passYearOf)) 0 0 S (mm_end S (mm_Qv o.1 o.2)) 273 [] [] I J := by
  unfold f2_passYearOf_273 at h
  have h := Option.some.inj h
  subst h
  exact mm_vret rfl d2_passYearOf_273 ⟨rfl, rfl, rfl⟩
set_option maxHeartbeats 4000000 in
set_option maxRecDepth 100000 in
theorem ok2_passYearOf_64_b (l : Launch) {S : mm_Sh} (hS : mm_WT S) {n : Nat}  {rec64 : Nat → Int32 → Int32 → Int32 → mm_I → mm_J → Option (mm_I × mm_J)} (hrec64 : ∀ {v0 : Nat} {v1 : Int32} {v2 : Int32} {v4 : Int32} (_ : mm_is S v0 2) {I : mm_I} {J : mm_J} {o : mm_I × mm_J}, rec64 v0 v1 v2 v4 I J = some o → mm_W l M2_passYearOf (mm_rm (mm_rk M2_passYearOf)) 0 0 S (mm_end S (mm_Qv o.1 o.2)) 64 [(0, .ref v0), (1, .int v1), (2, .int v2), (4, .int v4)] [] I J) {v0 : Nat} {v1 : Int32} {v2 : Int32} {v4 : Int32} (h0 : mm_is S v0 2) {I : mm_I} {J : mm_J} {o : mm_I × mm_J} (h : f2_passYearOf_64_b S n rec64 v0 v1 v2 v4 I J = some o) : mm_W l M2_passYearOf (mm_rm (mm_rk M2_passYearOf)) 0 0 S (mm_end S (mm_Qv o.1 o.2)) 64 [(0, .ref v0), (1, .int v1), (2, .int v2), (4, .int v4)] [] I J := by
  unfold f2_passYearOf_64_b at h
  refine mm_iload d2_passYearOf_64 rfl ?_
  refine mm_aload_n d2_passYearOf_66 rfl ?_
  refine mm_getR fl_X2_9 d2_passYearOf_67 (mm_wtR hS 100 h0 rfl rfl) ?_
  refine mm_getI fl_X2_23 d2_passYearOf_70 (mm_wtI hS (mm_wtT hS 0 0 h0 rfl) rfl) ?_
  refine mm_icmp_ge (tgt := 169) d2_passYearOf_73 (by decide) (fun hc1 => ?_) (fun hc1 => ?_)
  · rw [if_pos hc1] at h
    refine mm_aload_n d2_passYearOf_169 rfl ?_
    refine mm_getR fl_X2_19 d2_passYearOf_170 (mm_wtR hS 101 h0 rfl rfl) ?_
    refine mm_getR fl_X2_165 d2_passYearOf_173 (mm_wtR hS 106 (mm_wtT hS 2 1 h0 rfl) rfl rfl) ?_
    refine mm_iload_n d2_passYearOf_176 rfl ?_
    refine mm_aload_n d2_passYearOf_177 rfl ?_
    refine mm_getR fl_X2_19 d2_passYearOf_178 (mm_wtR hS 101 h0 rfl rfl) ?_
    refine mm_getR fl_X2_165 d2_passYearOf_181 (mm_wtR hS 106 (mm_wtT hS 2 1 h0 rfl) rfl rfl) ?_
    refine mm_iload_n d2_passYearOf_184 rfl ?_
    obtain ⟨o2, hk2, h⟩ := mm_bd h
    refine mm_cVi 6 (As := [.int v1]) (ok6_at l hS (mm_wtT hS 0 6 (mm_wtT hS 2 1 h0 rfl) rfl) hk2) lk_X2_96 rfl d2_passYearOf_185 (mm_room rfl rfl) rfl (mm_wtT hS 0 6 (mm_wtT hS 2 1 h0 rfl) rfl) rfl rfl ?_
    refine mm_iconst (v := 1) d2_passYearOf_188 (by decide +kernel) ?_
    refine mm_iadd d2_passYearOf_189 ?_
    obtain ⟨o3, hk3, h⟩ := mm_bd h
    refine mm_cVv 6 (As := [.int v1, .int (o2 + 1)]) (ok6_put l hS (mm_wtT hS 0 6 (mm_wtT hS 2 1 h0 rfl) rfl) hk3) lk_X2_85 rfl d2_passYearOf_190 (mm_room rfl rfl) rfl (mm_wtT hS 0 6 (mm_wtT hS 2 1 h0 rfl) rfl) rfl rfl ?_
    refine mm_aload_n d2_passYearOf_193 rfl ?_
    refine mm_getR fl_X2_19 d2_passYearOf_194 (mm_wtR hS 101 h0 rfl rfl) ?_
    refine mm_getR fl_X2_165 d2_passYearOf_197 (mm_wtR hS 106 (mm_wtT hS 2 1 h0 rfl) rfl rfl) ?_
    refine mm_iload_n d2_passYearOf_200 rfl ?_
    obtain ⟨o4, hk4, h⟩ := mm_bd h
    refine mm_cVi 6 (As := [.int v1]) (ok6_at l hS (mm_wtT hS 0 6 (mm_wtT hS 2 1 h0 rfl) rfl) hk4) lk_X2_96 rfl d2_passYearOf_201 (mm_room rfl rfl) rfl (mm_wtT hS 0 6 (mm_wtT hS 2 1 h0 rfl) rfl) rfl rfl ?_
    refine mm_aload_n d2_passYearOf_204 rfl ?_
    refine mm_getR fl_X2_15 d2_passYearOf_205 (mm_wtR hS 107 h0 rfl rfl) ?_
    refine mm_getI fl_X2_168 d2_passYearOf_208 (mm_wtI hS (mm_wtT hS 1 7 h0 rfl) rfl) ?_
    refine mm_icmp_lt (tgt := 242) d2_passYearOf_211 (by decide) (fun hc5 => ?_) (fun hc5 => ?_)
    · rw [if_pos hc5] at h
      refine mm_aload_n d2_passYearOf_242 rfl ?_
      refine mm_getR fl_X2_19 d2_passYearOf_243 (mm_wtR hS 101 h0 rfl rfl) ?_
      refine mm_iload_n d2_passYearOf_246 rfl ?_
      refine mm_iload_n d2_passYearOf_247 rfl ?_
      obtain ⟨o6, hk6, h⟩ := mm_bd h
      refine mm_cVi 1 (As := [.int v1, .int v2]) (ok1_knows l hS (mm_wtT hS 2 1 h0 rfl) hk6) lk_X2_49 rfl d2_passYearOf_248 (mm_room rfl rfl) rfl (mm_wtT hS 2 1 h0 rfl) rfl rfl ?_
      refine mm_if_ne (tgt := 273) d2_passYearOf_251 (by decide) (fun hc7 => ?_) (fun hc7 => ?_)
      · rw [if_neg hc7] at h
        refine mm_sub [] trivial ?_
        exact ok2_passYearOf_273 l hS   h
      · rw [if_pos hc7] at h
        refine mm_aload_n d2_passYearOf_254 rfl ?_
        refine mm_getR fl_X2_19 d2_passYearOf_255 (mm_wtR hS 101 h0 rfl rfl) ?_
        refine mm_getR fl_X2_147 d2_passYearOf_258 (mm_wtR hS 106 (mm_wtT hS 2 1 h0 rfl) rfl rfl) ?_
        refine mm_iload_n d2_passYearOf_261 rfl ?_
        refine mm_aload_n d2_passYearOf_262 rfl ?_
        refine mm_getR fl_X2_19 d2_passYearOf_263 (mm_wtR hS 101 h0 rfl rfl) ?_
        refine mm_iload_n d2_passYearOf_266 rfl ?_
        obtain ⟨o8, hk8, h⟩ := mm_bd h
        refine mm_cVi 1 (As := [.int v1]) (ok1_bestOf l hS (mm_wtT hS 2 1 h0 rfl) hk8) lk_X2_174 rfl d2_passYearOf_267 (mm_room rfl rfl) rfl (mm_wtT hS 2 1 h0 rfl) rfl rfl ?_
        obtain ⟨o9, hk9, h⟩ := mm_bd h
        refine mm_cVv 6 (As := [.int v1, .int o8]) (ok6_put l hS (mm_wtT hS 3 6 (mm_wtT hS 2 1 h0 rfl) rfl) hk9) lk_X2_85 rfl d2_passYearOf_270 (mm_room rfl rfl) rfl (mm_wtT hS 3 6 (mm_wtT hS 2 1 h0 rfl) rfl) rfl rfl ?_
        refine mm_sub [] trivial ?_
        exact ok2_passYearOf_273 l hS   h
    · rw [if_neg hc5] at h
      refine mm_aload_n d2_passYearOf_214 rfl ?_
      refine mm_getR fl_X2_19 d2_passYearOf_215 (mm_wtR hS 101 h0 rfl rfl) ?_
      refine mm_iload_n d2_passYearOf_218 rfl ?_
      obtain ⟨o10, hk10, h⟩ := mm_bd h
      refine mm_cVv 1 (As := [.int v1]) (ok1_empty l hS (mm_wtT hS 2 1 h0 rfl) hk10) lk_X2_171 rfl d2_passYearOf_219 (mm_room rfl rfl) rfl (mm_wtT hS 2 1 h0 rfl) rfl rfl ?_
      refine mm_aload_n d2_passYearOf_222 rfl ?_
      refine mm_getR fl_X2_19 d2_passYearOf_223 (mm_wtR hS 101 h0 rfl rfl) ?_
      refine mm_dup d2_passYearOf_226 rfl ?_
      refine mm_getI fl_X2_134 d2_passYearOf_227 (mm_wtI hS (mm_wtT hS 2 1 h0 rfl) rfl) ?_
      refine mm_iconst (v := 1) d2_passYearOf_230 (by decide +kernel) ?_
      refine mm_iload_n d2_passYearOf_231 rfl ?_
      refine mm_ishl d2_passYearOf_232 ?_
      refine mm_iconst (v := (-1)) d2_passYearOf_233 (by decide +kernel) ?_
      refine mm_ixor d2_passYearOf_234 ?_
      refine mm_iand d2_passYearOf_235 ?_
      refine mm_putI fp_X2_134 d2_passYearOf_236 (mm_wtI hS (mm_wtT hS 2 1 h0 rfl) rfl) ?_
      refine mm_goto (tgt := 273) d2_passYearOf_239 (by decide) ?_
      refine mm_sub [] trivial ?_
      exact ok2_passYearOf_273 l hS   h
  · rw [if_neg hc1] at h
    refine mm_aload_n d2_passYearOf_76 rfl ?_
    refine mm_getR fl_X2_19 d2_passYearOf_77 (mm_wtR hS 101 h0 rfl rfl) ?_
    refine mm_getR fl_X2_81 d2_passYearOf_80 (mm_wtR hS 106 (mm_wtT hS 2 1 h0 rfl) rfl rfl) ?_
    refine mm_iload_n d2_passYearOf_83 rfl ?_
    obtain ⟨o11, hk11, h⟩ := mm_bd h
    refine mm_cVi 6 (As := [.int v1]) (ok6_at l hS (mm_wtT hS 6 6 (mm_wtT hS 2 1 h0 rfl) rfl) hk11) lk_X2_96 rfl d2_passYearOf_84 (mm_room rfl rfl) rfl (mm_wtT hS 6 6 (mm_wtT hS 2 1 h0 rfl) rfl) rfl rfl ?_
    refine mm_iload d2_passYearOf_87 rfl ?_
    refine mm_icmp_ne (tgt := 96) d2_passYearOf_89 (by decide) (fun hc12 => ?_) (fun hc12 => ?_)
    · rw [if_neg hc12] at h
      refine mm_iconst (v := 0) d2_passYearOf_96 (by decide +kernel) ?_
      refine mm_sub [(0, .ref v0), (1, .int v1), (2, .int v2), (4, .int v4)] ⟨rfl, rfl, rfl, rfl, trivial⟩ ?_
      exact ok2_passYearOf_97 l hS hrec64 h0 h
    · rw [if_pos hc12] at h
      refine mm_iconst (v := 1) d2_passYearOf_92 (by decide +kernel) ?_
      refine mm_goto (tgt := 97) d2_passYearOf_93 (by decide) ?_
      refine mm_sub [(0, .ref v0), (1, .int v1), (2, .int v2), (4, .int v4)] ⟨rfl, rfl, rfl, rfl, trivial⟩ ?_
      exact ok2_passYearOf_97 l hS hrec64 h0 h
set_option maxHeartbeats 4000000 in
set_option maxRecDepth 100000 in
theorem ok2_passYearOf_64 (l : Launch) {S : mm_Sh} (hS : mm_WT S) {n : Nat}  : ∀ (k : Nat) {v0 : Nat} {v1 : Int32} {v2 : Int32} {v4 : Int32} (h0 : mm_is S v0 2) {I : mm_I} {J : mm_J} {o : mm_I × mm_J}, f2_passYearOf_64 S n k v0 v1 v2 v4 I J = some o → mm_W l M2_passYearOf (mm_rm (mm_rk M2_passYearOf)) 0 0 S (mm_end S (mm_Qv o.1 o.2)) 64 [(0, .ref v0), (1, .int v1), (2, .int v2), (4, .int v4)] [] I J := by
  intro k
  induction k with
  | zero =>
    intros
    rename_i h
    cases h
  | succ k ih =>
    intro v0 v1 v2 v4 h0 I J o h
    exact ok2_passYearOf_64_b l hS (fun {v0 v1 v2 v4} h0 {I J o} h => ih h0 h) h0 h
set_option maxHeartbeats 4000000 in
set_option maxRecDepth 100000 in
theorem ok2_passYearOf (l : Launch) {S : mm_Sh} (hS : mm_WT S) {n : Nat}  {v0 : Nat} {v1 : Int32} (h0 : mm_is S v0 2) {I : mm_I} {J : mm_J} {o : mm_I × mm_J} (h : f2_passYearOf S n v0 v1 I J = some o) : mm_C l M2_passYearOf S [.ref v0, .int v1] I J (mm_Qv o.1 o.2) := by
  unfold f2_passYearOf at h
  refine mm_enter rfl (by decide +kernel) rfl ?_
  refine mm_aload_n d2_passYearOf_0 rfl ?_
  refine mm_getR fl_X2_19 d2_passYearOf_1 (mm_wtR hS 101 h0 rfl rfl) ?_
  refine mm_getR fl_X2_147 d2_passYearOf_4 (mm_wtR hS 106 (mm_wtT hS 2 1 h0 rfl) rfl rfl) ?_
  refine mm_iload_n d2_passYearOf_7 rfl ?_
  obtain ⟨o1, hk1, h⟩ := mm_bd h
  refine mm_cVi 6 (As := [.int v1]) (ok6_at l hS (mm_wtT hS 3 6 (mm_wtT hS 2 1 h0 rfl) rfl) hk1) lk_X2_96 rfl d2_passYearOf_8 (mm_room rfl rfl) rfl (mm_wtT hS 3 6 (mm_wtT hS 2 1 h0 rfl) rfl) rfl rfl ?_
  refine mm_istore_n d2_passYearOf_11 rfl rfl ?_
  refine mm_aload_n d2_passYearOf_12 rfl ?_
  refine mm_getR fl_X2_9 d2_passYearOf_13 (mm_wtR hS 100 h0 rfl rfl) ?_
  refine mm_getR fl_X2_150 d2_passYearOf_16 (mm_wtR hS 106 (mm_wtT hS 0 0 h0 rfl) rfl rfl) ?_
  refine mm_iload_n d2_passYearOf_19 rfl ?_
  obtain ⟨o2, hk2, h⟩ := mm_bd h
  refine mm_cVi 6 (As := [.int o1]) (ok6_at l hS (mm_wtT hS 2 6 (mm_wtT hS 0 0 h0 rfl) rfl) hk2) lk_X2_96 rfl d2_passYearOf_20 (mm_room rfl rfl) rfl (mm_wtT hS 2 6 (mm_wtT hS 0 0 h0 rfl) rfl) rfl rfl ?_
  refine mm_aload_n d2_passYearOf_23 rfl ?_
  refine mm_getR fl_X2_19 d2_passYearOf_24 (mm_wtR hS 101 h0 rfl rfl) ?_
  refine mm_iload_n d2_passYearOf_27 rfl ?_
  refine mm_iload_n d2_passYearOf_28 rfl ?_
  obtain ⟨o3, hk3, h⟩ := mm_bd h
  refine mm_cVi 1 (As := [.int v1, .int o1]) (ok1_skillOf l hS (mm_wtT hS 2 1 h0 rfl) hk3) lk_X2_119 rfl d2_passYearOf_29 (mm_room rfl rfl) rfl (mm_wtT hS 2 1 h0 rfl) rfl rfl ?_
  refine mm_imul d2_passYearOf_32 ?_
  refine mm_bipush (v := 100) d2_passYearOf_33 (by decide +kernel) ?_
  refine mm_idiv d2_passYearOf_35 (by decide) ?_
  refine mm_istore_n d2_passYearOf_36 rfl rfl ?_
  refine mm_aload_n d2_passYearOf_37 rfl ?_
  refine mm_getR fl_X2_19 d2_passYearOf_38 (mm_wtR hS 101 h0 rfl rfl) ?_
  refine mm_getR fl_X2_153 d2_passYearOf_41 (mm_wtR hS 106 (mm_wtT hS 2 1 h0 rfl) rfl rfl) ?_
  refine mm_iload_n d2_passYearOf_44 rfl ?_
  refine mm_aload_n d2_passYearOf_45 rfl ?_
  refine mm_getR fl_X2_19 d2_passYearOf_46 (mm_wtR hS 101 h0 rfl rfl) ?_
  refine mm_getR fl_X2_153 d2_passYearOf_49 (mm_wtR hS 106 (mm_wtT hS 2 1 h0 rfl) rfl rfl) ?_
  refine mm_iload_n d2_passYearOf_52 rfl ?_
  obtain ⟨o4, hk4, h⟩ := mm_bd h
  refine mm_cVi 6 (As := [.int v1]) (ok6_at l hS (mm_wtT hS 7 6 (mm_wtT hS 2 1 h0 rfl) rfl) hk4) lk_X2_96 rfl d2_passYearOf_53 (mm_room rfl rfl) rfl (mm_wtT hS 7 6 (mm_wtT hS 2 1 h0 rfl) rfl) rfl rfl ?_
  refine mm_iload_n d2_passYearOf_56 rfl ?_
  refine mm_iadd d2_passYearOf_57 ?_
  obtain ⟨o5, hk5, h⟩ := mm_bd h
  refine mm_cVv 6 (As := [.int v1, .int (o4 + ((o2 * o3) / 100))]) (ok6_put l hS (mm_wtT hS 7 6 (mm_wtT hS 2 1 h0 rfl) rfl) hk5) lk_X2_85 rfl d2_passYearOf_58 (mm_room rfl rfl) rfl (mm_wtT hS 7 6 (mm_wtT hS 2 1 h0 rfl) rfl) rfl rfl ?_
  refine mm_iconst (v := 0) d2_passYearOf_61 (by decide +kernel) ?_
  refine mm_istore d2_passYearOf_62 rfl rfl ?_
  refine mm_sub [(0, .ref v0), (1, .int v1), (2, .int o1), (4, .int 0)] ⟨rfl, rfl, rfl, rfl, trivial⟩ ?_
  exact ok2_passYearOf_64 l hS  n h0 h
set_option maxHeartbeats 4000000 in
set_option maxRecDepth 100000 in
theorem ok2_tryDrawnChange_32 (l : Launch) {S : mm_Sh} (hS : mm_WT S) {n : Nat}  {v0 : Nat} {v1 : Int32} {v2 : Int32} {s0 : Int32} (h0 : mm_is S v0 2) {I : mm_I} {J : mm_J} {o : mm_I × mm_J} (h : f2_tryDrawnChange_32 S n v0 v1 v2 s0 I J = some o) : mm_W l M2_tryDrawnChange (mm_rm (mm_rk M2_tryDrawnChange)) 0 0 S (mm_end S (mm_Qv o.1 o.2)) 32 [(0, .ref v0), (1, .int v1), (2, .int v2)] [.int s0] I J := by
  unfold f2_tryDrawnChange_32 at h
  refine mm_istore_n d2_tryDrawnChange_32 rfl rfl ?_
  refine mm_aload_n d2_tryDrawnChange_33 rfl ?_
  refine mm_iload_n d2_tryDrawnChange_34 rfl ?_
  refine mm_iload_n d2_tryDrawnChange_35 rfl ?_
  refine mm_iload_n d2_tryDrawnChange_36 rfl ?_
  refine mm_iconst (v := (-1)) d2_tryDrawnChange_37 (by decide +kernel) ?_
  obtain ⟨o1, hk1, h⟩ := mm_bd h
  refine mm_cVi 2 (As := [.int v1, .int v2, .int s0, .int (-1)]) (ok2_beginChange l hS h0 hk1) lk_X2_213 rfl d2_tryDrawnChange_38 (mm_room rfl rfl) rfl h0 rfl rfl ?_
  refine mm_pop d2_tryDrawnChange_41 rfl ?_
  have h := Option.some.inj h
  subst h
  exact mm_vret rfl d2_tryDrawnChange_42 ⟨rfl, rfl, rfl⟩
set_option maxHeartbeats 4000000 in
set_option maxRecDepth 100000 in
theorem ok2_tryDrawnChange (l : Launch) {S : mm_Sh} (hS : mm_WT S) {n : Nat}  {v0 : Nat} {v1 : Int32} (h0 : mm_is S v0 2) {I : mm_I} {J : mm_J} {o : mm_I × mm_J} (h : f2_tryDrawnChange S n v0 v1 I J = some o) : mm_C l M2_tryDrawnChange S [.ref v0, .int v1] I J (mm_Qv o.1 o.2) := by
  unfold f2_tryDrawnChange at h
  refine mm_enter rfl (by decide +kernel) rfl ?_
  refine mm_aload_n d2_tryDrawnChange_0 rfl ?_
  refine mm_getR fl_X2_19 d2_tryDrawnChange_1 (mm_wtR hS 101 h0 rfl rfl) ?_
  refine mm_aload_n d2_tryDrawnChange_4 rfl ?_
  refine mm_getR fl_X2_9 d2_tryDrawnChange_5 (mm_wtR hS 100 h0 rfl rfl) ?_
  refine mm_getI fl_X2_23 d2_tryDrawnChange_8 (mm_wtI hS (mm_wtT hS 0 0 h0 rfl) rfl) ?_
  obtain ⟨o1, hk1, h⟩ := mm_bd h
  refine mm_cVi 1 (As := [.int (I (mm_rf S v0 0) 5)]) (ok1_draw l hS (mm_wtT hS 2 1 h0 rfl) hk1) lk_X2_137 rfl d2_tryDrawnChange_11 (mm_room rfl rfl) rfl (mm_wtT hS 2 1 h0 rfl) rfl rfl ?_
  refine mm_istore_n d2_tryDrawnChange_14 rfl rfl ?_
  refine mm_aload_n d2_tryDrawnChange_15 rfl ?_
  refine mm_iload_n d2_tryDrawnChange_16 rfl ?_
  obtain ⟨o2, hk2, h⟩ := mm_bd h
  refine mm_cVi 2 (As := [.int v1]) (ok2_hasRoom l hS h0 hk2) lk_X2_60 rfl d2_tryDrawnChange_17 (mm_room rfl rfl) rfl h0 rfl rfl ?_
  refine mm_if_eq (tgt := 27) d2_tryDrawnChange_20 (by decide) (fun hc3 => ?_) (fun hc3 => ?_)
  · rw [if_pos hc3] at h
    refine mm_aload_n d2_tryDrawnChange_27 rfl ?_
    refine mm_iload_n d2_tryDrawnChange_28 rfl ?_
    obtain ⟨o4, hk4, h⟩ := mm_bd h
    refine mm_cVi 2 (As := [.int v1]) (ok2_leastLiked l hS h0 hk4) lk_X2_210 rfl d2_tryDrawnChange_29 (mm_room rfl rfl) rfl h0 rfl rfl ?_
    refine mm_sub [(0, .ref v0), (1, .int v1), (2, .int o1.1)] ⟨rfl, rfl, rfl, trivial⟩ ?_
    exact ok2_tryDrawnChange_32 l hS  h0 h
  · rw [if_neg hc3] at h
    refine mm_iconst (v := (-1)) d2_tryDrawnChange_23 (by decide +kernel) ?_
    refine mm_goto (tgt := 32) d2_tryDrawnChange_24 (by decide) ?_
    refine mm_sub [(0, .ref v0), (1, .int v1), (2, .int o1.1)] ⟨rfl, rfl, rfl, trivial⟩ ?_
    exact ok2_tryDrawnChange_32 l hS  h0 h
set_option maxHeartbeats 4000000 in
set_option maxRecDepth 100000 in
theorem ok3_solve (l : Launch) {S : mm_Sh} (hS : mm_WT S) {n : Nat}  {v0 : Nat} (h0 : mm_is S v0 3) {I : mm_I} {J : mm_J} {o : Int32 × mm_I × mm_J} (h : f3_solve S n v0 I J = some o) : mm_C l M3_solve S [.ref v0] I J (mm_Qi o.1 o.2.1 o.2.2) := by
  unfold f3_solve at h
  refine mm_enter rfl (by decide +kernel) rfl ?_
  refine mm_aload_n d3_solve_0 rfl ?_
  refine mm_getR fl_X3_26 d3_solve_1 (mm_wtR hS 106 h0 rfl rfl) ?_
  refine mm_iconst (v := (-1)) d3_solve_4 (by decide +kernel) ?_
  obtain ⟨o1, hk1, h⟩ := mm_bd h
  refine mm_cVv 6 (As := [.int (-1)]) (ok6_fill l hS (mm_wtT hS 6 6 h0 rfl) hk1) lk_X3_44 rfl d3_solve_5 (mm_room rfl rfl) rfl (mm_wtT hS 6 6 h0 rfl) rfl rfl ?_
  refine mm_aload_n d3_solve_8 rfl ?_
  obtain ⟨o2, hk2, h⟩ := mm_bd h
  refine mm_cVi 3 (As := []) (ok3_wantedInAll l hS h0 hk2) lk_X3_47 rfl d3_solve_9 (mm_room rfl rfl) rfl h0 rfl rfl ?_
  refine mm_aload_n d3_solve_12 rfl ?_
  refine mm_getR fl_X3_37 d3_solve_13 (mm_wtR hS 101 h0 rfl rfl) ?_
  refine mm_getI fl_X3_51 d3_solve_16 (mm_wtI hS (mm_wtT hS 1 1 h0 rfl) rfl) ?_
  obtain ⟨o3, hk3, h⟩ := mm_bd h
  refine mm_cSi (As := [.int (o1.1 (mm_rf S v0 1) 8)]) (okJ6_bitCount l hS hk3) lk_X3_56 rfl d3_solve_19 (mm_room rfl rfl) rfl rfl ?_
  refine mm_icmp_le (tgt := 27) d3_solve_22 (by decide) (fun hc4 => ?_) (fun hc4 => ?_)
  · rw [if_pos hc4] at h
    refine mm_aload_n d3_solve_27 rfl ?_
    obtain ⟨o5, hk5, h⟩ := mm_bd h
    refine mm_cVv 3 (As := []) (ok3_countStates l hS h0 hk5) lk_X3_62 rfl d3_solve_28 (mm_room rfl rfl) rfl h0 rfl rfl ?_
    refine mm_aload_n d3_solve_31 rfl ?_
    obtain ⟨o6, hk6, h⟩ := mm_bd h
    refine mm_cVv 3 (As := []) (ok3_fillCosts l hS h0 hk6) lk_X3_65 rfl d3_solve_32 (mm_room rfl rfl) rfl h0 rfl rfl ?_
    refine mm_aload_n d3_solve_35 rfl ?_
    obtain ⟨o7, hk7, h⟩ := mm_bd h
    refine mm_cVv 3 (As := []) (ok3_fillSums l hS h0 hk7) lk_X3_68 rfl d3_solve_36 (mm_room rfl rfl) rfl h0 rfl rfl ?_
    refine mm_aload_n d3_solve_39 rfl ?_
    refine mm_getR fl_X3_23 d3_solve_40 (mm_wtR hS 106 h0 rfl rfl) ?_
    refine mm_aload_n d3_solve_43 rfl ?_
    refine mm_getI fl_X3_29 d3_solve_44 (mm_wtI hS h0 rfl) ?_
    refine mm_iconst (v := 1) d3_solve_47 (by decide +kernel) ?_
    refine mm_isub d3_solve_48 ?_
    obtain ⟨o8, hk8, h⟩ := mm_bd h
    refine mm_cVi 6 (As := [.int ((o7.1 v0 7) - 1)]) (ok6_at l hS (mm_wtT hS 5 6 h0 rfl) hk8) lk_X3_71 rfl d3_solve_49 (mm_room rfl rfl) rfl (mm_wtT hS 5 6 h0 rfl) rfl rfl ?_
    refine mm_istore_n d3_solve_52 rfl rfl ?_
    refine mm_iload_n d3_solve_53 rfl ?_
    refine mm_ldc (v := 1000000) d3_solve_54 kX3_74 ?_
    refine mm_icmp_lt (tgt := 61) d3_solve_56 (by decide) (fun hc9 => ?_) (fun hc9 => ?_)
    · rw [if_pos hc9] at h
      refine mm_aload_n d3_solve_61 rfl ?_
      obtain ⟨o10, hk10, h⟩ := mm_bd h
      refine mm_cVv 3 (As := []) (ok3_giveTrades l hS h0 hk10) lk_X3_75 rfl d3_solve_62 (mm_room rfl rfl) rfl h0 rfl rfl ?_
      refine mm_iload_n d3_solve_65 rfl ?_
      have h := Option.some.inj h
      subst h
      exact mm_iret rfl d3_solve_66 ⟨rfl, rfl, rfl⟩
    · rw [if_neg hc9] at h
      refine mm_iconst (v := (-1)) d3_solve_59 (by decide +kernel) ?_
      have h := Option.some.inj h
      subst h
      exact mm_iret rfl d3_solve_60 ⟨rfl, rfl, rfl⟩
  · rw [if_neg hc4] at h
    refine mm_iconst (v := (-1)) d3_solve_25 (by decide +kernel) ?_
    have h := Option.some.inj h
    subst h
    exact mm_iret rfl d3_solve_26 ⟨rfl, rfl, rfl⟩
set_option maxHeartbeats 4000000 in
set_option maxRecDepth 100000 in
theorem ok4_sees_24 (l : Launch) {S : mm_Sh} (hS : mm_WT S) {n : Nat}    {I : mm_I} {J : mm_J} {o : Int32} (h : f4_sees_24 S n  I J = some o) : mm_W l M4_sees (mm_rm (mm_rk M4_sees)) 0 0 S (mm_end S (mm_Qi o I J)) 24 [] [] I J := by
  unfold f4_sees_24 at h
  refine mm_iconst (v := 0) d4_sees_24 (by decide +kernel) ?_
  have h := Option.some.inj h
  subst h
  exact mm_zret rfl d4_sees_25 (by decide) ⟨rfl, rfl, rfl⟩
set_option maxHeartbeats 4000000 in
set_option maxRecDepth 100000 in
theorem ok4_sees_28_b (l : Launch) {S : mm_Sh} (hS : mm_WT S) {n : Nat}  {rec28 : Nat → Nat → Int32 → mm_I → mm_J → Option (Int32)} (hrec28 : ∀ {v0 : Nat} {v1 : Nat} {v2 : Int32} (_ : mm_is S v0 4) (_ : mm_isS v1) {I : mm_I} {J : mm_J} {o : Int32}, rec28 v0 v1 v2 I J = some o → mm_W l M4_sees (mm_rm (mm_rk M4_sees)) 0 0 S (mm_end S (mm_Qi o I J)) 28 [(0, .ref v0), (1, .ref v1), (2, .int v2)] [] I J) {v0 : Nat} {v1 : Nat} {v2 : Int32} (h0 : mm_is S v0 4) (h1 : mm_isS v1) {I : mm_I} {J : mm_J} {o : Int32} (h : f4_sees_28_b S n rec28 v0 v1 v2 I J = some o) : mm_W l M4_sees (mm_rm (mm_rk M4_sees)) 0 0 S (mm_end S (mm_Qi o I J)) 28 [(0, .ref v0), (1, .ref v1), (2, .int v2)] [] I J := by
  unfold f4_sees_28_b at h
  refine mm_iload_n d4_sees_28 rfl ?_
  refine mm_aload_n d4_sees_29 rfl ?_
  obtain ⟨o1, hk1, h⟩ := mm_bd h
  refine mm_cT (As := []) (okJ0_length l h1 hk1) lk_X4_53 rfl d4_sees_30 (mm_room rfl rfl) h1 rfl rfl rfl ?_
  refine mm_icmp_ge (tgt := 65) d4_sees_33 (by decide) (fun hc2 => ?_) (fun hc2 => ?_)
  · rw [if_pos hc2] at h
    refine mm_iconst (v := 1) d4_sees_65 (by decide +kernel) ?_
    have h := Option.some.inj h
    subst h
    exact mm_zret rfl d4_sees_66 (by decide) ⟨rfl, rfl, rfl⟩
  · rw [if_neg hc2] at h
    refine mm_aload_n d4_sees_36 rfl ?_
    refine mm_getR fl_X4_14 d4_sees_37 (mm_wtR hS 106 h0 rfl rfl) ?_
    refine mm_aload_n d4_sees_40 rfl ?_
    refine mm_getI fl_X4_27 d4_sees_41 (mm_wtI hS h0 rfl) ?_
    refine mm_iload_n d4_sees_44 rfl ?_
    refine mm_iadd d4_sees_45 ?_
    obtain ⟨o3, hk3, h⟩ := mm_bd h
    refine mm_cVi 6 (As := [.int ((I v0 3) + v2)]) (ok6_at l hS (mm_wtT hS 0 6 h0 rfl) hk3) lk_X4_46 rfl d4_sees_46 (mm_room rfl rfl) rfl (mm_wtT hS 0 6 h0 rfl) rfl rfl ?_
    refine mm_aload_n d4_sees_49 rfl ?_
    refine mm_iload_n d4_sees_50 rfl ?_
    obtain ⟨o4, hk4, h⟩ := mm_bd h
    refine mm_cT (As := [.int v2]) (okJ0_charAt l h1 hk4) lk_X4_58 rfl d4_sees_51 (mm_room rfl rfl) h1 rfl rfl rfl ?_
    refine mm_icmp_eq (tgt := 59) d4_sees_54 (by decide) (fun hc5 => ?_) (fun hc5 => ?_)
    · rw [if_pos hc5] at h
      refine mm_iinc (v := v2 + 1) d4_sees_59 rfl rfl rfl rfl ?_
      refine mm_goto (tgt := 28) d4_sees_62 (by decide) ?_
      refine mm_sub [(0, .ref v0), (1, .ref v1), (2, .int (v2 + 1))] ⟨rfl, rfl, rfl, trivial⟩ ?_
      exact hrec28 h0 h1 h
    · rw [if_neg hc5] at h
      refine mm_iconst (v := 0) d4_sees_57 (by decide +kernel) ?_
      have h := Option.some.inj h
      subst h
      exact mm_zret rfl d4_sees_58 (by decide) ⟨rfl, rfl, rfl⟩
set_option maxHeartbeats 4000000 in
set_option maxRecDepth 100000 in
theorem ok4_sees_28 (l : Launch) {S : mm_Sh} (hS : mm_WT S) {n : Nat}  : ∀ (k : Nat) {v0 : Nat} {v1 : Nat} {v2 : Int32} (h0 : mm_is S v0 4) (h1 : mm_isS v1) {I : mm_I} {J : mm_J} {o : Int32}, f4_sees_28 S n k v0 v1 v2 I J = some o → mm_W l M4_sees (mm_rm (mm_rk M4_sees)) 0 0 S (mm_end S (mm_Qi o I J)) 28 [(0, .ref v0), (1, .ref v1), (2, .int v2)] [] I J := by
  intro k
  induction k with
  | zero =>
    intros
    rename_i h
    cases h
  | succ k ih =>
    intro v0 v1 v2 h0 h1 I J o h
    exact ok4_sees_28_b l hS (fun {v0 v1 v2} h0 h1 {I J o} h => ih h0 h1 h) h0 h1 h
set_option maxHeartbeats 4000000 in
set_option maxRecDepth 100000 in
theorem ok4_sees (l : Launch) {S : mm_Sh} (hS : mm_WT S) {n : Nat}  {v0 : Nat} {v1 : Nat} (h0 : mm_is S v0 4) (h1 : mm_isS v1) {I : mm_I} {J : mm_J} {o : Int32} (h : f4_sees S n v0 v1 I J = some o) : mm_C l M4_sees S [.ref v0, .ref v1] I J (mm_Qi o I J) := by
  unfold f4_sees at h
  refine mm_enter rfl (by decide +kernel) rfl ?_
  refine mm_aload_n d4_sees_0 rfl ?_
  refine mm_getI fl_X4_24 d4_sees_1 (mm_wtI hS h0 rfl) ?_
  refine mm_iconst (v := 1) d4_sees_4 (by decide +kernel) ?_
  refine mm_icmp_ne (tgt := 24) d4_sees_5 (by decide) (fun hc1 => ?_) (fun hc1 => ?_)
  · rw [if_neg hc1] at h
    refine mm_sub [] trivial ?_
    exact ok4_sees_24 l hS   h
  · rw [if_pos hc1] at h
    refine mm_aload_n d4_sees_8 rfl ?_
    refine mm_getI fl_X4_30 d4_sees_9 (mm_wtI hS h0 rfl) ?_
    refine mm_aload_n d4_sees_12 rfl ?_
    refine mm_getI fl_X4_27 d4_sees_13 (mm_wtI hS h0 rfl) ?_
    refine mm_isub d4_sees_16 ?_
    refine mm_aload_n d4_sees_17 rfl ?_
    obtain ⟨o2, hk2, h⟩ := mm_bd h
    refine mm_cT (As := []) (okJ0_length l h1 hk2) lk_X4_53 rfl d4_sees_18 (mm_room rfl rfl) h1 rfl rfl rfl ?_
    refine mm_icmp_eq (tgt := 26) d4_sees_21 (by decide) (fun hc3 => ?_) (fun hc3 => ?_)
    · rw [if_pos hc3] at h
      refine mm_iconst (v := 0) d4_sees_26 (by decide +kernel) ?_
      refine mm_istore_n d4_sees_27 rfl rfl ?_
      refine mm_sub [(0, .ref v0), (1, .ref v1), (2, .int 0)] ⟨rfl, rfl, rfl, trivial⟩ ?_
      exact ok4_sees_28 l hS  n h0 h1 h
    · rw [if_neg hc3] at h
      refine mm_sub [] trivial ?_
      exact ok4_sees_24 l hS   h
set_option maxHeartbeats 4000000 in
set_option maxRecDepth 100000 in
theorem ok8_countFits_91 (l : Launch) {S : mm_Sh} (hS : mm_WT S) {n : Nat}  {rec50 : Nat → Int32 → Nat → Int32 → mm_I → mm_J → Option (mm_I × mm_J)} (hrec50 : ∀ {v0 : Nat} {v1 : Int32} {v2 : Nat} {v3 : Int32} (_ : mm_is S v0 8) (_ : mm_is S v2 1) {I : mm_I} {J : mm_J} {o : mm_I × mm_J}, rec50 v0 v1 v2 v3 I J = some o → mm_W l M8_countFits (mm_rm (mm_rk M8_countFits)) 0 0 S (mm_end S (mm_Qv o.1 o.2)) 50 [(0, .ref v0), (1, .int v1), (2, .ref v2), (3, .int v3)] [] I J) {v0 : Nat} {v1 : Int32} {v2 : Nat} {v3 : Int32} (h0 : mm_is S v0 8) (h2 : mm_is S v2 1) {I : mm_I} {J : mm_J} {o : mm_I × mm_J} (h : f8_countFits_91 S n rec50 v0 v1 v2 v3 I J = some o) : mm_W l M8_countFits (mm_rm (mm_rk M8_countFits)) 0 0 S (mm_end S (mm_Qv o.1 o.2)) 91 [(0, .ref v0), (1, .int v1), (2, .ref v2), (3, .int v3)] [] I J := by
  unfold f8_countFits_91 at h
  refine mm_iinc (v := v3 + 1) d8_countFits_91 rfl rfl rfl rfl ?_
  refine mm_goto (tgt := 50) d8_countFits_94 (by decide) ?_
  refine mm_sub [(0, .ref v0), (1, .int v1), (2, .ref v2), (3, .int (v3 + 1))] ⟨rfl, rfl, rfl, rfl, trivial⟩ ?_
  exact hrec50 h0 h2 h
set_option maxHeartbeats 4000000 in
set_option maxRecDepth 100000 in
theorem ok8_countFits_50_b (l : Launch) {S : mm_Sh} (hS : mm_WT S) {n : Nat}  {rec50 : Nat → Int32 → Nat → Int32 → mm_I → mm_J → Option (mm_I × mm_J)} (hrec50 : ∀ {v0 : Nat} {v1 : Int32} {v2 : Nat} {v3 : Int32} (_ : mm_is S v0 8) (_ : mm_is S v2 1) {I : mm_I} {J : mm_J} {o : mm_I × mm_J}, rec50 v0 v1 v2 v3 I J = some o → mm_W l M8_countFits (mm_rm (mm_rk M8_countFits)) 0 0 S (mm_end S (mm_Qv o.1 o.2)) 50 [(0, .ref v0), (1, .int v1), (2, .ref v2), (3, .int v3)] [] I J) {v0 : Nat} {v1 : Int32} {v2 : Nat} {v3 : Int32} (h0 : mm_is S v0 8) (h2 : mm_is S v2 1) {I : mm_I} {J : mm_J} {o : mm_I × mm_J} (h : f8_countFits_50_b S n rec50 v0 v1 v2 v3 I J = some o) : mm_W l M8_countFits (mm_rm (mm_rk M8_countFits)) 0 0 S (mm_end S (mm_Qv o.1 o.2)) 50 [(0, .ref v0), (1, .int v1), (2, .ref v2), (3, .int v3)] [] I J := by
  unfold f8_countFits_50_b at h
  refine mm_iload_n d8_countFits_50 rfl ?_
  refine mm_sipush (v := 256) d8_countFits_51 (by decide +kernel) ?_
  refine mm_icmp_ge (tgt := 97) d8_countFits_54 (by decide) (fun hc1 => ?_) (fun hc1 => ?_)
  · rw [if_pos hc1] at h
    have h := Option.some.inj h
    subst h
    exact mm_vret rfl d8_countFits_97 ⟨rfl, rfl, rfl⟩
  · rw [if_neg hc1] at h
    refine mm_iload_n d8_countFits_57 rfl ?_
    refine mm_aload_n d8_countFits_58 rfl ?_
    refine mm_getI fl_X8_69 d8_countFits_59 (mm_wtI hS h2 rfl) ?_
    refine mm_iconst (v := (-1)) d8_countFits_62 (by decide +kernel) ?_
    refine mm_ixor d8_countFits_63 ?_
    refine mm_iand d8_countFits_64 ?_
    refine mm_if_ne (tgt := 91) d8_countFits_65 (by decide) (fun hc2 => ?_) (fun hc2 => ?_)
    · rw [if_neg hc2] at h
      refine mm_sub [(0, .ref v0), (1, .int v1), (2, .ref v2), (3, .int v3)] ⟨rfl, rfl, rfl, rfl, trivial⟩ ?_
      exact ok8_countFits_91 l hS hrec50 h0 h2 h
    · rw [if_pos hc2] at h
      refine mm_iload_n d8_countFits_68 rfl ?_
      obtain ⟨o3, hk3, h⟩ := mm_bd h
      refine mm_cSi (As := [.int v3]) (okJ6_bitCount l hS hk3) lk_X8_72 rfl d8_countFits_69 (mm_room rfl rfl) rfl rfl ?_
      refine mm_iload_n d8_countFits_72 rfl ?_
      refine mm_icmp_ne (tgt := 91) d8_countFits_73 (by decide) (fun hc4 => ?_) (fun hc4 => ?_)
      · rw [if_neg hc4] at h
        refine mm_sub [(0, .ref v0), (1, .int v1), (2, .ref v2), (3, .int v3)] ⟨rfl, rfl, rfl, rfl, trivial⟩ ?_
        exact ok8_countFits_91 l hS hrec50 h0 h2 h
      · rw [if_pos hc4] at h
        refine mm_aload_n d8_countFits_76 rfl ?_
        refine mm_dup d8_countFits_77 rfl ?_
        refine mm_getI fl_X8_45 d8_countFits_78 (mm_wtI hS h0 rfl) ?_
        refine mm_iconst (v := 1) d8_countFits_81 (by decide +kernel) ?_
        refine mm_iadd d8_countFits_82 ?_
        refine mm_putI fp_X8_45 d8_countFits_83 (mm_wtI hS h0 rfl) ?_
        refine mm_aload_n d8_countFits_86 rfl ?_
        refine mm_iload_n d8_countFits_87 rfl ?_
        obtain ⟨o5, hk5, h⟩ := mm_bd h
        refine mm_cVv 8 (As := [.int v3]) (ok8_countIfFit l hS h0 hk5) lk_X8_77 rfl d8_countFits_88 (mm_room rfl rfl) rfl h0 rfl rfl ?_
        refine mm_sub [(0, .ref v0), (1, .int v1), (2, .ref v2), (3, .int v3)] ⟨rfl, rfl, rfl, rfl, trivial⟩ ?_
        exact ok8_countFits_91 l hS hrec50 h0 h2 h
set_option maxHeartbeats 4000000 in
set_option maxRecDepth 100000 in
theorem ok8_countFits_50 (l : Launch) {S : mm_Sh} (hS : mm_WT S) {n : Nat}  : ∀ (k : Nat) {v0 : Nat} {v1 : Int32} {v2 : Nat} {v3 : Int32} (h0 : mm_is S v0 8) (h2 : mm_is S v2 1) {I : mm_I} {J : mm_J} {o : mm_I × mm_J}, f8_countFits_50 S n k v0 v1 v2 v3 I J = some o → mm_W l M8_countFits (mm_rm (mm_rk M8_countFits)) 0 0 S (mm_end S (mm_Qv o.1 o.2)) 50 [(0, .ref v0), (1, .int v1), (2, .ref v2), (3, .int v3)] [] I J := by
  intro k
  induction k with
  | zero =>
    intros
    rename_i h
    cases h
  | succ k ih =>
    intro v0 v1 v2 v3 h0 h2 I J o h
    exact ok8_countFits_50_b l hS (fun {v0 v1 v2 v3} h0 h2 {I J o} h => ih h0 h2 h) h0 h2 h
set_option maxHeartbeats 4000000 in
set_option maxRecDepth 100000 in
theorem ok8_countFits_2_b (l : Launch) {S : mm_Sh} (hS : mm_WT S) {n : Nat}  {rec2 : Nat → Int32 → Nat → Int32 → mm_I → mm_J → Option (mm_I × mm_J)} (hrec2 : ∀ {v0 : Nat} {v1 : Int32} {v2 : Nat} {v3 : Int32} (_ : mm_is S v0 8) (_ : mm_is S v2 1) {I : mm_I} {J : mm_J} {o : mm_I × mm_J}, rec2 v0 v1 v2 v3 I J = some o → mm_W l M8_countFits (mm_rm (mm_rk M8_countFits)) 0 0 S (mm_end S (mm_Qv o.1 o.2)) 2 [(0, .ref v0), (1, .int v1), (2, .ref v2), (3, .int v3)] [] I J) {v0 : Nat} {v1 : Int32} {v2 : Nat} {v3 : Int32} (h0 : mm_is S v0 8) (h2 : mm_is S v2 1) {I : mm_I} {J : mm_J} {o : mm_I × mm_J} (h : f8_countFits_2_b S n rec2 v0 v1 v2 v3 I J = some o) : mm_W l M8_countFits (mm_rm (mm_rk M8_countFits)) 0 0 S (mm_end S (mm_Qv o.1 o.2)) 2 [(0, .ref v0), (1, .int v1), (2, .ref v2), (3, .int v3)] [] I J := by
  unfold f8_countFits_2_b at h
  refine mm_iload_n d8_countFits_2 rfl ?_
  refine mm_aload_n d8_countFits_3 rfl ?_
  refine mm_getI fl_X8_35 d8_countFits_4 (mm_wtI hS h0 rfl) ?_
  refine mm_icmp_ge (tgt := 30) d8_countFits_7 (by decide) (fun hc1 => ?_) (fun hc1 => ?_)
  · rw [if_pos hc1] at h
    refine mm_aload_n d8_countFits_30 rfl ?_
    refine mm_iconst (v := 0) d8_countFits_31 (by decide +kernel) ?_
    refine mm_putI fp_X8_42 d8_countFits_32 (mm_wtI hS h0 rfl) ?_
    refine mm_aload_n d8_countFits_35 rfl ?_
    refine mm_iconst (v := 0) d8_countFits_36 (by decide +kernel) ?_
    refine mm_putI fp_X8_45 d8_countFits_37 (mm_wtI hS h0 rfl) ?_
    refine mm_aload_n d8_countFits_40 rfl ?_
    refine mm_aload_n d8_countFits_41 rfl ?_
    refine mm_getI fl_X8_69 d8_countFits_42 (mm_wtI hS h2 rfl) ?_
    refine mm_putI fp_X8_48 d8_countFits_45 (mm_wtI hS h0 rfl) ?_
    refine mm_iconst (v := 0) d8_countFits_48 (by decide +kernel) ?_
    refine mm_istore_n d8_countFits_49 rfl rfl ?_
    refine mm_sub [(0, .ref v0), (1, .int v1), (2, .ref v2), (3, .int 0)] ⟨rfl, rfl, rfl, rfl, trivial⟩ ?_
    exact ok8_countFits_50 l hS  n h0 h2 h
  · rw [if_neg hc1] at h
    refine mm_aload_n d8_countFits_10 rfl ?_
    refine mm_getR fl_X8_23 d8_countFits_11 (mm_wtR hS 106 h0 rfl rfl) ?_
    refine mm_iload_n d8_countFits_14 rfl ?_
    refine mm_aload_n d8_countFits_15 rfl ?_
    refine mm_iload_n d8_countFits_16 rfl ?_
    refine mm_aload_n d8_countFits_17 rfl ?_
    obtain ⟨o2, hk2, h⟩ := mm_bd h
    refine mm_cVi 8 (As := [.int v3, .ref v2]) (ok8_makersOf l hS h0 h2 hk2) lk_X8_65 rfl d8_countFits_18 (mm_room rfl rfl) rfl h0 rfl rfl ?_
    obtain ⟨o3, hk3, h⟩ := mm_bd h
    refine mm_cVv 6 (As := [.int v3, .int o2]) (ok6_put l hS (mm_wtT hS 2 6 h0 rfl) hk3) lk_X8_51 rfl d8_countFits_21 (mm_room rfl rfl) rfl (mm_wtT hS 2 6 h0 rfl) rfl rfl ?_
    refine mm_iinc (v := v3 + 1) d8_countFits_24 rfl rfl rfl rfl ?_
    refine mm_goto (tgt := 2) d8_countFits_27 (by decide) ?_
    refine mm_sub [(0, .ref v0), (1, .int v1), (2, .ref v2), (3, .int (v3 + 1))] ⟨rfl, rfl, rfl, rfl, trivial⟩ ?_
    exact hrec2 h0 h2 h
set_option maxHeartbeats 4000000 in
set_option maxRecDepth 100000 in
theorem ok8_countFits_2 (l : Launch) {S : mm_Sh} (hS : mm_WT S) {n : Nat}  : ∀ (k : Nat) {v0 : Nat} {v1 : Int32} {v2 : Nat} {v3 : Int32} (h0 : mm_is S v0 8) (h2 : mm_is S v2 1) {I : mm_I} {J : mm_J} {o : mm_I × mm_J}, f8_countFits_2 S n k v0 v1 v2 v3 I J = some o → mm_W l M8_countFits (mm_rm (mm_rk M8_countFits)) 0 0 S (mm_end S (mm_Qv o.1 o.2)) 2 [(0, .ref v0), (1, .int v1), (2, .ref v2), (3, .int v3)] [] I J := by
  intro k
  induction k with
  | zero =>
    intros
    rename_i h
    cases h
  | succ k ih =>
    intro v0 v1 v2 v3 h0 h2 I J o h
    exact ok8_countFits_2_b l hS (fun {v0 v1 v2 v3} h0 h2 {I J o} h => ih h0 h2 h) h0 h2 h
set_option maxHeartbeats 4000000 in
set_option maxRecDepth 100000 in
theorem ok8_countFits (l : Launch) {S : mm_Sh} (hS : mm_WT S) {n : Nat}  {v0 : Nat} {v1 : Int32} {v2 : Nat} (h0 : mm_is S v0 8) (h2 : mm_is S v2 1) {I : mm_I} {J : mm_J} {o : mm_I × mm_J} (h : f8_countFits S n v0 v1 v2 I J = some o) : mm_C l M8_countFits S [.ref v0, .int v1, .ref v2] I J (mm_Qv o.1 o.2) := by
  unfold f8_countFits at h
  refine mm_enter rfl (by decide +kernel) rfl ?_
  refine mm_iconst (v := 0) d8_countFits_0 (by decide +kernel) ?_
  refine mm_istore_n d8_countFits_1 rfl rfl ?_
  refine mm_sub [(0, .ref v0), (1, .int v1), (2, .ref v2), (3, .int 0)] ⟨rfl, rfl, rfl, rfl, trivial⟩ ?_
  exact ok8_countFits_2 l hS  n h0 h2 h
set_option maxHeartbeats 4000000 in
set_option maxRecDepth 100000 in
theorem ok9_tellPerson_91 (l : Launch) {S : mm_Sh} (hS : mm_WT S) {n : Nat}  {v0 : Nat} {v1 : Int32} (h0 : mm_is S v0 9) {I : mm_I} {J : mm_J} {o : mm_I × mm_J} (h : f9_tellPerson_91 S n v0 v1 I J = some o) : mm_W l M9_tellPerson (mm_rm (mm_rk M9_tellPerson)) 0 0 S (mm_end S (mm_Qv o.1 o.2)) 91 [(0, .ref v0), (1, .int v1)] [] I J := by
  unfold f9_tellPerson_91 at h
  refine mm_aload_n d9_tellPerson_91 rfl ?_
  refine mm_getR fl_X9_27 d9_tellPerson_92 (mm_wtR hS 101 h0 rfl rfl) ?_
  refine mm_dup d9_tellPerson_95 rfl ?_
  refine mm_getI fl_X9_132 d9_tellPerson_96 (mm_wtI hS (mm_wtT hS 2 1 h0 rfl) rfl) ?_
  refine mm_iconst (v := 1) d9_tellPerson_99 (by decide +kernel) ?_
  refine mm_iload_n d9_tellPerson_100 rfl ?_
  refine mm_ishl d9_tellPerson_101 ?_
  refine mm_ior d9_tellPerson_102 ?_
  refine mm_putI fp_X9_132 d9_tellPerson_103 (mm_wtI hS (mm_wtT hS 2 1 h0 rfl) rfl) ?_
  refine mm_aload_n d9_tellPerson_106 rfl ?_
  refine mm_getR fl_X9_27 d9_tellPerson_107 (mm_wtR hS 101 h0 rfl rfl) ?_
  refine mm_getR fl_X9_135 d9_tellPerson_110 (mm_wtR hS 106 (mm_wtT hS 2 1 h0 rfl) rfl rfl) ?_
  refine mm_iload_n d9_tellPerson_113 rfl ?_
  refine mm_aload_n d9_tellPerson_114 rfl ?_
  refine mm_getR fl_X9_27 d9_tellPerson_115 (mm_wtR hS 101 h0 rfl rfl) ?_
  refine mm_iload_n d9_tellPerson_118 rfl ?_
  obtain ⟨o1, hk1, h⟩ := mm_bd h
  refine mm_cVi 1 (As := [.int v1]) (ok1_bestOf l hS (mm_wtT hS 2 1 h0 rfl) hk1) lk_X9_138 rfl d9_tellPerson_119 (mm_room rfl rfl) rfl (mm_wtT hS 2 1 h0 rfl) rfl rfl ?_
  obtain ⟨o2, hk2, h⟩ := mm_bd h
  refine mm_cVv 6 (As := [.int v1, .int o1]) (ok6_put l hS (mm_wtT hS 3 6 (mm_wtT hS 2 1 h0 rfl) rfl) hk2) lk_X9_95 rfl d9_tellPerson_122 (mm_room rfl rfl) rfl (mm_wtT hS 3 6 (mm_wtT hS 2 1 h0 rfl) rfl) rfl rfl ?_
  refine mm_aload_n d9_tellPerson_125 rfl ?_
  refine mm_getR fl_X9_23 d9_tellPerson_126 (mm_wtR hS 100 h0 rfl rfl) ?_
  refine mm_dup d9_tellPerson_129 rfl ?_
  refine mm_getI fl_X9_54 d9_tellPerson_130 (mm_wtI hS (mm_wtT hS 1 0 h0 rfl) rfl) ?_
  refine mm_iconst (v := 1) d9_tellPerson_133 (by decide +kernel) ?_
  refine mm_iadd d9_tellPerson_134 ?_
  refine mm_putI fp_X9_54 d9_tellPerson_135 (mm_wtI hS (mm_wtT hS 1 0 h0 rfl) rfl) ?_
  have h := Option.some.inj h
  subst h
  exact mm_vret rfl d9_tellPerson_138 ⟨rfl, rfl, rfl⟩
set_option maxHeartbeats 4000000 in
set_option maxRecDepth 100000 in
theorem ok9_tellPerson_52_b (l : Launch) {S : mm_Sh} (hS : mm_WT S) {n : Nat}  {rec52 : Nat → Int32 → Int32 → mm_I → mm_J → Option (mm_I × mm_J)} (hrec52 : ∀ {v0 : Nat} {v1 : Int32} {v2 : Int32} (_ : mm_is S v0 9) {I : mm_I} {J : mm_J} {o : mm_I × mm_J}, rec52 v0 v1 v2 I J = some o → mm_W l M9_tellPerson (mm_rm (mm_rk M9_tellPerson)) 0 0 S (mm_end S (mm_Qv o.1 o.2)) 52 [(0, .ref v0), (1, .int v1), (2, .int v2)] [] I J) {v0 : Nat} {v1 : Int32} {v2 : Int32} (h0 : mm_is S v0 9) {I : mm_I} {J : mm_J} {o : mm_I × mm_J} (h : f9_tellPerson_52_b S n rec52 v0 v1 v2 I J = some o) : mm_W l M9_tellPerson (mm_rm (mm_rk M9_tellPerson)) 0 0 S (mm_end S (mm_Qv o.1 o.2)) 52 [(0, .ref v0), (1, .int v1), (2, .int v2)] [] I J := by
  unfold f9_tellPerson_52_b at h
  refine mm_iload_n d9_tellPerson_52 rfl ?_
  refine mm_sipush (v := 500) d9_tellPerson_53 (by decide +kernel) ?_
  refine mm_icmp_ge (tgt := 91) d9_tellPerson_56 (by decide) (fun hc1 => ?_) (fun hc1 => ?_)
  · rw [if_pos hc1] at h
    refine mm_sub [(0, .ref v0), (1, .int v1)] ⟨rfl, rfl, trivial⟩ ?_
    exact ok9_tellPerson_91 l hS  h0 h
  · rw [if_neg hc1] at h
    refine mm_aload_n d9_tellPerson_59 rfl ?_
    refine mm_getR fl_X9_19 d9_tellPerson_60 (mm_wtR hS 104 h0 rfl rfl) ?_
    obtain ⟨o2, hk2, h⟩ := mm_bd h
    refine mm_cVi 4 (As := []) (ok4_isSound l hS (mm_wtT hS 0 4 h0 rfl) hk2) lk_X9_39 rfl d9_tellPerson_63 (mm_room rfl rfl) rfl (mm_wtT hS 0 4 h0 rfl) rfl rfl ?_
    refine mm_if_eq (tgt := 91) d9_tellPerson_66 (by decide) (fun hc3 => ?_) (fun hc3 => ?_)
    · rw [if_pos hc3] at h
      refine mm_sub [(0, .ref v0), (1, .int v1)] ⟨rfl, rfl, trivial⟩ ?_
      exact ok9_tellPerson_91 l hS  h0 h
    · rw [if_neg hc3] at h
      refine mm_aload_n d9_tellPerson_69 rfl ?_
      refine mm_getR fl_X9_19 d9_tellPerson_70 (mm_wtR hS 104 h0 rfl rfl) ?_
      refine mm_getI fl_X9_45 d9_tellPerson_73 (mm_wtI hS (mm_wtT hS 0 4 h0 rfl) rfl) ?_
      refine mm_iconst (v := 2) d9_tellPerson_76 (by decide +kernel) ?_
      refine mm_icmp_ne (tgt := 91) d9_tellPerson_77 (by decide) (fun hc4 => ?_) (fun hc4 => ?_)
      · rw [if_neg hc4] at h
        refine mm_sub [(0, .ref v0), (1, .int v1)] ⟨rfl, rfl, trivial⟩ ?_
        exact ok9_tellPerson_91 l hS  h0 h
      · rw [if_pos hc4] at h
        refine mm_aload_n d9_tellPerson_80 rfl ?_
        refine mm_iload_n d9_tellPerson_81 rfl ?_
        obtain ⟨o5, hk5, h⟩ := mm_bd h
        refine mm_cVv 9 (As := [.int v1]) (ok9_tellSkill l hS h0 hk5) lk_X9_128 rfl d9_tellPerson_82 (mm_room rfl rfl) rfl h0 rfl rfl ?_
        refine mm_iinc (v := v2 + 1) d9_tellPerson_85 rfl rfl rfl rfl ?_
        refine mm_goto (tgt := 52) d9_tellPerson_88 (by decide) ?_
        refine mm_sub [(0, .ref v0), (1, .int v1), (2, .int (v2 + 1))] ⟨rfl, rfl, rfl, trivial⟩ ?_
        exact hrec52 h0 h
set_option maxHeartbeats 4000000 in
set_option maxRecDepth 100000 in
theorem ok9_tellPerson_52 (l : Launch) {S : mm_Sh} (hS : mm_WT S) {n : Nat}  : ∀ (k : Nat) {v0 : Nat} {v1 : Int32} {v2 : Int32} (h0 : mm_is S v0 9) {I : mm_I} {J : mm_J} {o : mm_I × mm_J}, f9_tellPerson_52 S n k v0 v1 v2 I J = some o → mm_W l M9_tellPerson (mm_rm (mm_rk M9_tellPerson)) 0 0 S (mm_end S (mm_Qv o.1 o.2)) 52 [(0, .ref v0), (1, .int v1), (2, .int v2)] [] I J := by
  intro k
  induction k with
  | zero =>
    intros
    rename_i h
    cases h
  | succ k ih =>
    intro v0 v1 v2 h0 I J o h
    exact ok9_tellPerson_52_b l hS (fun {v0 v1 v2} h0 {I J o} h => ih h0 h) h0 h
set_option maxHeartbeats 4000000 in
set_option maxRecDepth 100000 in
theorem ok9_tellPerson_18 (l : Launch) {S : mm_Sh} (hS : mm_WT S) {n : Nat}  {v0 : Nat} {s0 : Nat} {s1 : Int32} (h0 : mm_is S v0 9) (g0 : mm_is S s0 9) {I : mm_I} {J : mm_J} {o : mm_I × mm_J} (h : f9_tellPerson_18 S n v0 s0 s1 I J = some o) : mm_W l M9_tellPerson (mm_rm (mm_rk M9_tellPerson)) 0 0 S (mm_end S (mm_Qv o.1 o.2)) 18 [(0, .ref v0)] [.int s1, .ref s0] I J := by
  unfold f9_tellPerson_18 at h
  obtain ⟨o1, hk1, h⟩ := mm_bd h
  refine mm_cVv 9 (As := [.int s1]) (ok9_openClause l hS g0 hk1) lk_X9_83 rfl d9_tellPerson_18 (mm_room rfl rfl) rfl g0 rfl rfl ?_
  refine mm_aload_n d9_tellPerson_21 rfl ?_
  refine mm_getR fl_X9_23 d9_tellPerson_22 (mm_wtR hS 100 h0 rfl rfl) ?_
  refine mm_getI fl_X9_54 d9_tellPerson_25 (mm_wtI hS (mm_wtT hS 1 0 h0 rfl) rfl) ?_
  refine mm_istore_n d9_tellPerson_28 rfl rfl ?_
  refine mm_aload_n d9_tellPerson_29 rfl ?_
  refine mm_getR fl_X9_27 d9_tellPerson_30 (mm_wtR hS 101 h0 rfl rfl) ?_
  refine mm_getR fl_X9_125 d9_tellPerson_33 (mm_wtR hS 106 (mm_wtT hS 2 1 h0 rfl) rfl rfl) ?_
  refine mm_iload_n d9_tellPerson_36 rfl ?_
  refine mm_aload_n d9_tellPerson_37 rfl ?_
  refine mm_getR fl_X9_19 d9_tellPerson_38 (mm_wtR hS 104 h0 rfl rfl) ?_
  refine mm_iconst (v := 0) d9_tellPerson_41 (by decide +kernel) ?_
  refine mm_bipush (v := 99) d9_tellPerson_42 (by decide +kernel) ?_
  obtain ⟨o2, hk2, h⟩ := mm_bd h
  refine mm_cVi 4 (As := [.int 0, .int 99]) (ok4_number l hS (mm_wtT hS 0 4 h0 rfl) hk2) lk_X9_106 rfl d9_tellPerson_44 (mm_room rfl rfl) rfl (mm_wtT hS 0 4 h0 rfl) rfl rfl ?_
  obtain ⟨o3, hk3, h⟩ := mm_bd h
  refine mm_cVv 6 (As := [.int (o1.1 (mm_rf S v0 1) 6), .int o2.1]) (ok6_put l hS (mm_wtT hS 0 6 (mm_wtT hS 2 1 h0 rfl) rfl) hk3) lk_X9_95 rfl d9_tellPerson_47 (mm_room rfl rfl) rfl (mm_wtT hS 0 6 (mm_wtT hS 2 1 h0 rfl) rfl) rfl rfl ?_
  refine mm_iconst (v := 0) d9_tellPerson_50 (by decide +kernel) ?_
  refine mm_istore_n d9_tellPerson_51 rfl rfl ?_
  refine mm_sub [(0, .ref v0), (1, .int (o1.1 (mm_rf S v0 1) 6)), (2, .int 0)] ⟨rfl, rfl, rfl, trivial⟩ ?_
  exact ok9_tellPerson_52 l hS  n h0 h
set_option maxHeartbeats 4000000 in
set_option maxRecDepth 100000 in
theorem ok9_tellPerson (l : Launch) {S : mm_Sh} (hS : mm_WT S) {n : Nat}  {v0 : Nat} (h0 : mm_is S v0 9) {I : mm_I} {J : mm_J} {o : mm_I × mm_J} (h : f9_tellPerson S n v0 I J = some o) : mm_C l M9_tellPerson S [.ref v0] I J (mm_Qv o.1 o.2) := by
  unfold f9_tellPerson at h
  refine mm_enter rfl (by decide +kernel) rfl ?_
  refine mm_aload_n d9_tellPerson_0 rfl ?_
  refine mm_aload_n d9_tellPerson_1 rfl ?_
  refine mm_getR fl_X9_23 d9_tellPerson_2 (mm_wtR hS 100 h0 rfl rfl) ?_
  refine mm_getI fl_X9_54 d9_tellPerson_5 (mm_wtI hS (mm_wtT hS 1 0 h0 rfl) rfl) ?_
  refine mm_bipush (v := 8) d9_tellPerson_8 (by decide +kernel) ?_
  refine mm_icmp_ge (tgt := 17) d9_tellPerson_10 (by decide) (fun hc1 => ?_) (fun hc1 => ?_)
  · rw [if_pos hc1] at h
    refine mm_iconst (v := 0) d9_tellPerson_17 (by decide +kernel) ?_
    refine mm_sub [(0, .ref v0)] ⟨rfl, trivial⟩ ?_
    exact ok9_tellPerson_18 l hS  h0 h0 h
  · rw [if_neg hc1] at h
    refine mm_iconst (v := 1) d9_tellPerson_13 (by decide +kernel) ?_
    refine mm_goto (tgt := 18) d9_tellPerson_14 (by decide) ?_
    refine mm_sub [(0, .ref v0)] ⟨rfl, trivial⟩ ?_
    exact ok9_tellPerson_18 l hS  h0 h0 h
set_option maxHeartbeats 4000000 in
set_option maxRecDepth 100000 in
theorem ok10_changed_37 (l : Launch) {S : mm_Sh} (hS : mm_WT S) {n : Nat}  {v2 : Int32}  {I : mm_I} {J : mm_J} {o : Int32 × mm_I × mm_J} (h : f10_changed_37 S n v2 I J = some o) : mm_W l M10_changed (mm_rm (mm_rk M10_changed)) 0 0 S (mm_end S (mm_Qi o.1 o.2.1 o.2.2)) 37 [(2, .int v2)] [] I J := by
  unfold f10_changed_37 at h
  refine mm_iload_n d10_changed_37 rfl ?_
  have h := Option.some.inj h
  subst h
  exact mm_iret rfl d10_changed_38 ⟨rfl, rfl, rfl⟩
set_option maxHeartbeats 4000000 in
set_option maxRecDepth 100000 in
theorem ok10_changed_19 (l : Launch) {S : mm_Sh} (hS : mm_WT S) {n : Nat}  {v0 : Nat} {v1 : Int32} (h0 : mm_is S v0 10) {I : mm_I} {J : mm_J} {o : Int32 × mm_I × mm_J} (h : f10_changed_19 S n v0 v1 I J = some o) : mm_W l M10_changed (mm_rm (mm_rk M10_changed)) 0 0 S (mm_end S (mm_Qi o.1 o.2.1 o.2.2)) 19 [(0, .ref v0), (1, .int v1)] [] I J := by
  unfold f10_changed_19 at h
  refine mm_aload_n d10_changed_19 rfl ?_
  refine mm_getR fl_X10_103 d10_changed_20 (mm_wtR hS 103 h0 rfl rfl) ?_
  obtain ⟨o1, hk1, h⟩ := mm_bd h
  refine mm_cVi 3 (As := []) (ok3_solve l hS (mm_wtT hS 17 3 h0 rfl) hk1) lk_X10_304 rfl d10_changed_23 (mm_room rfl rfl) rfl (mm_wtT hS 17 3 h0 rfl) rfl rfl ?_
  refine mm_istore_n d10_changed_26 rfl rfl ?_
  refine mm_iload_n d10_changed_27 rfl ?_
  refine mm_iconst (v := (-1)) d10_changed_28 (by decide +kernel) ?_
  refine mm_icmp_eq (tgt := 37) d10_changed_29 (by decide) (fun hc2 => ?_) (fun hc2 => ?_)
  · rw [if_pos hc2] at h
    refine mm_sub [(2, .int o1.1)] ⟨rfl, trivial⟩ ?_
    exact ok10_changed_37 l hS   h
  · rw [if_neg hc2] at h
    refine mm_iload_n d10_changed_32 rfl ?_
    refine mm_iconst (v := (-1)) d10_changed_33 (by decide +kernel) ?_
    refine mm_icmp_ne (tgt := 39) d10_changed_34 (by decide) (fun hc3 => ?_) (fun hc3 => ?_)
    · rw [if_neg hc3] at h
      refine mm_aload_n d10_changed_39 rfl ?_
      refine mm_getR fl_X10_103 d10_changed_40 (mm_wtR hS 103 h0 rfl rfl) ?_
      refine mm_getR fl_X10_307 d10_changed_43 (mm_wtR hS 106 (mm_wtT hS 17 3 h0 rfl) rfl rfl) ?_
      refine mm_iload_n d10_changed_46 rfl ?_
      obtain ⟨o4, hk4, h⟩ := mm_bd h
      refine mm_cVi 6 (As := [.int v1]) (ok6_at l hS (mm_wtT hS 6 6 (mm_wtT hS 17 3 h0 rfl) rfl) hk4) lk_X10_224 rfl d10_changed_47 (mm_room rfl rfl) rfl (mm_wtT hS 6 6 (mm_wtT hS 17 3 h0 rfl) rfl) rfl rfl ?_
      have h := Option.some.inj h
      subst h
      exact mm_iret rfl d10_changed_50 ⟨rfl, rfl, rfl⟩
    · rw [if_pos hc3] at h
      refine mm_sub [(2, .int o1.1)] ⟨rfl, trivial⟩ ?_
      exact ok10_changed_37 l hS   h
set_option maxHeartbeats 4000000 in
set_option maxRecDepth 100000 in
theorem ok10_changed (l : Launch) {S : mm_Sh} (hS : mm_WT S) {n : Nat}  {v0 : Nat} {v1 : Int32} (h0 : mm_is S v0 10) {I : mm_I} {J : mm_J} {o : Int32 × mm_I × mm_J} (h : f10_changed S n v0 v1 I J = some o) : mm_C l M10_changed S [.ref v0, .int v1] I J (mm_Qi o.1 o.2.1 o.2.2) := by
  unfold f10_changed at h
  refine mm_enter rfl (by decide +kernel) rfl ?_
  refine mm_iload_n d10_changed_0 rfl ?_
  refine mm_iconst (v := (-1)) d10_changed_1 (by decide +kernel) ?_
  refine mm_icmp_eq (tgt := 19) d10_changed_2 (by decide) (fun hc1 => ?_) (fun hc1 => ?_)
  · rw [if_pos hc1] at h
    refine mm_sub [(0, .ref v0), (1, .int v1)] ⟨rfl, rfl, trivial⟩ ?_
    exact ok10_changed_19 l hS  h0 h
  · rw [if_neg hc1] at h
    refine mm_aload_n d10_changed_5 rfl ?_
    refine mm_getR fl_X10_19 d10_changed_6 (mm_wtR hS 100 h0 rfl rfl) ?_
    refine mm_iload_n d10_changed_9 rfl ?_
    obtain ⟨o2, hk2, h⟩ := mm_bd h
    refine mm_cVi 0 (As := [.int v1]) (ok0_hasPerson l hS (mm_wtT hS 1 0 h0 rfl) hk2) lk_X10_241 rfl d10_changed_10 (mm_room rfl rfl) rfl (mm_wtT hS 1 0 h0 rfl) rfl rfl ?_
    refine mm_if_ne (tgt := 19) d10_changed_13 (by decide) (fun hc3 => ?_) (fun hc3 => ?_)
    · rw [if_neg hc3] at h
      refine mm_sub [(0, .ref v0), (1, .int v1)] ⟨rfl, rfl, trivial⟩ ?_
      exact ok10_changed_19 l hS  h0 h
    · rw [if_pos hc3] at h
      refine mm_ldc (v := (-1000000001)) d10_changed_16 kX10_220 ?_
      have h := Option.some.inj h
      subst h
      exact mm_iret rfl d10_changed_18 ⟨rfl, rfl, rfl⟩
set_option maxHeartbeats 4000000 in
set_option maxRecDepth 100000 in
theorem ok10_fits_19 (l : Launch) {S : mm_Sh} (hS : mm_WT S) {n : Nat}    {I : mm_I} {J : mm_J} {o : Int32 × mm_I × mm_J} (h : f10_fits_19 S n  I J = some o) : mm_W l M10_fits (mm_rm (mm_rk M10_fits)) 0 0 S (mm_end S (mm_Qi o.1 o.2.1 o.2.2)) 19 [] [] I J := by
  unfold f10_fits_19 at h
  refine mm_ldc (v := (-1000000002)) d10_fits_19 kX10_124 ?_
  have h := Option.some.inj h
  subst h
  exact mm_iret rfl d10_fits_21 ⟨rfl, rfl, rfl⟩
set_option maxHeartbeats 4000000 in
set_option maxRecDepth 100000 in
theorem ok10_fits_72 (l : Launch) {S : mm_Sh} (hS : mm_WT S) {n : Nat}  {s0 : Int32}  {I : mm_I} {J : mm_J} {o : Int32 × mm_I × mm_J} (h : f10_fits_72 S n s0 I J = some o) : mm_W l M10_fits (mm_rm (mm_rk M10_fits)) 0 0 S (mm_end S (mm_Qi o.1 o.2.1 o.2.2)) 72 [] [.int s0] I J := by
  unfold f10_fits_72 at h
  have h := Option.some.inj h
  subst h
  exact mm_iret rfl d10_fits_72 ⟨rfl, rfl, rfl⟩
set_option maxHeartbeats 4000000 in
set_option maxRecDepth 100000 in
theorem ok10_fits_106 (l : Launch) {S : mm_Sh} (hS : mm_WT S) {n : Nat}  {s0 : Int32}  {I : mm_I} {J : mm_J} {o : Int32 × mm_I × mm_J} (h : f10_fits_106 S n s0 I J = some o) : mm_W l M10_fits (mm_rm (mm_rk M10_fits)) 0 0 S (mm_end S (mm_Qi o.1 o.2.1 o.2.2)) 106 [] [.int s0] I J := by
  unfold f10_fits_106 at h
  have h := Option.some.inj h
  subst h
  exact mm_iret rfl d10_fits_106 ⟨rfl, rfl, rfl⟩
set_option maxHeartbeats 4000000 in
set_option maxRecDepth 100000 in
theorem ok10_fits (l : Launch) {S : mm_Sh} (hS : mm_WT S) {n : Nat}  {v0 : Nat} {v1 : Int32} {v2 : Int32} (h0 : mm_is S v0 10) {I : mm_I} {J : mm_J} {o : Int32 × mm_I × mm_J} (h : f10_fits S n v0 v1 v2 I J = some o) : mm_C l M10_fits S [.ref v0, .int v1, .int v2] I J (mm_Qi o.1 o.2.1 o.2.2) := by
  unfold f10_fits at h
  refine mm_enter rfl (by decide +kernel) rfl ?_
  refine mm_iload_n d10_fits_0 rfl ?_
  refine mm_iconst (v := 0) d10_fits_1 (by decide +kernel) ?_
  refine mm_bipush (v := 8) d10_fits_2 (by decide +kernel) ?_
  obtain ⟨o1, hk1, h⟩ := mm_bd h
  refine mm_cSi (As := [.int v1, .int 0, .int 8]) (ok10_within l hS hk1) lk_X10_120 rfl d10_fits_4 (mm_room rfl rfl) rfl rfl ?_
  refine mm_if_eq (tgt := 19) d10_fits_7 (by decide) (fun hc2 => ?_) (fun hc2 => ?_)
  · rw [if_pos hc2] at h
    refine mm_sub [] trivial ?_
    exact ok10_fits_19 l hS   h
  · rw [if_neg hc2] at h
    refine mm_iload_n d10_fits_10 rfl ?_
    refine mm_iconst (v := 0) d10_fits_11 (by decide +kernel) ?_
    refine mm_iconst (v := 2) d10_fits_12 (by decide +kernel) ?_
    obtain ⟨o3, hk3, h⟩ := mm_bd h
    refine mm_cSi (As := [.int v2, .int 0, .int 2]) (ok10_within l hS hk3) lk_X10_120 rfl d10_fits_13 (mm_room rfl rfl) rfl rfl ?_
    refine mm_if_ne (tgt := 22) d10_fits_16 (by decide) (fun hc4 => ?_) (fun hc4 => ?_)
    · rw [if_neg hc4] at h
      refine mm_aload_n d10_fits_22 rfl ?_
      refine mm_getR fl_X10_73 d10_fits_23 (mm_wtR hS 108 h0 rfl rfl) ?_
      refine mm_iload_n d10_fits_26 rfl ?_
      refine mm_aload_n d10_fits_27 rfl ?_
      refine mm_getR fl_X10_42 d10_fits_28 (mm_wtR hS 101 h0 rfl rfl) ?_
      obtain ⟨o5, hk5, h⟩ := mm_bd h
      refine mm_cVv 8 (As := [.int v1, .ref (mm_rf S v0 6)]) (ok8_countFits l hS (mm_wtT hS 13 8 h0 rfl) (mm_wtT hS 6 1 h0 rfl) hk5) lk_X10_337 rfl d10_fits_31 (mm_room rfl rfl) rfl (mm_wtT hS 13 8 h0 rfl) rfl rfl ?_
      refine mm_iload_n d10_fits_34 rfl ?_
      refine mm_if_ne (tgt := 46) d10_fits_35 (by decide) (fun hc6 => ?_) (fun hc6 => ?_)
      · rw [if_neg hc6] at h
        refine mm_iload_n d10_fits_46 rfl ?_
        refine mm_iconst (v := 1) d10_fits_47 (by decide +kernel) ?_
        refine mm_icmp_ne (tgt := 73) d10_fits_48 (by decide) (fun hc7 => ?_) (fun hc7 => ?_)
        · rw [if_neg hc7] at h
          refine mm_aload_n d10_fits_73 rfl ?_
          refine mm_getR fl_X10_73 d10_fits_74 (mm_wtR hS 108 h0 rfl rfl) ?_
          refine mm_getI fl_X10_347 d10_fits_77 (mm_wtI hS (mm_wtT hS 13 8 h0 rfl) rfl) ?_
          refine mm_if_le (tgt := 105) d10_fits_80 (by decide) (fun hc8 => ?_) (fun hc8 => ?_)
          · rw [if_pos hc8] at h
            refine mm_iconst (v := 0) d10_fits_105 (by decide +kernel) ?_
            refine mm_sub [] trivial ?_
            exact ok10_fits_106 l hS   h
          · rw [if_neg hc8] at h
            refine mm_ldcw (v := 1000000) d10_fits_83 kX10_350 ?_
            refine mm_aload_n d10_fits_86 rfl ?_
            refine mm_getR fl_X10_73 d10_fits_87 (mm_wtR hS 108 h0 rfl rfl) ?_
            refine mm_getI fl_X10_341 d10_fits_90 (mm_wtI hS (mm_wtT hS 13 8 h0 rfl) rfl) ?_
            refine mm_imul d10_fits_93 ?_
            refine mm_aload_n d10_fits_94 rfl ?_
            refine mm_getR fl_X10_73 d10_fits_95 (mm_wtR hS 108 h0 rfl rfl) ?_
            refine mm_getI fl_X10_347 d10_fits_98 (mm_wtI hS (mm_wtT hS 13 8 h0 rfl) rfl) ?_
            obtain ⟨hz9, h⟩ := mm_gz h
            refine mm_idiv d10_fits_101 hz9 ?_
            refine mm_goto (tgt := 106) d10_fits_102 (by decide) ?_
            refine mm_sub [] trivial ?_
            exact ok10_fits_106 l hS   h
        · rw [if_pos hc7] at h
          refine mm_aload_n d10_fits_51 rfl ?_
          refine mm_getR fl_X10_73 d10_fits_52 (mm_wtR hS 108 h0 rfl rfl) ?_
          refine mm_getI fl_X10_341 d10_fits_55 (mm_wtI hS (mm_wtT hS 13 8 h0 rfl) rfl) ?_
          refine mm_if_le (tgt := 71) d10_fits_58 (by decide) (fun hc10 => ?_) (fun hc10 => ?_)
          · rw [if_pos hc10] at h
            refine mm_iconst (v := (-1)) d10_fits_71 (by decide +kernel) ?_
            refine mm_sub [] trivial ?_
            exact ok10_fits_72 l hS   h
          · rw [if_neg hc10] at h
            refine mm_aload_n d10_fits_61 rfl ?_
            refine mm_getR fl_X10_73 d10_fits_62 (mm_wtR hS 108 h0 rfl rfl) ?_
            refine mm_getI fl_X10_344 d10_fits_65 (mm_wtI hS (mm_wtT hS 13 8 h0 rfl) rfl) ?_
            refine mm_goto (tgt := 72) d10_fits_68 (by decide) ?_
            refine mm_sub [] trivial ?_
            exact ok10_fits_72 l hS   h
      · rw [if_pos hc6] at h
        refine mm_aload_n d10_fits_38 rfl ?_
        refine mm_getR fl_X10_73 d10_fits_39 (mm_wtR hS 108 h0 rfl rfl) ?_
        refine mm_getI fl_X10_341 d10_fits_42 (mm_wtI hS (mm_wtT hS 13 8 h0 rfl) rfl) ?_
        have h := Option.some.inj h
        subst h
        exact mm_iret rfl d10_fits_45 ⟨rfl, rfl, rfl⟩
    · rw [if_pos hc4] at h
      refine mm_sub [] trivial ?_
      exact ok10_fits_19 l hS   h
set_option maxHeartbeats 4000000 in
set_option maxRecDepth 100000 in
theorem ok2_passYear_29 (l : Launch) {S : mm_Sh} (hS : mm_WT S) {n : Nat}  {rec2 : Nat → Int32 → mm_I → mm_J → Option (mm_I × mm_J)} (hrec2 : ∀ {v0 : Nat} {v1 : Int32} (_ : mm_is S v0 2) {I : mm_I} {J : mm_J} {o : mm_I × mm_J}, rec2 v0 v1 I J = some o → mm_W l M2_passYear (mm_rm (mm_rk M2_passYear)) 0 0 S (mm_end S (mm_Qv o.1 o.2)) 2 [(0, .ref v0), (1, .int v1)] [] I J) {v0 : Nat} {v1 : Int32} (h0 : mm_is S v0 2) {I : mm_I} {J : mm_J} {o : mm_I × mm_J} (h : f2_passYear_29 S n rec2 v0 v1 I J = some o) : mm_W l M2_passYear (mm_rm (mm_rk M2_passYear)) 0 0 S (mm_end S (mm_Qv o.1 o.2)) 29 [(0, .ref v0), (1, .int v1)] [] I J := by
  unfold f2_passYear_29 at h
  refine mm_iinc (v := v1 + 1) d2_passYear_29 rfl rfl rfl rfl ?_
  refine mm_goto (tgt := 2) d2_passYear_32 (by decide) ?_
  refine mm_sub [(0, .ref v0), (1, .int (v1 + 1))] ⟨rfl, rfl, trivial⟩ ?_
  exact hrec2 h0 h
set_option maxHeartbeats 4000000 in
set_option maxRecDepth 100000 in
theorem ok2_passYear_2_b (l : Launch) {S : mm_Sh} (hS : mm_WT S) {n : Nat}  {rec2 : Nat → Int32 → mm_I → mm_J → Option (mm_I × mm_J)} (hrec2 : ∀ {v0 : Nat} {v1 : Int32} (_ : mm_is S v0 2) {I : mm_I} {J : mm_J} {o : mm_I × mm_J}, rec2 v0 v1 I J = some o → mm_W l M2_passYear (mm_rm (mm_rk M2_passYear)) 0 0 S (mm_end S (mm_Qv o.1 o.2)) 2 [(0, .ref v0), (1, .int v1)] [] I J) {v0 : Nat} {v1 : Int32} (h0 : mm_is S v0 2) {I : mm_I} {J : mm_J} {o : mm_I × mm_J} (h : f2_passYear_2_b S n rec2 v0 v1 I J = some o) : mm_W l M2_passYear (mm_rm (mm_rk M2_passYear)) 0 0 S (mm_end S (mm_Qv o.1 o.2)) 2 [(0, .ref v0), (1, .int v1)] [] I J := by
  unfold f2_passYear_2_b at h
  refine mm_iload_n d2_passYear_2 rfl ?_
  refine mm_aload_n d2_passYear_3 rfl ?_
  refine mm_getR fl_X2_9 d2_passYear_4 (mm_wtR hS 100 h0 rfl rfl) ?_
  refine mm_getI fl_X2_110 d2_passYear_7 (mm_wtI hS (mm_wtT hS 0 0 h0 rfl) rfl) ?_
  refine mm_icmp_ge (tgt := 35) d2_passYear_10 (by decide) (fun hc1 => ?_) (fun hc1 => ?_)
  · rw [if_pos hc1] at h
    refine mm_aload_n d2_passYear_35 rfl ?_
    refine mm_getR fl_X2_19 d2_passYear_36 (mm_wtR hS 101 h0 rfl rfl) ?_
    refine mm_dup d2_passYear_39 rfl ?_
    refine mm_getI fl_X2_144 d2_passYear_40 (mm_wtI hS (mm_wtT hS 2 1 h0 rfl) rfl) ?_
    refine mm_iconst (v := 1) d2_passYear_43 (by decide +kernel) ?_
    refine mm_iadd d2_passYear_44 ?_
    refine mm_putI fp_X2_144 d2_passYear_45 (mm_wtI hS (mm_wtT hS 2 1 h0 rfl) rfl) ?_
    refine mm_aload_n d2_passYear_48 rfl ?_
    refine mm_getR fl_X2_19 d2_passYear_49 (mm_wtR hS 101 h0 rfl rfl) ?_
    refine mm_iconst (v := 0) d2_passYear_52 (by decide +kernel) ?_
    refine mm_putI fp_X2_78 d2_passYear_53 (mm_wtI hS (mm_wtT hS 2 1 h0 rfl) rfl) ?_
    refine mm_aload_n d2_passYear_56 rfl ?_
    refine mm_getR fl_X2_19 d2_passYear_57 (mm_wtR hS 101 h0 rfl rfl) ?_
    refine mm_iconst (v := 0) d2_passYear_60 (by decide +kernel) ?_
    refine mm_putI fp_X2_131 d2_passYear_61 (mm_wtI hS (mm_wtT hS 2 1 h0 rfl) rfl) ?_
    have h := Option.some.inj h
    subst h
    exact mm_vret rfl d2_passYear_64 ⟨rfl, rfl, rfl⟩
  · rw [if_neg hc1] at h
    refine mm_aload_n d2_passYear_13 rfl ?_
    refine mm_getR fl_X2_19 d2_passYear_14 (mm_wtR hS 101 h0 rfl rfl) ?_
    refine mm_iload_n d2_passYear_17 rfl ?_
    obtain ⟨o2, hk2, h⟩ := mm_bd h
    refine mm_cVi 1 (As := [.int v1]) (ok1_lives l hS (mm_wtT hS 2 1 h0 rfl) hk2) lk_X2_90 rfl d2_passYear_18 (mm_room rfl rfl) rfl (mm_wtT hS 2 1 h0 rfl) rfl rfl ?_
    refine mm_if_eq (tgt := 29) d2_passYear_21 (by decide) (fun hc3 => ?_) (fun hc3 => ?_)
    · rw [if_pos hc3] at h
      refine mm_sub [(0, .ref v0), (1, .int v1)] ⟨rfl, rfl, trivial⟩ ?_
      exact ok2_passYear_29 l hS hrec2 h0 h
    · rw [if_neg hc3] at h
      refine mm_aload_n d2_passYear_24 rfl ?_
      refine mm_iload_n d2_passYear_25 rfl ?_
      obtain ⟨o4, hk4, h⟩ := mm_bd h
      refine mm_cVv 2 (As := [.int v1]) (ok2_passYearOf l hS h0 hk4) lk_X2_140 rfl d2_passYear_26 (mm_room rfl rfl) rfl h0 rfl rfl ?_
      refine mm_sub [(0, .ref v0), (1, .int v1)] ⟨rfl, rfl, trivial⟩ ?_
      exact ok2_passYear_29 l hS hrec2 h0 h
set_option maxHeartbeats 4000000 in
set_option maxRecDepth 100000 in
theorem ok2_passYear_2 (l : Launch) {S : mm_Sh} (hS : mm_WT S) {n : Nat}  : ∀ (k : Nat) {v0 : Nat} {v1 : Int32} (h0 : mm_is S v0 2) {I : mm_I} {J : mm_J} {o : mm_I × mm_J}, f2_passYear_2 S n k v0 v1 I J = some o → mm_W l M2_passYear (mm_rm (mm_rk M2_passYear)) 0 0 S (mm_end S (mm_Qv o.1 o.2)) 2 [(0, .ref v0), (1, .int v1)] [] I J := by
  intro k
  induction k with
  | zero =>
    intros
    rename_i h
    cases h
  | succ k ih =>
    intro v0 v1 h0 I J o h
    exact ok2_passYear_2_b l hS (fun {v0 v1} h0 {I J o} h => ih h0 h) h0 h
set_option maxHeartbeats 4000000 in
set_option maxRecDepth 100000 in
theorem ok2_passYear (l : Launch) {S : mm_Sh} (hS : mm_WT S) {n : Nat}  {v0 : Nat} (h0 : mm_is S v0 2) {I : mm_I} {J : mm_J} {o : mm_I × mm_J} (h : f2_passYear S n v0 I J = some o) : mm_C l M2_passYear S [.ref v0] I J (mm_Qv o.1 o.2) := by
  unfold f2_passYear at h
  refine mm_enter rfl (by decide +kernel) rfl ?_
  refine mm_iconst (v := 0) d2_passYear_0 (by decide +kernel) ?_
  refine mm_istore_n d2_passYear_1 rfl rfl ?_
  refine mm_sub [(0, .ref v0), (1, .int 0)] ⟨rfl, rfl, trivial⟩ ?_
  exact ok2_passYear_2 l hS  n h0 h
set_option maxHeartbeats 4000000 in
set_option maxRecDepth 100000 in
theorem ok7_opens_28 (l : Launch) {S : mm_Sh} (hS : mm_WT S) {n : Nat}  {v0 : Nat} {v1 : Nat} {v3 : Int32} (h0 : mm_is S v0 7) (h1 : mm_is S v1 4) {I : mm_I} {J : mm_J} {o : Int32 × mm_I × mm_J} (h : f7_opens_28 S n v0 v1 v3 I J = some o) : mm_W l M7_opens (mm_rm (mm_rk M7_opens)) 0 0 S (mm_end S (mm_Qi o.1 o.2.1 o.2.2)) 28 [(0, .ref v0), (1, .ref v1), (3, .int v3)] [] I J := by
  unfold f7_opens_28 at h
  refine mm_aload_n d7_opens_28 rfl ?_
  refine mm_dup d7_opens_29 rfl ?_
  refine mm_getI fl_X7_34 d7_opens_30 (mm_wtI hS h0 rfl) ?_
  refine mm_iload_n d7_opens_33 rfl ?_
  refine mm_ior d7_opens_34 ?_
  refine mm_putI fp_X7_34 d7_opens_35 (mm_wtI hS h0 rfl) ?_
  refine mm_aload_n d7_opens_38 rfl ?_
  obtain ⟨o1, hk1, h⟩ := mm_bd h
  refine mm_cVv 4 (As := []) (ok4_advance l hS h1 hk1) lk_X7_84 rfl d7_opens_39 (mm_room rfl rfl) rfl h1 rfl rfl ?_
  refine mm_iconst (v := 1) d7_opens_42 (by decide +kernel) ?_
  have h := Option.some.inj h
  subst h
  exact mm_zret rfl d7_opens_43 (by decide) ⟨rfl, rfl, rfl⟩
set_option maxHeartbeats 4000000 in
set_option maxRecDepth 100000 in
theorem ok7_opens (l : Launch) {S : mm_Sh} (hS : mm_WT S) {n : Nat}  {v0 : Nat} {v1 : Nat} {v2 : Nat} {v3 : Int32} (h0 : mm_is S v0 7) (h1 : mm_is S v1 4) (h2 : mm_isS v2) {I : mm_I} {J : mm_J} {o : Int32 × mm_I × mm_J} (h : f7_opens S n v0 v1 v2 v3 I J = some o) : mm_C l M7_opens S [.ref v0, .ref v1, .ref v2, .int v3] I J (mm_Qi o.1 o.2.1 o.2.2) := by
  unfold f7_opens at h
  refine mm_enter rfl (by decide +kernel) rfl ?_
  refine mm_aload_n d7_opens_0 rfl ?_
  refine mm_aload_n d7_opens_1 rfl ?_
  obtain ⟨o1, hk1, h⟩ := mm_bd h
  refine mm_cVi 4 (As := [.ref v2]) (ok4_sees l hS h1 h2 hk1) lk_X7_80 rfl d7_opens_2 (mm_room rfl rfl) rfl h1 rfl rfl ?_
  refine mm_if_ne (tgt := 10) d7_opens_5 (by decide) (fun hc2 => ?_) (fun hc2 => ?_)
  · rw [if_neg hc2] at h
    refine mm_aload_n d7_opens_10 rfl ?_
    refine mm_getI fl_X7_34 d7_opens_11 (mm_wtI hS h0 rfl) ?_
    refine mm_iload_n d7_opens_14 rfl ?_
    refine mm_iand d7_opens_15 ?_
    refine mm_if_eq (tgt := 28) d7_opens_16 (by decide) (fun hc3 => ?_) (fun hc3 => ?_)
    · rw [if_pos hc3] at h
      refine mm_sub [(0, .ref v0), (1, .ref v1), (3, .int v3)] ⟨rfl, rfl, rfl, trivial⟩ ?_
      exact ok7_opens_28 l hS  h0 h1 h
    · rw [if_neg hc3] at h
      refine mm_aload_n d7_opens_19 rfl ?_
      refine mm_iconst (v := 3) d7_opens_20 (by decide +kernel) ?_
      refine mm_aload_n d7_opens_21 rfl ?_
      refine mm_getI fl_X7_70 d7_opens_22 (mm_wtI hS h1 rfl) ?_
      obtain ⟨o4, hk4, h⟩ := mm_bd h
      refine mm_cVv 4 (As := [.int 3, .int (I v1 3)]) (ok4_blame l hS h1 hk4) lk_X7_73 rfl d7_opens_25 (mm_room rfl rfl) rfl h1 rfl rfl ?_
      refine mm_sub [(0, .ref v0), (1, .ref v1), (3, .int v3)] ⟨rfl, rfl, rfl, trivial⟩ ?_
      exact ok7_opens_28 l hS  h0 h1 h
  · rw [if_pos hc2] at h
    refine mm_iconst (v := 0) d7_opens_8 (by decide +kernel) ?_
    have h := Option.some.inj h
    subst h
    exact mm_zret rfl d7_opens_9 (by decide) ⟨rfl, rfl, rfl⟩
set_option maxHeartbeats 4000000 in
set_option maxRecDepth 100000 in
theorem ok9_kindHere_69 (l : Launch) {S : mm_Sh} (hS : mm_WT S) {n : Nat}    {I : mm_I} {J : mm_J} {o : Int32 × mm_I × mm_J} (h : f9_kindHere_69 S n  I J = some o) : mm_W l M9_kindHere (mm_rm (mm_rk M9_kindHere)) 0 0 S (mm_end S (mm_Qi o.1 o.2.1 o.2.2)) 69 [] [] I J := by
  unfold f9_kindHere_69 at h
  refine mm_iconst (v := 3) d9_kindHere_69 (by decide +kernel) ?_
  have h := Option.some.inj h
  subst h
  exact mm_iret rfl d9_kindHere_70 ⟨rfl, rfl, rfl⟩
set_option maxHeartbeats 4000000 in
set_option maxRecDepth 100000 in
theorem ok9_kindHere (l : Launch) {S : mm_Sh} (hS : mm_WT S) {n : Nat}  {v0 : Nat} (h0 : mm_is S v0 9) {I : mm_I} {J : mm_J} {o : Int32 × mm_I × mm_J} (h : f9_kindHere S n v0 I J = some o) : mm_C l M9_kindHere S [.ref v0] I J (mm_Qi o.1 o.2.1 o.2.2) := by
  unfold f9_kindHere at h
  refine mm_enter rfl (by decide +kernel) rfl ?_
  refine mm_aload_n d9_kindHere_0 rfl ?_
  refine mm_getR fl_X9_19 d9_kindHere_1 (mm_wtR hS 104 h0 rfl rfl) ?_
  refine mm_ldcS (i := 1) (tx := "plain") d9_kindHere_4 (by decide +kernel) ?_
  obtain ⟨o1, hk1, h⟩ := mm_bd h
  refine mm_cVi 4 (As := [.ref (1000000 + 1)]) (ok4_sees l hS (mm_wtT hS 0 4 h0 rfl) ⟨1, by decide, rfl⟩ hk1) lk_X9_50 rfl d9_kindHere_6 (mm_room rfl rfl) rfl (mm_wtT hS 0 4 h0 rfl) rfl rfl ?_
  refine mm_if_eq (tgt := 14) d9_kindHere_9 (by decide) (fun hc2 => ?_) (fun hc2 => ?_)
  · rw [if_pos hc2] at h
    refine mm_aload_n d9_kindHere_14 rfl ?_
    refine mm_getR fl_X9_19 d9_kindHere_15 (mm_wtR hS 104 h0 rfl rfl) ?_
    refine mm_ldcS (i := 2) (tx := "back") d9_kindHere_18 (by decide +kernel) ?_
    obtain ⟨o3, hk3, h⟩ := mm_bd h
    refine mm_cVi 4 (As := [.ref (1000000 + 2)]) (ok4_sees l hS (mm_wtT hS 0 4 h0 rfl) ⟨2, by decide, rfl⟩ hk3) lk_X9_50 rfl d9_kindHere_20 (mm_room rfl rfl) rfl (mm_wtT hS 0 4 h0 rfl) rfl rfl ?_
    refine mm_if_eq (tgt := 28) d9_kindHere_23 (by decide) (fun hc4 => ?_) (fun hc4 => ?_)
    · rw [if_pos hc4] at h
      refine mm_aload_n d9_kindHere_28 rfl ?_
      refine mm_getR fl_X9_19 d9_kindHere_29 (mm_wtR hS 104 h0 rfl rfl) ?_
      refine mm_ldcS (i := 3) (tx := "half") d9_kindHere_32 (by decide +kernel) ?_
      obtain ⟨o5, hk5, h⟩ := mm_bd h
      refine mm_cVi 4 (As := [.ref (1000000 + 3)]) (ok4_sees l hS (mm_wtT hS 0 4 h0 rfl) ⟨3, by decide, rfl⟩ hk5) lk_X9_50 rfl d9_kindHere_34 (mm_room rfl rfl) rfl (mm_wtT hS 0 4 h0 rfl) rfl rfl ?_
      refine mm_if_eq (tgt := 42) d9_kindHere_37 (by decide) (fun hc6 => ?_) (fun hc6 => ?_)
      · rw [if_pos hc6] at h
        refine mm_aload_n d9_kindHere_42 rfl ?_
        refine mm_getR fl_X9_19 d9_kindHere_43 (mm_wtR hS 104 h0 rfl rfl) ?_
        refine mm_ldcS (i := 4) (tx := "forbidden") d9_kindHere_46 (by decide +kernel) ?_
        obtain ⟨o7, hk7, h⟩ := mm_bd h
        refine mm_cVi 4 (As := [.ref (1000000 + 4)]) (ok4_sees l hS (mm_wtT hS 0 4 h0 rfl) ⟨4, by decide, rfl⟩ hk7) lk_X9_50 rfl d9_kindHere_48 (mm_room rfl rfl) rfl (mm_wtT hS 0 4 h0 rfl) rfl rfl ?_
        refine mm_if_ne (tgt := 69) d9_kindHere_51 (by decide) (fun hc8 => ?_) (fun hc8 => ?_)
        · rw [if_neg hc8] at h
          refine mm_sub [] trivial ?_
          exact ok9_kindHere_69 l hS   h
        · rw [if_pos hc8] at h
          refine mm_aload_n d9_kindHere_54 rfl ?_
          refine mm_getR fl_X9_19 d9_kindHere_55 (mm_wtR hS 104 h0 rfl rfl) ?_
          refine mm_iconst (v := 1) d9_kindHere_58 (by decide +kernel) ?_
          refine mm_aload_n d9_kindHere_59 rfl ?_
          refine mm_getR fl_X9_19 d9_kindHere_60 (mm_wtR hS 104 h0 rfl rfl) ?_
          refine mm_getI fl_X9_70 d9_kindHere_63 (mm_wtI hS (mm_wtT hS 0 4 h0 rfl) rfl) ?_
          obtain ⟨o9, hk9, h⟩ := mm_bd h
          refine mm_cVv 4 (As := [.int 1, .int (I (mm_rf S v0 0) 3)]) (ok4_blame l hS (mm_wtT hS 0 4 h0 rfl) hk9) lk_X9_73 rfl d9_kindHere_66 (mm_room rfl rfl) rfl (mm_wtT hS 0 4 h0 rfl) rfl rfl ?_
          refine mm_sub [] trivial ?_
          exact ok9_kindHere_69 l hS   h
      · rw [if_neg hc6] at h
        refine mm_iconst (v := 2) d9_kindHere_40 (by decide +kernel) ?_
        have h := Option.some.inj h
        subst h
        exact mm_iret rfl d9_kindHere_41 ⟨rfl, rfl, rfl⟩
    · rw [if_neg hc4] at h
      refine mm_iconst (v := 1) d9_kindHere_26 (by decide +kernel) ?_
      have h := Option.some.inj h
      subst h
      exact mm_iret rfl d9_kindHere_27 ⟨rfl, rfl, rfl⟩
  · rw [if_neg hc2] at h
    refine mm_iconst (v := 0) d9_kindHere_12 (by decide +kernel) ?_
    have h := Option.some.inj h
    subst h
    exact mm_iret rfl d9_kindHere_13 ⟨rfl, rfl, rfl⟩
set_option maxHeartbeats 4000000 in
set_option maxRecDepth 100000 in
theorem ok10_till_71 (l : Launch) {S : mm_Sh} (hS : mm_WT S) {n : Nat}  {v2 : Int32}  {I : mm_I} {J : mm_J} {o : Int32 × mm_I × mm_J} (h : f10_till_71 S n v2 I J = some o) : mm_W l M10_till (mm_rm (mm_rk M10_till)) 0 0 S (mm_end S (mm_Qi o.1 o.2.1 o.2.2)) 71 [(2, .int v2)] [] I J := by
  unfold f10_till_71 at h
  refine mm_iload_n d10_till_71 rfl ?_
  have h := Option.some.inj h
  subst h
  exact mm_iret rfl d10_till_72 ⟨rfl, rfl, rfl⟩
set_option maxHeartbeats 4000000 in
set_option maxRecDepth 100000 in
theorem ok10_till_38_b (l : Launch) {S : mm_Sh} (hS : mm_WT S) {n : Nat}  {rec38 : Nat → Int32 → Int32 → mm_I → mm_J → Option (Int32 × mm_I × mm_J)} (hrec38 : ∀ {v0 : Nat} {v1 : Int32} {v2 : Int32} (_ : mm_is S v0 10) {I : mm_I} {J : mm_J} {o : Int32 × mm_I × mm_J}, rec38 v0 v1 v2 I J = some o → mm_W l M10_till (mm_rm (mm_rk M10_till)) 0 0 S (mm_end S (mm_Qi o.1 o.2.1 o.2.2)) 38 [(0, .ref v0), (1, .int v1), (2, .int v2)] [] I J) {v0 : Nat} {v1 : Int32} {v2 : Int32} (h0 : mm_is S v0 10) {I : mm_I} {J : mm_J} {o : Int32 × mm_I × mm_J} (h : f10_till_38_b S n rec38 v0 v1 v2 I J = some o) : mm_W l M10_till (mm_rm (mm_rk M10_till)) 0 0 S (mm_end S (mm_Qi o.1 o.2.1 o.2.2)) 38 [(0, .ref v0), (1, .int v1), (2, .int v2)] [] I J := by
  unfold f10_till_38_b at h
  refine mm_iload_n d10_till_38 rfl ?_
  refine mm_sipush (v := 200) d10_till_39 (by decide +kernel) ?_
  refine mm_icmp_ge (tgt := 71) d10_till_42 (by decide) (fun hc1 => ?_) (fun hc1 => ?_)
  · rw [if_pos hc1] at h
    refine mm_sub [(2, .int v2)] ⟨rfl, trivial⟩ ?_
    exact ok10_till_71 l hS   h
  · rw [if_neg hc1] at h
    refine mm_aload_n d10_till_45 rfl ?_
    refine mm_getR fl_X10_52 d10_till_46 (mm_wtR hS 101 h0 rfl rfl) ?_
    refine mm_iload_n d10_till_49 rfl ?_
    refine mm_bipush (v := 50) d10_till_50 (by decide +kernel) ?_
    obtain ⟨o2, hk2, h⟩ := mm_bd h
    refine mm_cVi 1 (As := [.int v1, .int 50]) (ok1_withSkill l hS (mm_wtT hS 9 1 h0 rfl) hk2) lk_X10_237 rfl d10_till_52 (mm_room rfl rfl) rfl (mm_wtT hS 9 1 h0 rfl) rfl rfl ?_
    refine mm_if_eq (tgt := 71) d10_till_55 (by decide) (fun hc3 => ?_) (fun hc3 => ?_)
    · rw [if_pos hc3] at h
      refine mm_sub [(2, .int v2)] ⟨rfl, trivial⟩ ?_
      exact ok10_till_71 l hS   h
    · rw [if_neg hc3] at h
      refine mm_aload_n d10_till_58 rfl ?_
      refine mm_getR fl_X10_95 d10_till_59 (mm_wtR hS 102 h0 rfl rfl) ?_
      obtain ⟨o4, hk4, h⟩ := mm_bd h
      refine mm_cVv 2 (As := []) (ok2_passYear l hS (mm_wtT hS 16 2 h0 rfl) hk4) lk_X10_293 rfl d10_till_62 (mm_room rfl rfl) rfl (mm_wtT hS 16 2 h0 rfl) rfl rfl ?_
      refine mm_iinc (v := v2 + 1) d10_till_65 rfl rfl rfl rfl ?_
      refine mm_goto (tgt := 38) d10_till_68 (by decide) ?_
      refine mm_sub [(0, .ref v0), (1, .int v1), (2, .int (v2 + 1))] ⟨rfl, rfl, rfl, trivial⟩ ?_
      exact hrec38 h0 h
set_option maxHeartbeats 4000000 in
set_option maxRecDepth 100000 in
theorem ok10_till_38 (l : Launch) {S : mm_Sh} (hS : mm_WT S) {n : Nat}  : ∀ (k : Nat) {v0 : Nat} {v1 : Int32} {v2 : Int32} (h0 : mm_is S v0 10) {I : mm_I} {J : mm_J} {o : Int32 × mm_I × mm_J}, f10_till_38 S n k v0 v1 v2 I J = some o → mm_W l M10_till (mm_rm (mm_rk M10_till)) 0 0 S (mm_end S (mm_Qi o.1 o.2.1 o.2.2)) 38 [(0, .ref v0), (1, .int v1), (2, .int v2)] [] I J := by
  intro k
  induction k with
  | zero =>
    intros
    rename_i h
    cases h
  | succ k ih =>
    intro v0 v1 v2 h0 I J o h
    exact ok10_till_38_b l hS (fun {v0 v1 v2} h0 {I J o} h => ih h0 h) h0 h
set_option maxHeartbeats 4000000 in
set_option maxRecDepth 100000 in
theorem ok10_till (l : Launch) {S : mm_Sh} (hS : mm_WT S) {n : Nat}  {v0 : Nat} {v1 : Int32} (h0 : mm_is S v0 10) {I : mm_I} {J : mm_J} {o : Int32 × mm_I × mm_J} (h : f10_till S n v0 v1 I J = some o) : mm_C l M10_till S [.ref v0, .int v1] I J (mm_Qi o.1 o.2.1 o.2.2) := by
  unfold f10_till at h
  refine mm_enter rfl (by decide +kernel) rfl ?_
  refine mm_aload_n d10_till_0 rfl ?_
  refine mm_getR fl_X10_19 d10_till_1 (mm_wtR hS 100 h0 rfl rfl) ?_
  refine mm_iload_n d10_till_4 rfl ?_
  obtain ⟨o1, hk1, h⟩ := mm_bd h
  refine mm_cVi 0 (As := [.int v1]) (ok0_hasTrade l hS (mm_wtT hS 1 0 h0 rfl) hk1) lk_X10_216 rfl d10_till_5 (mm_room rfl rfl) rfl (mm_wtT hS 1 0 h0 rfl) rfl rfl ?_
  refine mm_if_ne (tgt := 14) d10_till_8 (by decide) (fun hc2 => ?_) (fun hc2 => ?_)
  · rw [if_neg hc2] at h
    refine mm_aload_n d10_till_14 rfl ?_
    refine mm_getR fl_X10_52 d10_till_15 (mm_wtR hS 101 h0 rfl rfl) ?_
    refine mm_aload_n d10_till_18 rfl ?_
    refine mm_getR fl_X10_42 d10_till_19 (mm_wtR hS 101 h0 rfl rfl) ?_
    obtain ⟨o3, hk3, h⟩ := mm_bd h
    refine mm_cVv 1 (As := [.ref (mm_rf S v0 6)]) (ok1_copyFrom l hS (mm_wtT hS 9 1 h0 rfl) (mm_wtT hS 6 1 h0 rfl) hk3) lk_X10_154 rfl d10_till_22 (mm_room rfl rfl) rfl (mm_wtT hS 9 1 h0 rfl) rfl rfl ?_
    refine mm_aload_n d10_till_25 rfl ?_
    refine mm_getR fl_X10_36 d10_till_26 (mm_wtR hS 107 h0 rfl rfl) ?_
    refine mm_aload_n d10_till_29 rfl ?_
    refine mm_getR fl_X10_29 d10_till_30 (mm_wtR hS 107 h0 rfl rfl) ?_
    obtain ⟨o4, hk4, h⟩ := mm_bd h
    refine mm_cVv 7 (As := [.ref (mm_rf S v0 3)]) (ok7_copyFrom l hS (mm_wtT hS 5 7 h0 rfl) (mm_wtT hS 3 7 h0 rfl) hk4) lk_X10_172 rfl d10_till_33 (mm_room rfl rfl) rfl (mm_wtT hS 5 7 h0 rfl) rfl rfl ?_
    refine mm_iconst (v := 0) d10_till_36 (by decide +kernel) ?_
    refine mm_istore_n d10_till_37 rfl rfl ?_
    refine mm_sub [(0, .ref v0), (1, .int v1), (2, .int 0)] ⟨rfl, rfl, rfl, trivial⟩ ?_
    exact ok10_till_38 l hS  n h0 h
  · rw [if_pos hc2] at h
    refine mm_ldc (v := (-1000000001)) d10_till_11 kX10_220 ?_
    have h := Option.some.inj h
    subst h
    exact mm_iret rfl d10_till_13 ⟨rfl, rfl, rfl⟩
set_option maxHeartbeats 4000000 in
set_option maxRecDepth 100000 in
theorem ok10_year_15_b (l : Launch) {S : mm_Sh} (hS : mm_WT S) {n : Nat}  {rec15 : Nat → Int32 → Int32 → mm_I → mm_J → Option (Int32 × mm_I × mm_J)} (hrec15 : ∀ {v0 : Nat} {v1 : Int32} {v2 : Int32} (_ : mm_is S v0 10) {I : mm_I} {J : mm_J} {o : Int32 × mm_I × mm_J}, rec15 v0 v1 v2 I J = some o → mm_W l M10_year (mm_rm (mm_rk M10_year)) 0 0 S (mm_end S (mm_Qi o.1 o.2.1 o.2.2)) 15 [(0, .ref v0), (1, .int v1), (2, .int v2)] [] I J) {v0 : Nat} {v1 : Int32} {v2 : Int32} (h0 : mm_is S v0 10) {I : mm_I} {J : mm_J} {o : Int32 × mm_I × mm_J} (h : f10_year_15_b S n rec15 v0 v1 v2 I J = some o) : mm_W l M10_year (mm_rm (mm_rk M10_year)) 0 0 S (mm_end S (mm_Qi o.1 o.2.1 o.2.2)) 15 [(0, .ref v0), (1, .int v1), (2, .int v2)] [] I J := by
  unfold f10_year_15_b at h
  refine mm_iload_n d10_year_15 rfl ?_
  refine mm_iload_n d10_year_16 rfl ?_
  refine mm_icmp_ge (tgt := 33) d10_year_17 (by decide) (fun hc1 => ?_) (fun hc1 => ?_)
  · rw [if_pos hc1] at h
    refine mm_aload_n d10_year_33 rfl ?_
    refine mm_getR fl_X10_42 d10_year_34 (mm_wtR hS 101 h0 rfl rfl) ?_
    refine mm_getI fl_X10_181 d10_year_37 (mm_wtI hS (mm_wtT hS 6 1 h0 rfl) rfl) ?_
    have h := Option.some.inj h
    subst h
    exact mm_iret rfl d10_year_40 ⟨rfl, rfl, rfl⟩
  · rw [if_neg hc1] at h
    refine mm_aload_n d10_year_20 rfl ?_
    refine mm_getR fl_X10_91 d10_year_21 (mm_wtR hS 102 h0 rfl rfl) ?_
    obtain ⟨o2, hk2, h⟩ := mm_bd h
    refine mm_cVv 2 (As := []) (ok2_passYear l hS (mm_wtT hS 15 2 h0 rfl) hk2) lk_X10_293 rfl d10_year_24 (mm_room rfl rfl) rfl (mm_wtT hS 15 2 h0 rfl) rfl rfl ?_
    refine mm_iinc (v := v2 + 1) d10_year_27 rfl rfl rfl rfl ?_
    refine mm_goto (tgt := 15) d10_year_30 (by decide) ?_
    refine mm_sub [(0, .ref v0), (1, .int v1), (2, .int (v2 + 1))] ⟨rfl, rfl, rfl, trivial⟩ ?_
    exact hrec15 h0 h
set_option maxHeartbeats 4000000 in
set_option maxRecDepth 100000 in
theorem ok10_year_15 (l : Launch) {S : mm_Sh} (hS : mm_WT S) {n : Nat}  : ∀ (k : Nat) {v0 : Nat} {v1 : Int32} {v2 : Int32} (h0 : mm_is S v0 10) {I : mm_I} {J : mm_J} {o : Int32 × mm_I × mm_J}, f10_year_15 S n k v0 v1 v2 I J = some o → mm_W l M10_year (mm_rm (mm_rk M10_year)) 0 0 S (mm_end S (mm_Qi o.1 o.2.1 o.2.2)) 15 [(0, .ref v0), (1, .int v1), (2, .int v2)] [] I J := by
  intro k
  induction k with
  | zero =>
    intros
    rename_i h
    cases h
  | succ k ih =>
    intro v0 v1 v2 h0 I J o h
    exact ok10_year_15_b l hS (fun {v0 v1 v2} h0 {I J o} h => ih h0 h) h0 h
set_option maxHeartbeats 4000000 in
set_option maxRecDepth 100000 in
theorem ok10_year (l : Launch) {S : mm_Sh} (hS : mm_WT S) {n : Nat}  {v0 : Nat} {v1 : Int32} (h0 : mm_is S v0 10) {I : mm_I} {J : mm_J} {o : Int32 × mm_I × mm_J} (h : f10_year S n v0 v1 I J = some o) : mm_C l M10_year S [.ref v0, .int v1] I J (mm_Qi o.1 o.2.1 o.2.2) := by
  unfold f10_year at h
  refine mm_enter rfl (by decide +kernel) rfl ?_
  refine mm_iload_n d10_year_0 rfl ?_
  refine mm_iconst (v := 1) d10_year_1 (by decide +kernel) ?_
  refine mm_bipush (v := 99) d10_year_2 (by decide +kernel) ?_
  obtain ⟨o1, hk1, h⟩ := mm_bd h
  refine mm_cSi (As := [.int v1, .int 1, .int 99]) (ok10_within l hS hk1) lk_X10_120 rfl d10_year_4 (mm_room rfl rfl) rfl rfl ?_
  refine mm_if_ne (tgt := 13) d10_year_7 (by decide) (fun hc2 => ?_) (fun hc2 => ?_)
  · rw [if_neg hc2] at h
    refine mm_iconst (v := 0) d10_year_13 (by decide +kernel) ?_
    refine mm_istore_n d10_year_14 rfl rfl ?_
    refine mm_sub [(0, .ref v0), (1, .int v1), (2, .int 0)] ⟨rfl, rfl, rfl, trivial⟩ ?_
    exact ok10_year_15 l hS  n h0 h
  · rw [if_pos hc2] at h
    refine mm_ldc (v := (-1000000002)) d10_year_10 kX10_124 ?_
    have h := Option.some.inj h
    subst h
    exact mm_iret rfl d10_year_12 ⟨rfl, rfl, rfl⟩
set_option maxHeartbeats 4000000 in
set_option maxRecDepth 100000 in
theorem ok2_passDrawnYears_69 (l : Launch) {S : mm_Sh} (hS : mm_WT S) {n : Nat}  {rec2 : Nat → Int32 → Int32 → Int32 → mm_I → mm_J → Option (mm_I × mm_J)} (hrec2 : ∀ {v0 : Nat} {v1 : Int32} {v2 : Int32} {v3 : Int32} (_ : mm_is S v0 2) {I : mm_I} {J : mm_J} {o : mm_I × mm_J}, rec2 v0 v1 v2 v3 I J = some o → mm_W l M2_passDrawnYears (mm_rm (mm_rk M2_passDrawnYears)) 0 0 S (mm_end S (mm_Qv o.1 o.2)) 2 [(0, .ref v0), (1, .int v1), (2, .int v2), (3, .int v3)] [] I J) {rec10 : Nat → Int32 → Int32 → Int32 → Int32 → mm_I → mm_J → Option (mm_I × mm_J)} (hrec10 : ∀ {v0 : Nat} {v1 : Int32} {v2 : Int32} {v3 : Int32} {v4 : Int32} (_ : mm_is S v0 2) {I : mm_I} {J : mm_J} {o : mm_I × mm_J}, rec10 v0 v1 v2 v3 v4 I J = some o → mm_W l M2_passDrawnYears (mm_rm (mm_rk M2_passDrawnYears)) 0 0 S (mm_end S (mm_Qv o.1 o.2)) 10 [(0, .ref v0), (1, .int v1), (2, .int v2), (3, .int v3), (4, .int v4)] [] I J) {v0 : Nat} {v1 : Int32} {v2 : Int32} {v3 : Int32} {v4 : Int32} (h0 : mm_is S v0 2) {I : mm_I} {J : mm_J} {o : mm_I × mm_J} (h : f2_passDrawnYears_69 S n rec2 rec10 v0 v1 v2 v3 v4 I J = some o) : mm_W l M2_passDrawnYears (mm_rm (mm_rk M2_passDrawnYears)) 0 0 S (mm_end S (mm_Qv o.1 o.2)) 69 [(0, .ref v0), (1, .int v1), (2, .int v2), (3, .int v3), (4, .int v4)] [] I J := by
  unfold f2_passDrawnYears_69 at h
  refine mm_iinc (v := v4 + 1) d2_passDrawnYears_69 rfl rfl rfl rfl ?_
  refine mm_goto (tgt := 10) d2_passDrawnYears_72 (by decide) ?_
  refine mm_sub [(0, .ref v0), (1, .int v1), (2, .int v2), (3, .int v3), (4, .int (v4 + 1))] ⟨rfl, rfl, rfl, rfl, rfl, trivial⟩ ?_
  exact hrec10 h0 h
set_option maxHeartbeats 4000000 in
set_option maxRecDepth 100000 in
theorem ok2_passDrawnYears_10_b (l : Launch) {S : mm_Sh} (hS : mm_WT S) {n : Nat}  {rec2 : Nat → Int32 → Int32 → Int32 → mm_I → mm_J → Option (mm_I × mm_J)} (hrec2 : ∀ {v0 : Nat} {v1 : Int32} {v2 : Int32} {v3 : Int32} (_ : mm_is S v0 2) {I : mm_I} {J : mm_J} {o : mm_I × mm_J}, rec2 v0 v1 v2 v3 I J = some o → mm_W l M2_passDrawnYears (mm_rm (mm_rk M2_passDrawnYears)) 0 0 S (mm_end S (mm_Qv o.1 o.2)) 2 [(0, .ref v0), (1, .int v1), (2, .int v2), (3, .int v3)] [] I J) {rec10 : Nat → Int32 → Int32 → Int32 → Int32 → mm_I → mm_J → Option (mm_I × mm_J)} (hrec10 : ∀ {v0 : Nat} {v1 : Int32} {v2 : Int32} {v3 : Int32} {v4 : Int32} (_ : mm_is S v0 2) {I : mm_I} {J : mm_J} {o : mm_I × mm_J}, rec10 v0 v1 v2 v3 v4 I J = some o → mm_W l M2_passDrawnYears (mm_rm (mm_rk M2_passDrawnYears)) 0 0 S (mm_end S (mm_Qv o.1 o.2)) 10 [(0, .ref v0), (1, .int v1), (2, .int v2), (3, .int v3), (4, .int v4)] [] I J) {v0 : Nat} {v1 : Int32} {v2 : Int32} {v3 : Int32} {v4 : Int32} (h0 : mm_is S v0 2) {I : mm_I} {J : mm_J} {o : mm_I × mm_J} (h : f2_passDrawnYears_10_b S n rec2 rec10 v0 v1 v2 v3 v4 I J = some o) : mm_W l M2_passDrawnYears (mm_rm (mm_rk M2_passDrawnYears)) 0 0 S (mm_end S (mm_Qv o.1 o.2)) 10 [(0, .ref v0), (1, .int v1), (2, .int v2), (3, .int v3), (4, .int v4)] [] I J := by
  unfold f2_passDrawnYears_10_b at h
  refine mm_iload d2_passDrawnYears_10 rfl ?_
  refine mm_aload_n d2_passDrawnYears_12 rfl ?_
  refine mm_getR fl_X2_9 d2_passDrawnYears_13 (mm_wtR hS 100 h0 rfl rfl) ?_
  refine mm_getI fl_X2_110 d2_passDrawnYears_16 (mm_wtI hS (mm_wtT hS 0 0 h0 rfl) rfl) ?_
  refine mm_icmp_ge (tgt := 75) d2_passDrawnYears_19 (by decide) (fun hc1 => ?_) (fun hc1 => ?_)
  · rw [if_pos hc1] at h
    refine mm_aload_n d2_passDrawnYears_75 rfl ?_
    refine mm_getR fl_X2_19 d2_passDrawnYears_76 (mm_wtR hS 101 h0 rfl rfl) ?_
    refine mm_getI fl_X2_134 d2_passDrawnYears_79 (mm_wtI hS (mm_wtT hS 2 1 h0 rfl) rfl) ?_
    refine mm_istore d2_passDrawnYears_82 rfl rfl ?_
    refine mm_aload_n d2_passDrawnYears_84 rfl ?_
    obtain ⟨o2, hk2, h⟩ := mm_bd h
    refine mm_cVv 2 (As := []) (ok2_passYear l hS h0 hk2) lk_X2_204 rfl d2_passDrawnYears_85 (mm_room rfl rfl) rfl h0 rfl rfl ?_
    refine mm_aload_n d2_passDrawnYears_88 rfl ?_
    refine mm_iload d2_passDrawnYears_89 rfl ?_
    refine mm_aload_n d2_passDrawnYears_91 rfl ?_
    refine mm_getR fl_X2_19 d2_passDrawnYears_92 (mm_wtR hS 101 h0 rfl rfl) ?_
    refine mm_getI fl_X2_134 d2_passDrawnYears_95 (mm_wtI hS (mm_wtT hS 2 1 h0 rfl) rfl) ?_
    refine mm_iconst (v := (-1)) d2_passDrawnYears_98 (by decide +kernel) ?_
    refine mm_ixor d2_passDrawnYears_99 ?_
    refine mm_iand d2_passDrawnYears_100 ?_
    obtain ⟨o3, hk3, h⟩ := mm_bd h
    refine mm_cVv 2 (As := [.int ((I (mm_rf S v0 2) 8) &&& ((o2.1 (mm_rf S v0 2) 8) ^^^ (-1)))]) (ok2_bearChildren l hS h0 hk3) lk_X2_207 rfl d2_passDrawnYears_101 (mm_room rfl rfl) rfl h0 rfl rfl ?_
    refine mm_iinc (v := v3 + 1) d2_passDrawnYears_104 rfl rfl rfl rfl ?_
    refine mm_goto (tgt := 2) d2_passDrawnYears_107 (by decide) ?_
    refine mm_sub [(0, .ref v0), (1, .int v1), (2, .int v2), (3, .int (v3 + 1))] ⟨rfl, rfl, rfl, rfl, trivial⟩ ?_
    exact hrec2 h0 h
  · rw [if_neg hc1] at h
    refine mm_aload_n d2_passDrawnYears_22 rfl ?_
    refine mm_getR fl_X2_19 d2_passDrawnYears_23 (mm_wtR hS 101 h0 rfl rfl) ?_
    refine mm_iload d2_passDrawnYears_26 rfl ?_
    obtain ⟨o4, hk4, h⟩ := mm_bd h
    refine mm_cVi 1 (As := [.int v4]) (ok1_lives l hS (mm_wtT hS 2 1 h0 rfl) hk4) lk_X2_90 rfl d2_passDrawnYears_28 (mm_room rfl rfl) rfl (mm_wtT hS 2 1 h0 rfl) rfl rfl ?_
    refine mm_if_eq (tgt := 69) d2_passDrawnYears_31 (by decide) (fun hc5 => ?_) (fun hc5 => ?_)
    · rw [if_pos hc5] at h
      refine mm_sub [(0, .ref v0), (1, .int v1), (2, .int v2), (3, .int v3), (4, .int v4)] ⟨rfl, rfl, rfl, rfl, rfl, trivial⟩ ?_
      exact ok2_passDrawnYears_69 l hS hrec2 hrec10 h0 h
    · rw [if_neg hc5] at h
      refine mm_aload_n d2_passDrawnYears_34 rfl ?_
      refine mm_getR fl_X2_19 d2_passDrawnYears_35 (mm_wtR hS 101 h0 rfl rfl) ?_
      refine mm_getR fl_X2_93 d2_passDrawnYears_38 (mm_wtR hS 106 (mm_wtT hS 2 1 h0 rfl) rfl rfl) ?_
      refine mm_iload d2_passDrawnYears_41 rfl ?_
      obtain ⟨o6, hk6, h⟩ := mm_bd h
      refine mm_cVi 6 (As := [.int v4]) (ok6_at l hS (mm_wtT hS 4 6 (mm_wtT hS 2 1 h0 rfl) rfl) hk6) lk_X2_96 rfl d2_passDrawnYears_43 (mm_room rfl rfl) rfl (mm_wtT hS 4 6 (mm_wtT hS 2 1 h0 rfl) rfl) rfl rfl ?_
      refine mm_iconst (v := (-1)) d2_passDrawnYears_46 (by decide +kernel) ?_
      refine mm_icmp_ne (tgt := 69) d2_passDrawnYears_47 (by decide) (fun hc7 => ?_) (fun hc7 => ?_)
      · rw [if_neg hc7] at h
        refine mm_sub [(0, .ref v0), (1, .int v1), (2, .int v2), (3, .int v3), (4, .int v4)] ⟨rfl, rfl, rfl, rfl, rfl, trivial⟩ ?_
        exact ok2_passDrawnYears_69 l hS hrec2 hrec10 h0 h
      · rw [if_pos hc7] at h
        refine mm_aload_n d2_passDrawnYears_50 rfl ?_
        refine mm_getR fl_X2_19 d2_passDrawnYears_51 (mm_wtR hS 101 h0 rfl rfl) ?_
        refine mm_bipush (v := 100) d2_passDrawnYears_54 (by decide +kernel) ?_
        obtain ⟨o8, hk8, h⟩ := mm_bd h
        refine mm_cVi 1 (As := [.int 100]) (ok1_draw l hS (mm_wtT hS 2 1 h0 rfl) hk8) lk_X2_137 rfl d2_passDrawnYears_56 (mm_room rfl rfl) rfl (mm_wtT hS 2 1 h0 rfl) rfl rfl ?_
        refine mm_iload_n d2_passDrawnYears_59 rfl ?_
        refine mm_icmp_ge (tgt := 69) d2_passDrawnYears_60 (by decide) (fun hc9 => ?_) (fun hc9 => ?_)
        · rw [if_pos hc9] at h
          refine mm_sub [(0, .ref v0), (1, .int v1), (2, .int v2), (3, .int v3), (4, .int v4)] ⟨rfl, rfl, rfl, rfl, rfl, trivial⟩ ?_
          exact ok2_passDrawnYears_69 l hS hrec2 hrec10 h0 h
        · rw [if_neg hc9] at h
          refine mm_aload_n d2_passDrawnYears_63 rfl ?_
          refine mm_iload d2_passDrawnYears_64 rfl ?_
          obtain ⟨o10, hk10, h⟩ := mm_bd h
          refine mm_cVv 2 (As := [.int v4]) (ok2_tryDrawnChange l hS h0 hk10) lk_X2_201 rfl d2_passDrawnYears_66 (mm_room rfl rfl) rfl h0 rfl rfl ?_
          refine mm_sub [(0, .ref v0), (1, .int v1), (2, .int v2), (3, .int v3), (4, .int v4)] ⟨rfl, rfl, rfl, rfl, rfl, trivial⟩ ?_
          exact ok2_passDrawnYears_69 l hS hrec2 hrec10 h0 h
set_option maxHeartbeats 4000000 in
set_option maxRecDepth 100000 in
theorem ok2_passDrawnYears_10 (l : Launch) {S : mm_Sh} (hS : mm_WT S) {n : Nat}  {rec2 : Nat → Int32 → Int32 → Int32 → mm_I → mm_J → Option (mm_I × mm_J)} (hrec2 : ∀ {v0 : Nat} {v1 : Int32} {v2 : Int32} {v3 : Int32} (_ : mm_is S v0 2) {I : mm_I} {J : mm_J} {o : mm_I × mm_J}, rec2 v0 v1 v2 v3 I J = some o → mm_W l M2_passDrawnYears (mm_rm (mm_rk M2_passDrawnYears)) 0 0 S (mm_end S (mm_Qv o.1 o.2)) 2 [(0, .ref v0), (1, .int v1), (2, .int v2), (3, .int v3)] [] I J) : ∀ (k : Nat) {v0 : Nat} {v1 : Int32} {v2 : Int32} {v3 : Int32} {v4 : Int32} (h0 : mm_is S v0 2) {I : mm_I} {J : mm_J} {o : mm_I × mm_J}, f2_passDrawnYears_10 S n rec2 k v0 v1 v2 v3 v4 I J = some o → mm_W l M2_passDrawnYears (mm_rm (mm_rk M2_passDrawnYears)) 0 0 S (mm_end S (mm_Qv o.1 o.2)) 10 [(0, .ref v0), (1, .int v1), (2, .int v2), (3, .int v3), (4, .int v4)] [] I J := by
  intro k
  induction k with
  | zero =>
    intros
    rename_i h
    cases h
  | succ k ih =>
    intro v0 v1 v2 v3 v4 h0 I J o h
    exact ok2_passDrawnYears_10_b l hS hrec2 (fun {v0 v1 v2 v3 v4} h0 {I J o} h => ih h0 h) h0 h
set_option maxHeartbeats 4000000 in
set_option maxRecDepth 100000 in
theorem ok2_passDrawnYears_2_b (l : Launch) {S : mm_Sh} (hS : mm_WT S) {n : Nat}  {rec2 : Nat → Int32 → Int32 → Int32 → mm_I → mm_J → Option (mm_I × mm_J)} (hrec2 : ∀ {v0 : Nat} {v1 : Int32} {v2 : Int32} {v3 : Int32} (_ : mm_is S v0 2) {I : mm_I} {J : mm_J} {o : mm_I × mm_J}, rec2 v0 v1 v2 v3 I J = some o → mm_W l M2_passDrawnYears (mm_rm (mm_rk M2_passDrawnYears)) 0 0 S (mm_end S (mm_Qv o.1 o.2)) 2 [(0, .ref v0), (1, .int v1), (2, .int v2), (3, .int v3)] [] I J) {v0 : Nat} {v1 : Int32} {v2 : Int32} {v3 : Int32} (h0 : mm_is S v0 2) {I : mm_I} {J : mm_J} {o : mm_I × mm_J} (h : f2_passDrawnYears_2_b S n rec2 v0 v1 v2 v3 I J = some o) : mm_W l M2_passDrawnYears (mm_rm (mm_rk M2_passDrawnYears)) 0 0 S (mm_end S (mm_Qv o.1 o.2)) 2 [(0, .ref v0), (1, .int v1), (2, .int v2), (3, .int v3)] [] I J := by
  unfold f2_passDrawnYears_2_b at h
  refine mm_iload_n d2_passDrawnYears_2 rfl ?_
  refine mm_iload_n d2_passDrawnYears_3 rfl ?_
  refine mm_icmp_ge (tgt := 110) d2_passDrawnYears_4 (by decide) (fun hc1 => ?_) (fun hc1 => ?_)
  · rw [if_pos hc1] at h
    have h := Option.some.inj h
    subst h
    exact mm_vret rfl d2_passDrawnYears_110 ⟨rfl, rfl, rfl⟩
  · rw [if_neg hc1] at h
    refine mm_iconst (v := 0) d2_passDrawnYears_7 (by decide +kernel) ?_
    refine mm_istore d2_passDrawnYears_8 rfl rfl ?_
    refine mm_sub [(0, .ref v0), (1, .int v1), (2, .int v2), (3, .int v3), (4, .int 0)] ⟨rfl, rfl, rfl, rfl, rfl, trivial⟩ ?_
    exact ok2_passDrawnYears_10 l hS hrec2 n h0 h
set_option maxHeartbeats 4000000 in
set_option maxRecDepth 100000 in
theorem ok2_passDrawnYears_2 (l : Launch) {S : mm_Sh} (hS : mm_WT S) {n : Nat}  : ∀ (k : Nat) {v0 : Nat} {v1 : Int32} {v2 : Int32} {v3 : Int32} (h0 : mm_is S v0 2) {I : mm_I} {J : mm_J} {o : mm_I × mm_J}, f2_passDrawnYears_2 S n k v0 v1 v2 v3 I J = some o → mm_W l M2_passDrawnYears (mm_rm (mm_rk M2_passDrawnYears)) 0 0 S (mm_end S (mm_Qv o.1 o.2)) 2 [(0, .ref v0), (1, .int v1), (2, .int v2), (3, .int v3)] [] I J := by
  intro k
  induction k with
  | zero =>
    intros
    rename_i h
    cases h
  | succ k ih =>
    intro v0 v1 v2 v3 h0 I J o h
    exact ok2_passDrawnYears_2_b l hS (fun {v0 v1 v2 v3} h0 {I J o} h => ih h0 h) h0 h
set_option maxHeartbeats 4000000 in
set_option maxRecDepth 100000 in
theorem ok2_passDrawnYears (l : Launch) {S : mm_Sh} (hS : mm_WT S) {n : Nat}  {v0 : Nat} {v1 : Int32} {v2 : Int32} (h0 : mm_is S v0 2) {I : mm_I} {J : mm_J} {o : mm_I × mm_J} (h : f2_passDrawnYears S n v0 v1 v2 I J = some o) : mm_C l M2_passDrawnYears S [.ref v0, .int v1, .int v2] I J (mm_Qv o.1 o.2) := by
  unfold f2_passDrawnYears at h
  refine mm_enter rfl (by decide +kernel) rfl ?_
  refine mm_iconst (v := 0) d2_passDrawnYears_0 (by decide +kernel) ?_
  refine mm_istore_n d2_passDrawnYears_1 rfl rfl ?_
  refine mm_sub [(0, .ref v0), (1, .int v1), (2, .int v2), (3, .int 0)] ⟨rfl, rfl, rfl, rfl, trivial⟩ ?_
  exact ok2_passDrawnYears_2 l hS  n h0 h
set_option maxHeartbeats 4000000 in
set_option maxRecDepth 100000 in
theorem ok7_readClause_155 (l : Launch) {S : mm_Sh} (hS : mm_WT S) {n : Nat}  {v1 : Nat} (h1 : mm_is S v1 4) {I : mm_I} {J : mm_J} {o : mm_I × mm_J} (h : f7_readClause_155 S n v1 I J = some o) : mm_W l M7_readClause (mm_rm (mm_rk M7_readClause)) 0 0 S (mm_end S (mm_Qv o.1 o.2)) 155 [(1, .ref v1)] [] I J := by
  unfold f7_readClause_155 at h
  refine mm_aload_n d7_readClause_155 rfl ?_
  obtain ⟨o1, hk1, h⟩ := mm_bd h
  refine mm_cVv 4 (As := []) (ok4_closeClause l hS h1 hk1) lk_X7_77 rfl d7_readClause_156 (mm_room rfl rfl) rfl h1 rfl rfl ?_
  have h := Option.some.inj h
  subst h
  exact mm_vret rfl d7_readClause_159 ⟨rfl, rfl, rfl⟩
set_option maxHeartbeats 4000000 in
set_option maxRecDepth 100000 in
theorem ok7_readClause (l : Launch) {S : mm_Sh} (hS : mm_WT S) {n : Nat}  {v0 : Nat} {v1 : Nat} (h0 : mm_is S v0 7) (h1 : mm_is S v1 4) {I : mm_I} {J : mm_J} {o : mm_I × mm_J} (h : f7_readClause S n v0 v1 I J = some o) : mm_C l M7_readClause S [.ref v0, .ref v1] I J (mm_Qv o.1 o.2) := by
  unfold f7_readClause at h
  refine mm_enter rfl (by decide +kernel) rfl ?_
  refine mm_aload_n d7_readClause_0 rfl ?_
  refine mm_aload_n d7_readClause_1 rfl ?_
  refine mm_ldcS (i := 8) (tx := "holds") d7_readClause_2 (by decide +kernel) ?_
  refine mm_iconst (v := 1) d7_readClause_4 (by decide +kernel) ?_
  obtain ⟨o1, hk1, h⟩ := mm_bd h
  refine mm_cVi 7 (As := [.ref v1, .ref (1000000 + 8), .int 1]) (ok7_opens l hS h0 h1 ⟨8, by decide, rfl⟩ hk1) lk_X7_57 rfl d7_readClause_5 (mm_room rfl rfl) rfl h0 rfl rfl ?_
  refine mm_if_eq (tgt := 25) d7_readClause_8 (by decide) (fun hc2 => ?_) (fun hc2 => ?_)
  · rw [if_pos hc2] at h
    refine mm_aload_n d7_readClause_25 rfl ?_
    refine mm_aload_n d7_readClause_26 rfl ?_
    refine mm_ldcS (i := 9) (tx := "witnesses") d7_readClause_27 (by decide +kernel) ?_
    refine mm_iconst (v := 2) d7_readClause_29 (by decide +kernel) ?_
    obtain ⟨o3, hk3, h⟩ := mm_bd h
    refine mm_cVi 7 (As := [.ref v1, .ref (1000000 + 9), .int 2]) (ok7_opens l hS h0 h1 ⟨9, by decide, rfl⟩ hk3) lk_X7_57 rfl d7_readClause_30 (mm_room rfl rfl) rfl h0 rfl rfl ?_
    refine mm_if_eq (tgt := 49) d7_readClause_33 (by decide) (fun hc4 => ?_) (fun hc4 => ?_)
    · rw [if_pos hc4] at h
      refine mm_aload_n d7_readClause_49 rfl ?_
      refine mm_aload_n d7_readClause_50 rfl ?_
      refine mm_ldcS (i := 10) (tx := "fades") d7_readClause_51 (by decide +kernel) ?_
      refine mm_iconst (v := 4) d7_readClause_53 (by decide +kernel) ?_
      obtain ⟨o5, hk5, h⟩ := mm_bd h
      refine mm_cVi 7 (As := [.ref v1, .ref (1000000 + 10), .int 4]) (ok7_opens l hS h0 h1 ⟨10, by decide, rfl⟩ hk5) lk_X7_57 rfl d7_readClause_54 (mm_room rfl rfl) rfl h0 rfl rfl ?_
      refine mm_if_eq (tgt := 74) d7_readClause_57 (by decide) (fun hc6 => ?_) (fun hc6 => ?_)
      · rw [if_pos hc6] at h
        refine mm_aload_n d7_readClause_74 rfl ?_
        refine mm_aload_n d7_readClause_75 rfl ?_
        refine mm_ldcS (i := 11) (tx := "rusts") d7_readClause_76 (by decide +kernel) ?_
        refine mm_bipush (v := 8) d7_readClause_78 (by decide +kernel) ?_
        obtain ⟨o7, hk7, h⟩ := mm_bd h
        refine mm_cVi 7 (As := [.ref v1, .ref (1000000 + 11), .int 8]) (ok7_opens l hS h0 h1 ⟨11, by decide, rfl⟩ hk7) lk_X7_57 rfl d7_readClause_80 (mm_room rfl rfl) rfl h0 rfl rfl ?_
        refine mm_if_eq (tgt := 100) d7_readClause_83 (by decide) (fun hc8 => ?_) (fun hc8 => ?_)
        · rw [if_pos hc8] at h
          refine mm_aload_n d7_readClause_100 rfl ?_
          refine mm_aload_n d7_readClause_101 rfl ?_
          refine mm_ldcS (i := 12) (tx := "dies") d7_readClause_102 (by decide +kernel) ?_
          refine mm_bipush (v := 16) d7_readClause_104 (by decide +kernel) ?_
          obtain ⟨o9, hk9, h⟩ := mm_bd h
          refine mm_cVi 7 (As := [.ref v1, .ref (1000000 + 12), .int 16]) (ok7_opens l hS h0 h1 ⟨12, by decide, rfl⟩ hk9) lk_X7_57 rfl d7_readClause_106 (mm_room rfl rfl) rfl h0 rfl rfl ?_
          refine mm_if_eq (tgt := 126) d7_readClause_109 (by decide) (fun hc10 => ?_) (fun hc10 => ?_)
          · rw [if_pos hc10] at h
            refine mm_aload_n d7_readClause_126 rfl ?_
            refine mm_aload_n d7_readClause_127 rfl ?_
            refine mm_ldcS (i := 13) (tx := "lent") d7_readClause_128 (by decide +kernel) ?_
            refine mm_bipush (v := 32) d7_readClause_130 (by decide +kernel) ?_
            obtain ⟨o11, hk11, h⟩ := mm_bd h
            refine mm_cVi 7 (As := [.ref v1, .ref (1000000 + 13), .int 32]) (ok7_opens l hS h0 h1 ⟨13, by decide, rfl⟩ hk11) lk_X7_57 rfl d7_readClause_132 (mm_room rfl rfl) rfl h0 rfl rfl ?_
            refine mm_if_eq (tgt := 146) d7_readClause_135 (by decide) (fun hc12 => ?_) (fun hc12 => ?_)
            · rw [if_pos hc12] at h
              refine mm_aload_n d7_readClause_146 rfl ?_
              refine mm_iconst (v := 1) d7_readClause_147 (by decide +kernel) ?_
              refine mm_aload_n d7_readClause_148 rfl ?_
              refine mm_getI fl_X7_70 d7_readClause_149 (mm_wtI hS h1 rfl) ?_
              obtain ⟨o13, hk13, h⟩ := mm_bd h
              refine mm_cVv 4 (As := [.int 1, .int (o11.2.1 v1 3)]) (ok4_blame l hS h1 hk13) lk_X7_73 rfl d7_readClause_152 (mm_room rfl rfl) rfl h1 rfl rfl ?_
              refine mm_sub [(1, .ref v1)] ⟨rfl, trivial⟩ ?_
              exact ok7_readClause_155 l hS  h1 h
            · rw [if_neg hc12] at h
              refine mm_aload_n d7_readClause_138 rfl ?_
              refine mm_iconst (v := 1) d7_readClause_139 (by decide +kernel) ?_
              refine mm_putZ fp_X7_30 d7_readClause_140 (mm_wtI hS h0 rfl) (by decide) ?_
              refine mm_goto (tgt := 155) d7_readClause_143 (by decide) ?_
              refine mm_sub [(1, .ref v1)] ⟨rfl, trivial⟩ ?_
              exact ok7_readClause_155 l hS  h1 h
          · rw [if_neg hc10] at h
            refine mm_aload_n d7_readClause_112 rfl ?_
            refine mm_aload_n d7_readClause_113 rfl ?_
            refine mm_iconst (v := 1) d7_readClause_114 (by decide +kernel) ?_
            refine mm_bipush (v := 120) d7_readClause_115 (by decide +kernel) ?_
            obtain ⟨o14, hk14, h⟩ := mm_bd h
            refine mm_cVi 4 (As := [.int 1, .int 120]) (ok4_number l hS h1 hk14) lk_X7_61 rfl d7_readClause_117 (mm_room rfl rfl) rfl h1 rfl rfl ?_
            refine mm_putI fp_X7_27 d7_readClause_120 (mm_wtI hS h0 rfl) ?_
            refine mm_goto (tgt := 155) d7_readClause_123 (by decide) ?_
            refine mm_sub [(1, .ref v1)] ⟨rfl, trivial⟩ ?_
            exact ok7_readClause_155 l hS  h1 h
        · rw [if_neg hc8] at h
          refine mm_aload_n d7_readClause_86 rfl ?_
          refine mm_aload_n d7_readClause_87 rfl ?_
          refine mm_iconst (v := 0) d7_readClause_88 (by decide +kernel) ?_
          refine mm_bipush (v := 100) d7_readClause_89 (by decide +kernel) ?_
          obtain ⟨o15, hk15, h⟩ := mm_bd h
          refine mm_cVi 4 (As := [.int 0, .int 100]) (ok4_number l hS h1 hk15) lk_X7_61 rfl d7_readClause_91 (mm_room rfl rfl) rfl h1 rfl rfl ?_
          refine mm_putI fp_X7_24 d7_readClause_94 (mm_wtI hS h0 rfl) ?_
          refine mm_goto (tgt := 155) d7_readClause_97 (by decide) ?_
          refine mm_sub [(1, .ref v1)] ⟨rfl, trivial⟩ ?_
          exact ok7_readClause_155 l hS  h1 h
      · rw [if_neg hc6] at h
        refine mm_aload_n d7_readClause_60 rfl ?_
        refine mm_aload_n d7_readClause_61 rfl ?_
        refine mm_iconst (v := 1) d7_readClause_62 (by decide +kernel) ?_
        refine mm_bipush (v := 100) d7_readClause_63 (by decide +kernel) ?_
        obtain ⟨o16, hk16, h⟩ := mm_bd h
        refine mm_cVi 4 (As := [.int 1, .int 100]) (ok4_number l hS h1 hk16) lk_X7_61 rfl d7_readClause_65 (mm_room rfl rfl) rfl h1 rfl rfl ?_
        refine mm_putI fp_X7_21 d7_readClause_68 (mm_wtI hS h0 rfl) ?_
        refine mm_goto (tgt := 155) d7_readClause_71 (by decide) ?_
        refine mm_sub [(1, .ref v1)] ⟨rfl, trivial⟩ ?_
        exact ok7_readClause_155 l hS  h1 h
    · rw [if_neg hc4] at h
      refine mm_aload_n d7_readClause_36 rfl ?_
      refine mm_aload_n d7_readClause_37 rfl ?_
      refine mm_iconst (v := 0) d7_readClause_38 (by decide +kernel) ?_
      refine mm_iconst (v := 3) d7_readClause_39 (by decide +kernel) ?_
      obtain ⟨o17, hk17, h⟩ := mm_bd h
      refine mm_cVi 4 (As := [.int 0, .int 3]) (ok4_number l hS h1 hk17) lk_X7_61 rfl d7_readClause_40 (mm_room rfl rfl) rfl h1 rfl rfl ?_
      refine mm_putI fp_X7_18 d7_readClause_43 (mm_wtI hS h0 rfl) ?_
      refine mm_goto (tgt := 155) d7_readClause_46 (by decide) ?_
      refine mm_sub [(1, .ref v1)] ⟨rfl, trivial⟩ ?_
      exact ok7_readClause_155 l hS  h1 h
  · rw [if_neg hc2] at h
    refine mm_aload_n d7_readClause_11 rfl ?_
    refine mm_aload_n d7_readClause_12 rfl ?_
    refine mm_iconst (v := 1) d7_readClause_13 (by decide +kernel) ?_
    refine mm_bipush (v := 6) d7_readClause_14 (by decide +kernel) ?_
    obtain ⟨o18, hk18, h⟩ := mm_bd h
    refine mm_cVi 4 (As := [.int 1, .int 6]) (ok4_number l hS h1 hk18) lk_X7_61 rfl d7_readClause_16 (mm_room rfl rfl) rfl h1 rfl rfl ?_
    refine mm_putI fp_X7_14 d7_readClause_19 (mm_wtI hS h0 rfl) ?_
    refine mm_goto (tgt := 155) d7_readClause_22 (by decide) ?_
    refine mm_sub [(1, .ref v1)] ⟨rfl, trivial⟩ ?_
    exact ok7_readClause_155 l hS  h1 h
set_option maxHeartbeats 4000000 in
set_option maxRecDepth 100000 in
theorem ok9_tellTrade_152 (l : Launch) {S : mm_Sh} (hS : mm_WT S) {n : Nat}  {v0 : Nat} (h0 : mm_is S v0 9) {I : mm_I} {J : mm_J} {o : mm_I × mm_J} (h : f9_tellTrade_152 S n v0 I J = some o) : mm_W l M9_tellTrade (mm_rm (mm_rk M9_tellTrade)) 0 0 S (mm_end S (mm_Qv o.1 o.2)) 152 [(0, .ref v0)] [] I J := by
  unfold f9_tellTrade_152 at h
  refine mm_aload_n d9_tellTrade_152 rfl ?_
  refine mm_getR fl_X9_23 d9_tellTrade_153 (mm_wtR hS 100 h0 rfl rfl) ?_
  refine mm_dup d9_tellTrade_156 rfl ?_
  refine mm_getI fl_X9_80 d9_tellTrade_157 (mm_wtI hS (mm_wtT hS 1 0 h0 rfl) rfl) ?_
  refine mm_iconst (v := 1) d9_tellTrade_160 (by decide +kernel) ?_
  refine mm_iadd d9_tellTrade_161 ?_
  refine mm_putI fp_X9_80 d9_tellTrade_162 (mm_wtI hS (mm_wtT hS 1 0 h0 rfl) rfl) ?_
  have h := Option.some.inj h
  subst h
  exact mm_vret rfl d9_tellTrade_165 ⟨rfl, rfl, rfl⟩
set_option maxHeartbeats 4000000 in
set_option maxRecDepth 100000 in
theorem ok9_tellTrade_18 (l : Launch) {S : mm_Sh} (hS : mm_WT S) {n : Nat}  {v0 : Nat} {s0 : Nat} {s1 : Int32} (h0 : mm_is S v0 9) (g0 : mm_is S s0 9) {I : mm_I} {J : mm_J} {o : mm_I × mm_J} (h : f9_tellTrade_18 S n v0 s0 s1 I J = some o) : mm_W l M9_tellTrade (mm_rm (mm_rk M9_tellTrade)) 0 0 S (mm_end S (mm_Qv o.1 o.2)) 18 [(0, .ref v0)] [.int s1, .ref s0] I J := by
  unfold f9_tellTrade_18 at h
  obtain ⟨o1, hk1, h⟩ := mm_bd h
  refine mm_cVv 9 (As := [.int s1]) (ok9_openClause l hS g0 hk1) lk_X9_83 rfl d9_tellTrade_18 (mm_room rfl rfl) rfl g0 rfl rfl ?_
  refine mm_aload_n d9_tellTrade_21 rfl ?_
  refine mm_getR fl_X9_23 d9_tellTrade_22 (mm_wtR hS 100 h0 rfl rfl) ?_
  refine mm_getI fl_X9_80 d9_tellTrade_25 (mm_wtI hS (mm_wtT hS 1 0 h0 rfl) rfl) ?_
  refine mm_istore_n d9_tellTrade_28 rfl rfl ?_
  refine mm_aload_n d9_tellTrade_29 rfl ?_
  refine mm_getR fl_X9_23 d9_tellTrade_30 (mm_wtR hS 100 h0 rfl rfl) ?_
  refine mm_getR fl_X9_87 d9_tellTrade_33 (mm_wtR hS 106 (mm_wtT hS 1 0 h0 rfl) rfl rfl) ?_
  refine mm_iload_n d9_tellTrade_36 rfl ?_
  refine mm_aload_n d9_tellTrade_37 rfl ?_
  obtain ⟨o2, hk2, h⟩ := mm_bd h
  refine mm_cVi 9 (As := []) (ok9_kindHere l hS h0 hk2) lk_X9_91 rfl d9_tellTrade_38 (mm_room rfl rfl) rfl h0 rfl rfl ?_
  obtain ⟨o3, hk3, h⟩ := mm_bd h
  refine mm_cVv 6 (As := [.int (o1.1 (mm_rf S v0 1) 5), .int o2.1]) (ok6_put l hS (mm_wtT hS 0 6 (mm_wtT hS 1 0 h0 rfl) rfl) hk3) lk_X9_95 rfl d9_tellTrade_41 (mm_room rfl rfl) rfl (mm_wtT hS 0 6 (mm_wtT hS 1 0 h0 rfl) rfl) rfl rfl ?_
  refine mm_aload_n d9_tellTrade_44 rfl ?_
  refine mm_getR fl_X9_19 d9_tellTrade_45 (mm_wtR hS 104 h0 rfl rfl) ?_
  obtain ⟨o4, hk4, h⟩ := mm_bd h
  refine mm_cVv 4 (As := []) (ok4_advance l hS (mm_wtT hS 0 4 h0 rfl) hk4) lk_X9_100 rfl d9_tellTrade_48 (mm_room rfl rfl) rfl (mm_wtT hS 0 4 h0 rfl) rfl rfl ?_
  refine mm_aload_n d9_tellTrade_51 rfl ?_
  refine mm_getR fl_X9_23 d9_tellTrade_52 (mm_wtR hS 100 h0 rfl rfl) ?_
  refine mm_getR fl_X9_103 d9_tellTrade_55 (mm_wtR hS 106 (mm_wtT hS 1 0 h0 rfl) rfl rfl) ?_
  refine mm_iload_n d9_tellTrade_58 rfl ?_
  refine mm_aload_n d9_tellTrade_59 rfl ?_
  refine mm_getR fl_X9_19 d9_tellTrade_60 (mm_wtR hS 104 h0 rfl rfl) ?_
  refine mm_iconst (v := 1) d9_tellTrade_63 (by decide +kernel) ?_
  refine mm_bipush (v := 9) d9_tellTrade_64 (by decide +kernel) ?_
  obtain ⟨o5, hk5, h⟩ := mm_bd h
  refine mm_cVi 4 (As := [.int 1, .int 9]) (ok4_number l hS (mm_wtT hS 0 4 h0 rfl) hk5) lk_X9_106 rfl d9_tellTrade_66 (mm_room rfl rfl) rfl (mm_wtT hS 0 4 h0 rfl) rfl rfl ?_
  obtain ⟨o6, hk6, h⟩ := mm_bd h
  refine mm_cVv 6 (As := [.int (o1.1 (mm_rf S v0 1) 5), .int o5.1]) (ok6_put l hS (mm_wtT hS 1 6 (mm_wtT hS 1 0 h0 rfl) rfl) hk6) lk_X9_95 rfl d9_tellTrade_69 (mm_room rfl rfl) rfl (mm_wtT hS 1 6 (mm_wtT hS 1 0 h0 rfl) rfl) rfl rfl ?_
  refine mm_aload_n d9_tellTrade_72 rfl ?_
  refine mm_getR fl_X9_23 d9_tellTrade_73 (mm_wtR hS 100 h0 rfl rfl) ?_
  refine mm_getR fl_X9_110 d9_tellTrade_76 (mm_wtR hS 106 (mm_wtT hS 1 0 h0 rfl) rfl rfl) ?_
  refine mm_iload_n d9_tellTrade_79 rfl ?_
  refine mm_aload_n d9_tellTrade_80 rfl ?_
  refine mm_getR fl_X9_19 d9_tellTrade_81 (mm_wtR hS 104 h0 rfl rfl) ?_
  refine mm_iconst (v := 0) d9_tellTrade_84 (by decide +kernel) ?_
  refine mm_bipush (v := 99) d9_tellTrade_85 (by decide +kernel) ?_
  obtain ⟨o7, hk7, h⟩ := mm_bd h
  refine mm_cVi 4 (As := [.int 0, .int 99]) (ok4_number l hS (mm_wtT hS 0 4 h0 rfl) hk7) lk_X9_106 rfl d9_tellTrade_87 (mm_room rfl rfl) rfl (mm_wtT hS 0 4 h0 rfl) rfl rfl ?_
  obtain ⟨o8, hk8, h⟩ := mm_bd h
  refine mm_cVv 6 (As := [.int (o1.1 (mm_rf S v0 1) 5), .int o7.1]) (ok6_put l hS (mm_wtT hS 2 6 (mm_wtT hS 1 0 h0 rfl) rfl) hk8) lk_X9_95 rfl d9_tellTrade_90 (mm_room rfl rfl) rfl (mm_wtT hS 2 6 (mm_wtT hS 1 0 h0 rfl) rfl) rfl rfl ?_
  refine mm_aload_n d9_tellTrade_93 rfl ?_
  refine mm_getR fl_X9_23 d9_tellTrade_94 (mm_wtR hS 100 h0 rfl rfl) ?_
  refine mm_getR fl_X9_113 d9_tellTrade_97 (mm_wtR hS 106 (mm_wtT hS 1 0 h0 rfl) rfl rfl) ?_
  refine mm_iload_n d9_tellTrade_100 rfl ?_
  refine mm_iconst (v := (-1)) d9_tellTrade_101 (by decide +kernel) ?_
  obtain ⟨o9, hk9, h⟩ := mm_bd h
  refine mm_cVv 6 (As := [.int (o1.1 (mm_rf S v0 1) 5), .int (-1)]) (ok6_put l hS (mm_wtT hS 3 6 (mm_wtT hS 1 0 h0 rfl) rfl) hk9) lk_X9_95 rfl d9_tellTrade_102 (mm_room rfl rfl) rfl (mm_wtT hS 3 6 (mm_wtT hS 1 0 h0 rfl) rfl) rfl rfl ?_
  refine mm_aload_n d9_tellTrade_105 rfl ?_
  refine mm_getR fl_X9_19 d9_tellTrade_106 (mm_wtR hS 104 h0 rfl rfl) ?_
  refine mm_ldcS (i := 5) (tx := "needs") d9_tellTrade_109 (by decide +kernel) ?_
  obtain ⟨o10, hk10, h⟩ := mm_bd h
  refine mm_cVi 4 (As := [.ref (1000000 + 5)]) (ok4_sees l hS (mm_wtT hS 0 4 h0 rfl) ⟨5, by decide, rfl⟩ hk10) lk_X9_50 rfl d9_tellTrade_111 (mm_room rfl rfl) rfl (mm_wtT hS 0 4 h0 rfl) rfl rfl ?_
  refine mm_if_eq (tgt := 152) d9_tellTrade_114 (by decide) (fun hc11 => ?_) (fun hc11 => ?_)
  · rw [if_pos hc11] at h
    refine mm_sub [(0, .ref v0)] ⟨rfl, trivial⟩ ?_
    exact ok9_tellTrade_152 l hS  h0 h
  · rw [if_neg hc11] at h
    refine mm_aload_n d9_tellTrade_117 rfl ?_
    refine mm_getR fl_X9_19 d9_tellTrade_118 (mm_wtR hS 104 h0 rfl rfl) ?_
    obtain ⟨o12, hk12, h⟩ := mm_bd h
    refine mm_cVv 4 (As := []) (ok4_advance l hS (mm_wtT hS 0 4 h0 rfl) hk12) lk_X9_100 rfl d9_tellTrade_121 (mm_room rfl rfl) rfl (mm_wtT hS 0 4 h0 rfl) rfl rfl ?_
    refine mm_aload_n d9_tellTrade_124 rfl ?_
    refine mm_getR fl_X9_23 d9_tellTrade_125 (mm_wtR hS 100 h0 rfl rfl) ?_
    refine mm_getR fl_X9_113 d9_tellTrade_128 (mm_wtR hS 106 (mm_wtT hS 1 0 h0 rfl) rfl rfl) ?_
    refine mm_iload_n d9_tellTrade_131 rfl ?_
    refine mm_aload_n d9_tellTrade_132 rfl ?_
    refine mm_getR fl_X9_19 d9_tellTrade_133 (mm_wtR hS 104 h0 rfl rfl) ?_
    refine mm_iconst (v := 0) d9_tellTrade_136 (by decide +kernel) ?_
    refine mm_aload_n d9_tellTrade_137 rfl ?_
    refine mm_getR fl_X9_23 d9_tellTrade_138 (mm_wtR hS 100 h0 rfl rfl) ?_
    refine mm_getI fl_X9_80 d9_tellTrade_141 (mm_wtI hS (mm_wtT hS 1 0 h0 rfl) rfl) ?_
    refine mm_iconst (v := 1) d9_tellTrade_144 (by decide +kernel) ?_
    refine mm_isub d9_tellTrade_145 ?_
    obtain ⟨o13, hk13, h⟩ := mm_bd h
    refine mm_cVi 4 (As := [.int 0, .int ((o12.1 (mm_rf S v0 1) 5) - 1)]) (ok4_number l hS (mm_wtT hS 0 4 h0 rfl) hk13) lk_X9_106 rfl d9_tellTrade_146 (mm_room rfl rfl) rfl (mm_wtT hS 0 4 h0 rfl) rfl rfl ?_
    obtain ⟨o14, hk14, h⟩ := mm_bd h
    refine mm_cVv 6 (As := [.int (o1.1 (mm_rf S v0 1) 5), .int o13.1]) (ok6_put l hS (mm_wtT hS 3 6 (mm_wtT hS 1 0 h0 rfl) rfl) hk14) lk_X9_95 rfl d9_tellTrade_149 (mm_room rfl rfl) rfl (mm_wtT hS 3 6 (mm_wtT hS 1 0 h0 rfl) rfl) rfl rfl ?_
    refine mm_sub [(0, .ref v0)] ⟨rfl, trivial⟩ ?_
    exact ok9_tellTrade_152 l hS  h0 h
set_option maxHeartbeats 4000000 in
set_option maxRecDepth 100000 in
theorem ok9_tellTrade (l : Launch) {S : mm_Sh} (hS : mm_WT S) {n : Nat}  {v0 : Nat} (h0 : mm_is S v0 9) {I : mm_I} {J : mm_J} {o : mm_I × mm_J} (h : f9_tellTrade S n v0 I J = some o) : mm_C l M9_tellTrade S [.ref v0] I J (mm_Qv o.1 o.2) := by
  unfold f9_tellTrade at h
  refine mm_enter rfl (by decide +kernel) rfl ?_
  refine mm_aload_n d9_tellTrade_0 rfl ?_
  refine mm_aload_n d9_tellTrade_1 rfl ?_
  refine mm_getR fl_X9_23 d9_tellTrade_2 (mm_wtR hS 100 h0 rfl rfl) ?_
  refine mm_getI fl_X9_80 d9_tellTrade_5 (mm_wtI hS (mm_wtT hS 1 0 h0 rfl) rfl) ?_
  refine mm_bipush (v := 6) d9_tellTrade_8 (by decide +kernel) ?_
  refine mm_icmp_ge (tgt := 17) d9_tellTrade_10 (by decide) (fun hc1 => ?_) (fun hc1 => ?_)
  · rw [if_pos hc1] at h
    refine mm_iconst (v := 0) d9_tellTrade_17 (by decide +kernel) ?_
    refine mm_sub [(0, .ref v0)] ⟨rfl, trivial⟩ ?_
    exact ok9_tellTrade_18 l hS  h0 h0 h
  · rw [if_neg hc1] at h
    refine mm_iconst (v := 1) d9_tellTrade_13 (by decide +kernel) ?_
    refine mm_goto (tgt := 18) d9_tellTrade_14 (by decide) ?_
    refine mm_sub [(0, .ref v0)] ⟨rfl, trivial⟩ ?_
    exact ok9_tellTrade_18 l hS  h0 h0 h
set_option maxHeartbeats 4000000 in
set_option maxRecDepth 100000 in
theorem ok10_compared_30 (l : Launch) {S : mm_Sh} (hS : mm_WT S) {n : Nat}    {I : mm_I} {J : mm_J} {o : Int32 × mm_I × mm_J} (h : f10_compared_30 S n  I J = some o) : mm_W l M10_compared (mm_rm (mm_rk M10_compared)) 0 0 S (mm_end S (mm_Qi o.1 o.2.1 o.2.2)) 30 [] [] I J := by
  unfold f10_compared_30 at h
  refine mm_ldc (v := (-1000000002)) d10_compared_30 kX10_124 ?_
  have h := Option.some.inj h
  subst h
  exact mm_iret rfl d10_compared_32 ⟨rfl, rfl, rfl⟩
set_option maxHeartbeats 4000000 in
set_option maxRecDepth 100000 in
theorem ok10_compared (l : Launch) {S : mm_Sh} (hS : mm_WT S) {n : Nat}  {v0 : Nat} {v1 : Int32} {v2 : Int32} {v3 : Int32} (h0 : mm_is S v0 10) {I : mm_I} {J : mm_J} {o : Int32 × mm_I × mm_J} (h : f10_compared S n v0 v1 v2 v3 I J = some o) : mm_C l M10_compared S [.ref v0, .int v1, .int v2, .int v3] I J (mm_Qi o.1 o.2.1 o.2.2) := by
  unfold f10_compared at h
  refine mm_enter rfl (by decide +kernel) rfl ?_
  refine mm_iload_n d10_compared_0 rfl ?_
  refine mm_iconst (v := 1) d10_compared_1 (by decide +kernel) ?_
  refine mm_bipush (v := 90) d10_compared_2 (by decide +kernel) ?_
  obtain ⟨o1, hk1, h⟩ := mm_bd h
  refine mm_cSi (As := [.int v1, .int 1, .int 90]) (ok10_within l hS hk1) lk_X10_120 rfl d10_compared_4 (mm_room rfl rfl) rfl rfl ?_
  refine mm_if_eq (tgt := 30) d10_compared_7 (by decide) (fun hc2 => ?_) (fun hc2 => ?_)
  · rw [if_pos hc2] at h
    refine mm_sub [] trivial ?_
    exact ok10_compared_30 l hS   h
  · rw [if_neg hc2] at h
    refine mm_iload_n d10_compared_10 rfl ?_
    refine mm_iconst (v := 0) d10_compared_11 (by decide +kernel) ?_
    refine mm_bipush (v := 100) d10_compared_12 (by decide +kernel) ?_
    obtain ⟨o3, hk3, h⟩ := mm_bd h
    refine mm_cSi (As := [.int v2, .int 0, .int 100]) (ok10_within l hS hk3) lk_X10_120 rfl d10_compared_14 (mm_room rfl rfl) rfl rfl ?_
    refine mm_if_eq (tgt := 30) d10_compared_17 (by decide) (fun hc4 => ?_) (fun hc4 => ?_)
    · rw [if_pos hc4] at h
      refine mm_sub [] trivial ?_
      exact ok10_compared_30 l hS   h
    · rw [if_neg hc4] at h
      refine mm_iload_n d10_compared_20 rfl ?_
      refine mm_iconst (v := 1) d10_compared_21 (by decide +kernel) ?_
      refine mm_bipush (v := 6) d10_compared_22 (by decide +kernel) ?_
      obtain ⟨o5, hk5, h⟩ := mm_bd h
      refine mm_cSi (As := [.int v3, .int 1, .int 6]) (ok10_within l hS hk5) lk_X10_120 rfl d10_compared_24 (mm_room rfl rfl) rfl rfl ?_
      refine mm_if_ne (tgt := 33) d10_compared_27 (by decide) (fun hc6 => ?_) (fun hc6 => ?_)
      · rw [if_neg hc6] at h
        refine mm_aload_n d10_compared_33 rfl ?_
        refine mm_getR fl_X10_19 d10_compared_34 (mm_wtR hS 100 h0 rfl rfl) ?_
        refine mm_getI fl_X10_178 d10_compared_37 (mm_wtI hS (mm_wtT hS 1 0 h0 rfl) rfl) ?_
        refine mm_if_ne (tgt := 46) d10_compared_40 (by decide) (fun hc7 => ?_) (fun hc7 => ?_)
        · rw [if_neg hc7] at h
          refine mm_aload_n d10_compared_46 rfl ?_
          refine mm_getR fl_X10_52 d10_compared_47 (mm_wtR hS 101 h0 rfl rfl) ?_
          refine mm_aload_n d10_compared_50 rfl ?_
          refine mm_getR fl_X10_42 d10_compared_51 (mm_wtR hS 101 h0 rfl rfl) ?_
          obtain ⟨o8, hk8, h⟩ := mm_bd h
          refine mm_cVv 1 (As := [.ref (mm_rf S v0 6)]) (ok1_copyFrom l hS (mm_wtT hS 9 1 h0 rfl) (mm_wtT hS 6 1 h0 rfl) hk8) lk_X10_154 rfl d10_compared_54 (mm_room rfl rfl) rfl (mm_wtT hS 9 1 h0 rfl) rfl rfl ?_
          refine mm_aload_n d10_compared_57 rfl ?_
          refine mm_getR fl_X10_36 d10_compared_58 (mm_wtR hS 107 h0 rfl rfl) ?_
          refine mm_aload_n d10_compared_61 rfl ?_
          refine mm_getR fl_X10_29 d10_compared_62 (mm_wtR hS 107 h0 rfl rfl) ?_
          obtain ⟨o9, hk9, h⟩ := mm_bd h
          refine mm_cVv 7 (As := [.ref (mm_rf S v0 3)]) (ok7_copyFrom l hS (mm_wtT hS 5 7 h0 rfl) (mm_wtT hS 3 7 h0 rfl) hk9) lk_X10_172 rfl d10_compared_65 (mm_room rfl rfl) rfl (mm_wtT hS 5 7 h0 rfl) rfl rfl ?_
          refine mm_aload_n d10_compared_68 rfl ?_
          refine mm_getR fl_X10_36 d10_compared_69 (mm_wtR hS 107 h0 rfl rfl) ?_
          refine mm_iload_n d10_compared_72 rfl ?_
          refine mm_putI fp_X10_187 d10_compared_73 (mm_wtI hS (mm_wtT hS 5 7 h0 rfl) rfl) ?_
          refine mm_aload_n d10_compared_76 rfl ?_
          refine mm_getR fl_X10_95 d10_compared_77 (mm_wtR hS 102 h0 rfl rfl) ?_
          refine mm_iload_n d10_compared_80 rfl ?_
          refine mm_iload_n d10_compared_81 rfl ?_
          obtain ⟨o10, hk10, h⟩ := mm_bd h
          refine mm_cVv 2 (As := [.int v1, .int v2]) (ok2_passDrawnYears l hS (mm_wtT hS 16 2 h0 rfl) hk10) lk_X10_296 rfl d10_compared_82 (mm_room rfl rfl) rfl (mm_wtT hS 16 2 h0 rfl) rfl rfl ?_
          refine mm_aload_n d10_compared_85 rfl ?_
          refine mm_getR fl_X10_95 d10_compared_86 (mm_wtR hS 102 h0 rfl rfl) ?_
          obtain ⟨o11, hk11, h⟩ := mm_bd h
          refine mm_cVi 2 (As := []) (ok2_deadTrades l hS (mm_wtT hS 16 2 h0 rfl) hk11) lk_X10_212 rfl d10_compared_89 (mm_room rfl rfl) rfl (mm_wtT hS 16 2 h0 rfl) rfl rfl ?_
          obtain ⟨o12, hk12, h⟩ := mm_bd h
          refine mm_cSi (As := [.int o11]) (okJ6_bitCount l hS hk12) lk_X10_299 rfl d10_compared_92 (mm_room rfl rfl) rfl rfl ?_
          have h := Option.some.inj h
          subst h
          exact mm_iret rfl d10_compared_95 ⟨rfl, rfl, rfl⟩
        · rw [if_pos hc7] at h
          refine mm_ldc (v := (-1000000003)) d10_compared_43 kX10_167 ?_
          have h := Option.some.inj h
          subst h
          exact mm_iret rfl d10_compared_45 ⟨rfl, rfl, rfl⟩
      · rw [if_pos hc6] at h
        refine mm_sub [] trivial ?_
        exact ok10_compared_30 l hS   h
set_option maxHeartbeats 4000000 in
set_option maxRecDepth 100000 in
theorem ok10_drift_20 (l : Launch) {S : mm_Sh} (hS : mm_WT S) {n : Nat}    {I : mm_I} {J : mm_J} {o : Int32 × mm_I × mm_J} (h : f10_drift_20 S n  I J = some o) : mm_W l M10_drift (mm_rm (mm_rk M10_drift)) 0 0 S (mm_end S (mm_Qi o.1 o.2.1 o.2.2)) 20 [] [] I J := by
  unfold f10_drift_20 at h
  refine mm_ldc (v := (-1000000002)) d10_drift_20 kX10_124 ?_
  have h := Option.some.inj h
  subst h
  exact mm_iret rfl d10_drift_22 ⟨rfl, rfl, rfl⟩
set_option maxHeartbeats 4000000 in
set_option maxRecDepth 100000 in
theorem ok10_drift (l : Launch) {S : mm_Sh} (hS : mm_WT S) {n : Nat}  {v0 : Nat} {v1 : Int32} {v2 : Int32} (h0 : mm_is S v0 10) {I : mm_I} {J : mm_J} {o : Int32 × mm_I × mm_J} (h : f10_drift S n v0 v1 v2 I J = some o) : mm_C l M10_drift S [.ref v0, .int v1, .int v2] I J (mm_Qi o.1 o.2.1 o.2.2) := by
  unfold f10_drift at h
  refine mm_enter rfl (by decide +kernel) rfl ?_
  refine mm_iload_n d10_drift_0 rfl ?_
  refine mm_iconst (v := 1) d10_drift_1 (by decide +kernel) ?_
  refine mm_bipush (v := 90) d10_drift_2 (by decide +kernel) ?_
  obtain ⟨o1, hk1, h⟩ := mm_bd h
  refine mm_cSi (As := [.int v1, .int 1, .int 90]) (ok10_within l hS hk1) lk_X10_120 rfl d10_drift_4 (mm_room rfl rfl) rfl rfl ?_
  refine mm_if_eq (tgt := 20) d10_drift_7 (by decide) (fun hc2 => ?_) (fun hc2 => ?_)
  · rw [if_pos hc2] at h
    refine mm_sub [] trivial ?_
    exact ok10_drift_20 l hS   h
  · rw [if_neg hc2] at h
    refine mm_iload_n d10_drift_10 rfl ?_
    refine mm_iconst (v := 0) d10_drift_11 (by decide +kernel) ?_
    refine mm_bipush (v := 100) d10_drift_12 (by decide +kernel) ?_
    obtain ⟨o3, hk3, h⟩ := mm_bd h
    refine mm_cSi (As := [.int v2, .int 0, .int 100]) (ok10_within l hS hk3) lk_X10_120 rfl d10_drift_14 (mm_room rfl rfl) rfl rfl ?_
    refine mm_if_ne (tgt := 23) d10_drift_17 (by decide) (fun hc4 => ?_) (fun hc4 => ?_)
    · rw [if_neg hc4] at h
      refine mm_aload_n d10_drift_23 rfl ?_
      refine mm_getR fl_X10_19 d10_drift_24 (mm_wtR hS 100 h0 rfl rfl) ?_
      refine mm_getI fl_X10_178 d10_drift_27 (mm_wtI hS (mm_wtT hS 1 0 h0 rfl) rfl) ?_
      refine mm_if_ne (tgt := 36) d10_drift_30 (by decide) (fun hc5 => ?_) (fun hc5 => ?_)
      · rw [if_neg hc5] at h
        refine mm_aload_n d10_drift_36 rfl ?_
        refine mm_getR fl_X10_91 d10_drift_37 (mm_wtR hS 102 h0 rfl rfl) ?_
        refine mm_iload_n d10_drift_40 rfl ?_
        refine mm_iload_n d10_drift_41 rfl ?_
        obtain ⟨o6, hk6, h⟩ := mm_bd h
        refine mm_cVv 2 (As := [.int v1, .int v2]) (ok2_passDrawnYears l hS (mm_wtT hS 15 2 h0 rfl) hk6) lk_X10_296 rfl d10_drift_42 (mm_room rfl rfl) rfl (mm_wtT hS 15 2 h0 rfl) rfl rfl ?_
        refine mm_aload_n d10_drift_45 rfl ?_
        refine mm_getR fl_X10_91 d10_drift_46 (mm_wtR hS 102 h0 rfl rfl) ?_
        obtain ⟨o7, hk7, h⟩ := mm_bd h
        refine mm_cVi 2 (As := []) (ok2_deadTrades l hS (mm_wtT hS 15 2 h0 rfl) hk7) lk_X10_212 rfl d10_drift_49 (mm_room rfl rfl) rfl (mm_wtT hS 15 2 h0 rfl) rfl rfl ?_
        have h := Option.some.inj h
        subst h
        exact mm_iret rfl d10_drift_52 ⟨rfl, rfl, rfl⟩
      · rw [if_pos hc5] at h
        refine mm_ldc (v := (-1000000003)) d10_drift_33 kX10_167 ?_
        have h := Option.some.inj h
        subst h
        exact mm_iret rfl d10_drift_35 ⟨rfl, rfl, rfl⟩
    · rw [if_pos hc4] at h
      refine mm_sub [] trivial ?_
      exact ok10_drift_20 l hS   h
set_option maxHeartbeats 4000000 in
set_option maxRecDepth 100000 in
theorem ok7_readFrom_38 (l : Launch) {S : mm_Sh} (hS : mm_WT S) {n : Nat}  {v0 : Nat} (h0 : mm_is S v0 7) {I : mm_I} {J : mm_J} {o : Int32 × mm_I × mm_J} (h : f7_readFrom_38 S n v0 I J = some o) : mm_W l M7_readFrom (mm_rm (mm_rk M7_readFrom)) 0 0 S (mm_end S (mm_Qi o.1 o.2.1 o.2.2)) 38 [(0, .ref v0)] [] I J := by
  unfold f7_readFrom_38 at h
  refine mm_aload_n d7_readFrom_38 rfl ?_
  refine mm_getI fl_X7_34 d7_readFrom_39 (mm_wtI hS h0 rfl) ?_
  obtain ⟨o1, hk1, h⟩ := mm_bd h
  refine mm_cSi (As := [.int (I v0 6)]) (okJ6_bitCount l hS hk1) lk_X7_50 rfl d7_readFrom_42 (mm_room rfl rfl) rfl rfl ?_
  have h := Option.some.inj h
  subst h
  exact mm_iret rfl d7_readFrom_45 ⟨rfl, rfl, rfl⟩
set_option maxHeartbeats 4000000 in
set_option maxRecDepth 100000 in
theorem ok7_readFrom_6_b (l : Launch) {S : mm_Sh} (hS : mm_WT S) {n : Nat}  {rec6 : Nat → Nat → Int32 → mm_I → mm_J → Option (Int32 × mm_I × mm_J)} (hrec6 : ∀ {v0 : Nat} {v1 : Nat} {v2 : Int32} (_ : mm_is S v0 7) (_ : mm_is S v1 4) {I : mm_I} {J : mm_J} {o : Int32 × mm_I × mm_J}, rec6 v0 v1 v2 I J = some o → mm_W l M7_readFrom (mm_rm (mm_rk M7_readFrom)) 0 0 S (mm_end S (mm_Qi o.1 o.2.1 o.2.2)) 6 [(0, .ref v0), (1, .ref v1), (2, .int v2)] [] I J) {v0 : Nat} {v1 : Nat} {v2 : Int32} (h0 : mm_is S v0 7) (h1 : mm_is S v1 4) {I : mm_I} {J : mm_J} {o : Int32 × mm_I × mm_J} (h : f7_readFrom_6_b S n rec6 v0 v1 v2 I J = some o) : mm_W l M7_readFrom (mm_rm (mm_rk M7_readFrom)) 0 0 S (mm_end S (mm_Qi o.1 o.2.1 o.2.2)) 6 [(0, .ref v0), (1, .ref v1), (2, .int v2)] [] I J := by
  unfold f7_readFrom_6_b at h
  refine mm_iload_n d7_readFrom_6 rfl ?_
  refine mm_sipush (v := 500) d7_readFrom_7 (by decide +kernel) ?_
  refine mm_icmp_ge (tgt := 38) d7_readFrom_10 (by decide) (fun hc1 => ?_) (fun hc1 => ?_)
  · rw [if_pos hc1] at h
    refine mm_sub [(0, .ref v0)] ⟨rfl, trivial⟩ ?_
    exact ok7_readFrom_38 l hS  h0 h
  · rw [if_neg hc1] at h
    refine mm_aload_n d7_readFrom_13 rfl ?_
    obtain ⟨o2, hk2, h⟩ := mm_bd h
    refine mm_cVi 4 (As := []) (ok4_isSound l hS h1 hk2) lk_X7_37 rfl d7_readFrom_14 (mm_room rfl rfl) rfl h1 rfl rfl ?_
    refine mm_if_eq (tgt := 38) d7_readFrom_17 (by decide) (fun hc3 => ?_) (fun hc3 => ?_)
    · rw [if_pos hc3] at h
      refine mm_sub [(0, .ref v0)] ⟨rfl, trivial⟩ ?_
      exact ok7_readFrom_38 l hS  h0 h
    · rw [if_neg hc3] at h
      refine mm_aload_n d7_readFrom_20 rfl ?_
      refine mm_getI fl_X7_43 d7_readFrom_21 (mm_wtI hS h1 rfl) ?_
      refine mm_if_eq (tgt := 38) d7_readFrom_24 (by decide) (fun hc4 => ?_) (fun hc4 => ?_)
      · rw [if_pos hc4] at h
        refine mm_sub [(0, .ref v0)] ⟨rfl, trivial⟩ ?_
        exact ok7_readFrom_38 l hS  h0 h
      · rw [if_neg hc4] at h
        refine mm_aload_n d7_readFrom_27 rfl ?_
        refine mm_aload_n d7_readFrom_28 rfl ?_
        obtain ⟨o5, hk5, h⟩ := mm_bd h
        refine mm_cVv 7 (As := [.ref v1]) (ok7_readClause l hS h0 h1 hk5) lk_X7_46 rfl d7_readFrom_29 (mm_room rfl rfl) rfl h0 rfl rfl ?_
        refine mm_iinc (v := v2 + 1) d7_readFrom_32 rfl rfl rfl rfl ?_
        refine mm_goto (tgt := 6) d7_readFrom_35 (by decide) ?_
        refine mm_sub [(0, .ref v0), (1, .ref v1), (2, .int (v2 + 1))] ⟨rfl, rfl, rfl, trivial⟩ ?_
        exact hrec6 h0 h1 h
set_option maxHeartbeats 4000000 in
set_option maxRecDepth 100000 in
theorem ok7_readFrom_6 (l : Launch) {S : mm_Sh} (hS : mm_WT S) {n : Nat}  : ∀ (k : Nat) {v0 : Nat} {v1 : Nat} {v2 : Int32} (h0 : mm_is S v0 7) (h1 : mm_is S v1 4) {I : mm_I} {J : mm_J} {o : Int32 × mm_I × mm_J}, f7_readFrom_6 S n k v0 v1 v2 I J = some o → mm_W l M7_readFrom (mm_rm (mm_rk M7_readFrom)) 0 0 S (mm_end S (mm_Qi o.1 o.2.1 o.2.2)) 6 [(0, .ref v0), (1, .ref v1), (2, .int v2)] [] I J := by
  intro k
  induction k with
  | zero =>
    intros
    rename_i h
    cases h
  | succ k ih =>
    intro v0 v1 v2 h0 h1 I J o h
    exact ok7_readFrom_6_b l hS (fun {v0 v1 v2} h0 h1 {I J o} h => ih h0 h1 h) h0 h1 h
set_option maxHeartbeats 4000000 in
set_option maxRecDepth 100000 in
theorem ok7_readFrom (l : Launch) {S : mm_Sh} (hS : mm_WT S) {n : Nat}  {v0 : Nat} {v1 : Nat} (h0 : mm_is S v0 7) (h1 : mm_is S v1 4) {I : mm_I} {J : mm_J} {o : Int32 × mm_I × mm_J} (h : f7_readFrom S n v0 v1 I J = some o) : mm_C l M7_readFrom S [.ref v0, .ref v1] I J (mm_Qi o.1 o.2.1 o.2.2) := by
  unfold f7_readFrom at h
  refine mm_enter rfl (by decide +kernel) rfl ?_
  refine mm_aload_n d7_readFrom_0 rfl ?_
  obtain ⟨o1, hk1, h⟩ := mm_bd h
  refine mm_cVv 7 (As := []) (ok7_clear l hS h0 hk1) lk_X7_9 rfl d7_readFrom_1 (mm_room rfl rfl) rfl h0 rfl rfl ?_
  refine mm_iconst (v := 0) d7_readFrom_4 (by decide +kernel) ?_
  refine mm_istore_n d7_readFrom_5 rfl rfl ?_
  refine mm_sub [(0, .ref v0), (1, .ref v1), (2, .int 0)] ⟨rfl, rfl, rfl, trivial⟩ ?_
  exact ok7_readFrom_6 l hS  n h0 h1 h
set_option maxHeartbeats 4000000 in
set_option maxRecDepth 100000 in
theorem ok9_tellAll_135 (l : Launch) {S : mm_Sh} (hS : mm_WT S) {n : Nat}  {rec26 : Nat → Int32 → mm_I → mm_J → Option (mm_I × mm_J)} (hrec26 : ∀ {v0 : Nat} {v1 : Int32} (_ : mm_is S v0 9) {I : mm_I} {J : mm_J} {o : mm_I × mm_J}, rec26 v0 v1 I J = some o → mm_W l M9_tellAll (mm_rm (mm_rk M9_tellAll)) 0 0 S (mm_end S (mm_Qv o.1 o.2)) 26 [(0, .ref v0), (1, .int v1)] [] I J) {v0 : Nat} {v1 : Int32} (h0 : mm_is S v0 9) {I : mm_I} {J : mm_J} {o : mm_I × mm_J} (h : f9_tellAll_135 S n rec26 v0 v1 I J = some o) : mm_W l M9_tellAll (mm_rm (mm_rk M9_tellAll)) 0 0 S (mm_end S (mm_Qv o.1 o.2)) 135 [(0, .ref v0), (1, .int v1)] [] I J := by
  unfold f9_tellAll_135 at h
  refine mm_aload_n d9_tellAll_135 rfl ?_
  refine mm_getR fl_X9_19 d9_tellAll_136 (mm_wtR hS 104 h0 rfl rfl) ?_
  obtain ⟨o1, hk1, h⟩ := mm_bd h
  refine mm_cVv 4 (As := []) (ok4_closeClause l hS (mm_wtT hS 0 4 h0 rfl) hk1) lk_X9_77 rfl d9_tellAll_139 (mm_room rfl rfl) rfl (mm_wtT hS 0 4 h0 rfl) rfl rfl ?_
  refine mm_iinc (v := v1 + 1) d9_tellAll_142 rfl rfl rfl rfl ?_
  refine mm_goto (tgt := 26) d9_tellAll_145 (by decide) ?_
  refine mm_sub [(0, .ref v0), (1, .int (v1 + 1))] ⟨rfl, rfl, trivial⟩ ?_
  exact hrec26 h0 h
set_option maxHeartbeats 4000000 in
set_option maxRecDepth 100000 in
theorem ok9_tellAll_82 (l : Launch) {S : mm_Sh} (hS : mm_WT S) {n : Nat}  {rec26 : Nat → Int32 → mm_I → mm_J → Option (mm_I × mm_J)} (hrec26 : ∀ {v0 : Nat} {v1 : Int32} (_ : mm_is S v0 9) {I : mm_I} {J : mm_J} {o : mm_I × mm_J}, rec26 v0 v1 I J = some o → mm_W l M9_tellAll (mm_rm (mm_rk M9_tellAll)) 0 0 S (mm_end S (mm_Qv o.1 o.2)) 26 [(0, .ref v0), (1, .int v1)] [] I J) {v0 : Nat} {v1 : Int32} (h0 : mm_is S v0 9) {I : mm_I} {J : mm_J} {o : mm_I × mm_J} (h : f9_tellAll_82 S n rec26 v0 v1 I J = some o) : mm_W l M9_tellAll (mm_rm (mm_rk M9_tellAll)) 0 0 S (mm_end S (mm_Qv o.1 o.2)) 82 [(0, .ref v0), (1, .int v1)] [] I J := by
  unfold f9_tellAll_82 at h
  refine mm_aload_n d9_tellAll_82 rfl ?_
  refine mm_getR fl_X9_19 d9_tellAll_83 (mm_wtR hS 104 h0 rfl rfl) ?_
  refine mm_ldcS (i := 6) (tx := "person") d9_tellAll_86 (by decide +kernel) ?_
  obtain ⟨o1, hk1, h⟩ := mm_bd h
  refine mm_cVi 4 (As := [.ref (1000000 + 6)]) (ok4_sees l hS (mm_wtT hS 0 4 h0 rfl) ⟨6, by decide, rfl⟩ hk1) lk_X9_50 rfl d9_tellAll_88 (mm_room rfl rfl) rfl (mm_wtT hS 0 4 h0 rfl) rfl rfl ?_
  refine mm_if_eq (tgt := 101) d9_tellAll_91 (by decide) (fun hc2 => ?_) (fun hc2 => ?_)
  · rw [if_pos hc2] at h
    refine mm_aload_n d9_tellAll_101 rfl ?_
    refine mm_getR fl_X9_19 d9_tellAll_102 (mm_wtR hS 104 h0 rfl rfl) ?_
    refine mm_ldcS (i := 7) (tx := "likes") d9_tellAll_105 (by decide +kernel) ?_
    obtain ⟨o3, hk3, h⟩ := mm_bd h
    refine mm_cVi 4 (As := [.ref (1000000 + 7)]) (ok4_sees l hS (mm_wtT hS 0 4 h0 rfl) ⟨7, by decide, rfl⟩ hk3) lk_X9_50 rfl d9_tellAll_107 (mm_room rfl rfl) rfl (mm_wtT hS 0 4 h0 rfl) rfl rfl ?_
    refine mm_if_eq (tgt := 120) d9_tellAll_110 (by decide) (fun hc4 => ?_) (fun hc4 => ?_)
    · rw [if_pos hc4] at h
      refine mm_aload_n d9_tellAll_120 rfl ?_
      refine mm_getR fl_X9_19 d9_tellAll_121 (mm_wtR hS 104 h0 rfl rfl) ?_
      refine mm_iconst (v := 1) d9_tellAll_124 (by decide +kernel) ?_
      refine mm_aload_n d9_tellAll_125 rfl ?_
      refine mm_getR fl_X9_19 d9_tellAll_126 (mm_wtR hS 104 h0 rfl rfl) ?_
      refine mm_getI fl_X9_70 d9_tellAll_129 (mm_wtI hS (mm_wtT hS 0 4 h0 rfl) rfl) ?_
      obtain ⟨o5, hk5, h⟩ := mm_bd h
      refine mm_cVv 4 (As := [.int 1, .int (I (mm_rf S v0 0) 3)]) (ok4_blame l hS (mm_wtT hS 0 4 h0 rfl) hk5) lk_X9_73 rfl d9_tellAll_132 (mm_room rfl rfl) rfl (mm_wtT hS 0 4 h0 rfl) rfl rfl ?_
      refine mm_sub [(0, .ref v0), (1, .int v1)] ⟨rfl, rfl, trivial⟩ ?_
      exact ok9_tellAll_135 l hS hrec26 h0 h
    · rw [if_neg hc4] at h
      refine mm_aload_n d9_tellAll_113 rfl ?_
      obtain ⟨o6, hk6, h⟩ := mm_bd h
      refine mm_cVv 9 (As := []) (ok9_tellLike l hS h0 hk6) lk_X9_67 rfl d9_tellAll_114 (mm_room rfl rfl) rfl h0 rfl rfl ?_
      refine mm_goto (tgt := 135) d9_tellAll_117 (by decide) ?_
      refine mm_sub [(0, .ref v0), (1, .int v1)] ⟨rfl, rfl, trivial⟩ ?_
      exact ok9_tellAll_135 l hS hrec26 h0 h
  · rw [if_neg hc2] at h
    refine mm_aload_n d9_tellAll_94 rfl ?_
    obtain ⟨o7, hk7, h⟩ := mm_bd h
    refine mm_cVv 9 (As := []) (ok9_tellPerson l hS h0 hk7) lk_X9_62 rfl d9_tellAll_95 (mm_room rfl rfl) rfl h0 rfl rfl ?_
    refine mm_goto (tgt := 135) d9_tellAll_98 (by decide) ?_
    refine mm_sub [(0, .ref v0), (1, .int v1)] ⟨rfl, rfl, trivial⟩ ?_
    exact ok9_tellAll_135 l hS hrec26 h0 h
set_option maxHeartbeats 4000000 in
set_option maxRecDepth 100000 in
theorem ok9_tellAll_148 (l : Launch) {S : mm_Sh} (hS : mm_WT S) {n : Nat}    {I : mm_I} {J : mm_J} {o : mm_I × mm_J} (h : f9_tellAll_148 S n  I J = some o) : mm_W l M9_tellAll (mm_rm (mm_rk M9_tellAll)) 0 0 S (mm_end S (mm_Qv o.1 o.2)) 148 [] [] I J := by
  unfold f9_tellAll_148 at h
  have h := Option.some.inj h
  subst h
  exact mm_vret rfl d9_tellAll_148 ⟨rfl, rfl, rfl⟩
set_option maxHeartbeats 4000000 in
set_option maxRecDepth 100000 in
theorem ok9_tellAll_26_b (l : Launch) {S : mm_Sh} (hS : mm_WT S) {n : Nat}  {rec26 : Nat → Int32 → mm_I → mm_J → Option (mm_I × mm_J)} (hrec26 : ∀ {v0 : Nat} {v1 : Int32} (_ : mm_is S v0 9) {I : mm_I} {J : mm_J} {o : mm_I × mm_J}, rec26 v0 v1 I J = some o → mm_W l M9_tellAll (mm_rm (mm_rk M9_tellAll)) 0 0 S (mm_end S (mm_Qv o.1 o.2)) 26 [(0, .ref v0), (1, .int v1)] [] I J) {v0 : Nat} {v1 : Int32} (h0 : mm_is S v0 9) {I : mm_I} {J : mm_J} {o : mm_I × mm_J} (h : f9_tellAll_26_b S n rec26 v0 v1 I J = some o) : mm_W l M9_tellAll (mm_rm (mm_rk M9_tellAll)) 0 0 S (mm_end S (mm_Qv o.1 o.2)) 26 [(0, .ref v0), (1, .int v1)] [] I J := by
  unfold f9_tellAll_26_b at h
  refine mm_iload_n d9_tellAll_26 rfl ?_
  refine mm_sipush (v := 500) d9_tellAll_27 (by decide +kernel) ?_
  refine mm_icmp_ge (tgt := 148) d9_tellAll_30 (by decide) (fun hc1 => ?_) (fun hc1 => ?_)
  · rw [if_pos hc1] at h
    refine mm_sub [] trivial ?_
    exact ok9_tellAll_148 l hS   h
  · rw [if_neg hc1] at h
    refine mm_aload_n d9_tellAll_33 rfl ?_
    refine mm_getR fl_X9_19 d9_tellAll_34 (mm_wtR hS 104 h0 rfl rfl) ?_
    obtain ⟨o2, hk2, h⟩ := mm_bd h
    refine mm_cVi 4 (As := []) (ok4_isSound l hS (mm_wtT hS 0 4 h0 rfl) hk2) lk_X9_39 rfl d9_tellAll_37 (mm_room rfl rfl) rfl (mm_wtT hS 0 4 h0 rfl) rfl rfl ?_
    refine mm_if_eq (tgt := 148) d9_tellAll_40 (by decide) (fun hc3 => ?_) (fun hc3 => ?_)
    · rw [if_pos hc3] at h
      refine mm_sub [] trivial ?_
      exact ok9_tellAll_148 l hS   h
    · rw [if_neg hc3] at h
      refine mm_aload_n d9_tellAll_43 rfl ?_
      refine mm_getR fl_X9_19 d9_tellAll_44 (mm_wtR hS 104 h0 rfl rfl) ?_
      refine mm_getI fl_X9_45 d9_tellAll_47 (mm_wtI hS (mm_wtT hS 0 4 h0 rfl) rfl) ?_
      refine mm_if_eq (tgt := 148) d9_tellAll_50 (by decide) (fun hc4 => ?_) (fun hc4 => ?_)
      · rw [if_pos hc4] at h
        refine mm_sub [] trivial ?_
        exact ok9_tellAll_148 l hS   h
      · rw [if_neg hc4] at h
        refine mm_aload_n d9_tellAll_53 rfl ?_
        refine mm_getR fl_X9_19 d9_tellAll_54 (mm_wtR hS 104 h0 rfl rfl) ?_
        refine mm_ldcS (i := 0) (tx := "trade") d9_tellAll_57 (by decide +kernel) ?_
        obtain ⟨o5, hk5, h⟩ := mm_bd h
        refine mm_cVi 4 (As := [.ref (1000000 + 0)]) (ok4_sees l hS (mm_wtT hS 0 4 h0 rfl) ⟨0, by decide, rfl⟩ hk5) lk_X9_50 rfl d9_tellAll_59 (mm_room rfl rfl) rfl (mm_wtT hS 0 4 h0 rfl) rfl rfl ?_
        refine mm_if_eq (tgt := 82) d9_tellAll_62 (by decide) (fun hc6 => ?_) (fun hc6 => ?_)
        · rw [if_pos hc6] at h
          refine mm_sub [(0, .ref v0), (1, .int v1)] ⟨rfl, rfl, trivial⟩ ?_
          exact ok9_tellAll_82 l hS hrec26 h0 h
        · rw [if_neg hc6] at h
          refine mm_aload_n d9_tellAll_65 rfl ?_
          refine mm_getR fl_X9_23 d9_tellAll_66 (mm_wtR hS 100 h0 rfl rfl) ?_
          refine mm_getI fl_X9_54 d9_tellAll_69 (mm_wtI hS (mm_wtT hS 1 0 h0 rfl) rfl) ?_
          refine mm_if_ne (tgt := 82) d9_tellAll_72 (by decide) (fun hc7 => ?_) (fun hc7 => ?_)
          · rw [if_neg hc7] at h
            refine mm_sub [(0, .ref v0), (1, .int v1)] ⟨rfl, rfl, trivial⟩ ?_
            exact ok9_tellAll_82 l hS hrec26 h0 h
          · rw [if_pos hc7] at h
            refine mm_aload_n d9_tellAll_75 rfl ?_
            obtain ⟨o8, hk8, h⟩ := mm_bd h
            refine mm_cVv 9 (As := []) (ok9_tellTrade l hS h0 hk8) lk_X9_57 rfl d9_tellAll_76 (mm_room rfl rfl) rfl h0 rfl rfl ?_
            refine mm_goto (tgt := 135) d9_tellAll_79 (by decide) ?_
            refine mm_sub [(0, .ref v0), (1, .int v1)] ⟨rfl, rfl, trivial⟩ ?_
            exact ok9_tellAll_135 l hS hrec26 h0 h
set_option maxHeartbeats 4000000 in
set_option maxRecDepth 100000 in
theorem ok9_tellAll_26 (l : Launch) {S : mm_Sh} (hS : mm_WT S) {n : Nat}  : ∀ (k : Nat) {v0 : Nat} {v1 : Int32} (h0 : mm_is S v0 9) {I : mm_I} {J : mm_J} {o : mm_I × mm_J}, f9_tellAll_26 S n k v0 v1 I J = some o → mm_W l M9_tellAll (mm_rm (mm_rk M9_tellAll)) 0 0 S (mm_end S (mm_Qv o.1 o.2)) 26 [(0, .ref v0), (1, .int v1)] [] I J := by
  intro k
  induction k with
  | zero =>
    intros
    rename_i h
    cases h
  | succ k ih =>
    intro v0 v1 h0 I J o h
    exact ok9_tellAll_26_b l hS (fun {v0 v1} h0 {I J o} h => ih h0 h) h0 h
set_option maxHeartbeats 4000000 in
set_option maxRecDepth 100000 in
theorem ok9_tellAll (l : Launch) {S : mm_Sh} (hS : mm_WT S) {n : Nat}  {v0 : Nat} (h0 : mm_is S v0 9) {I : mm_I} {J : mm_J} {o : mm_I × mm_J} (h : f9_tellAll S n v0 I J = some o) : mm_C l M9_tellAll S [.ref v0] I J (mm_Qv o.1 o.2) := by
  unfold f9_tellAll at h
  refine mm_enter rfl (by decide +kernel) rfl ?_
  refine mm_aload_n d9_tellAll_0 rfl ?_
  refine mm_getR fl_X9_23 d9_tellAll_1 (mm_wtR hS 100 h0 rfl rfl) ?_
  obtain ⟨o1, hk1, h⟩ := mm_bd h
  refine mm_cVv 0 (As := []) (ok0_clear l hS (mm_wtT hS 1 0 h0 rfl) hk1) lk_X9_31 rfl d9_tellAll_4 (mm_room rfl rfl) rfl (mm_wtT hS 1 0 h0 rfl) rfl rfl ?_
  refine mm_aload_n d9_tellAll_7 rfl ?_
  refine mm_getR fl_X9_27 d9_tellAll_8 (mm_wtR hS 101 h0 rfl rfl) ?_
  obtain ⟨o2, hk2, h⟩ := mm_bd h
  refine mm_cVv 1 (As := []) (ok1_clear l hS (mm_wtT hS 2 1 h0 rfl) hk2) lk_X9_36 rfl d9_tellAll_11 (mm_room rfl rfl) rfl (mm_wtT hS 2 1 h0 rfl) rfl rfl ?_
  refine mm_aload_n d9_tellAll_14 rfl ?_
  refine mm_iconst (v := 0) d9_tellAll_15 (by decide +kernel) ?_
  refine mm_putI fp_X9_9 d9_tellAll_16 (mm_wtI hS h0 rfl) ?_
  refine mm_aload_n d9_tellAll_19 rfl ?_
  refine mm_lconst (v := 0) d9_tellAll_20 (by decide +kernel) ?_
  refine mm_putJ fp_X9_15 d9_tellAll_21 (mm_wtJ hS h0 rfl) ?_
  refine mm_iconst (v := 0) d9_tellAll_24 (by decide +kernel) ?_
  refine mm_istore_n d9_tellAll_25 rfl rfl ?_
  refine mm_sub [(0, .ref v0), (1, .int 0)] ⟨rfl, rfl, trivial⟩ ?_
  exact ok9_tellAll_26 l hS  n h0 h
set_option maxHeartbeats 4000000 in
set_option maxRecDepth 100000 in
theorem ok10_laws (l : Launch) {S : mm_Sh} (hS : mm_WT S) {n : Nat}  {v0 : Nat} (h0 : mm_is S v0 10) {I : mm_I} {J : mm_J} {o : Int32 × mm_I × mm_J} (h : f10_laws S n v0 I J = some o) : mm_C l M10_laws S [.ref v0] I J (mm_Qi o.1 o.2.1 o.2.2) := by
  unfold f10_laws at h
  refine mm_enter rfl (by decide +kernel) rfl ?_
  refine mm_aload_n d10_laws_0 rfl ?_
  refine mm_getR fl_X10_10 d10_laws_1 (mm_wtR hS 104 h0 rfl rfl) ?_
  refine mm_getI fl_X10_125 d10_laws_4 (mm_wtI hS (mm_wtT hS 0 4 h0 rfl) rfl) ?_
  refine mm_sipush (v := 200) d10_laws_7 (by decide +kernel) ?_
  refine mm_icmp_le (tgt := 16) d10_laws_10 (by decide) (fun hc1 => ?_) (fun hc1 => ?_)
  · rw [if_pos hc1] at h
    refine mm_aload_n d10_laws_16 rfl ?_
    refine mm_getR fl_X10_10 d10_laws_17 (mm_wtR hS 104 h0 rfl rfl) ?_
    obtain ⟨o2, hk2, h⟩ := mm_bd h
    refine mm_cVv 4 (As := []) (ok4_open l hS (mm_wtT hS 0 4 h0 rfl) hk2) lk_X10_134 rfl d10_laws_20 (mm_room rfl rfl) rfl (mm_wtT hS 0 4 h0 rfl) rfl rfl ?_
    refine mm_aload_n d10_laws_23 rfl ?_
    refine mm_getR fl_X10_33 d10_laws_24 (mm_wtR hS 107 h0 rfl rfl) ?_
    refine mm_aload_n d10_laws_27 rfl ?_
    refine mm_getR fl_X10_10 d10_laws_28 (mm_wtR hS 104 h0 rfl rfl) ?_
    obtain ⟨o3, hk3, h⟩ := mm_bd h
    refine mm_cVi 7 (As := [.ref (mm_rf S v0 0)]) (ok7_readFrom l hS (mm_wtT hS 4 7 h0 rfl) (mm_wtT hS 0 4 h0 rfl) hk3) lk_X10_168 rfl d10_laws_31 (mm_room rfl rfl) rfl (mm_wtT hS 4 7 h0 rfl) rfl rfl ?_
    refine mm_istore_n d10_laws_34 rfl rfl ?_
    refine mm_aload_n d10_laws_35 rfl ?_
    refine mm_getR fl_X10_10 d10_laws_36 (mm_wtR hS 104 h0 rfl rfl) ?_
    obtain ⟨o4, hk4, h⟩ := mm_bd h
    refine mm_cVv 4 (As := []) (ok4_clear l hS (mm_wtT hS 0 4 h0 rfl) hk4) lk_X10_140 rfl d10_laws_39 (mm_room rfl rfl) rfl (mm_wtT hS 0 4 h0 rfl) rfl rfl ?_
    refine mm_aload_n d10_laws_42 rfl ?_
    refine mm_getR fl_X10_10 d10_laws_43 (mm_wtR hS 104 h0 rfl rfl) ?_
    obtain ⟨o5, hk5, h⟩ := mm_bd h
    refine mm_cVi 4 (As := []) (ok4_isSound l hS (mm_wtT hS 0 4 h0 rfl) hk5) lk_X10_143 rfl d10_laws_46 (mm_room rfl rfl) rfl (mm_wtT hS 0 4 h0 rfl) rfl rfl ?_
    refine mm_if_ne (tgt := 63) d10_laws_49 (by decide) (fun hc6 => ?_) (fun hc6 => ?_)
    · rw [if_neg hc6] at h
      refine mm_aload_n d10_laws_63 rfl ?_
      refine mm_getR fl_X10_29 d10_laws_64 (mm_wtR hS 107 h0 rfl rfl) ?_
      refine mm_aload_n d10_laws_67 rfl ?_
      refine mm_getR fl_X10_33 d10_laws_68 (mm_wtR hS 107 h0 rfl rfl) ?_
      obtain ⟨o7, hk7, h⟩ := mm_bd h
      refine mm_cVv 7 (As := [.ref (mm_rf S v0 4)]) (ok7_copyFrom l hS (mm_wtT hS 3 7 h0 rfl) (mm_wtT hS 4 7 h0 rfl) hk7) lk_X10_172 rfl d10_laws_71 (mm_room rfl rfl) rfl (mm_wtT hS 3 7 h0 rfl) rfl rfl ?_
      refine mm_iload_n d10_laws_74 rfl ?_
      have h := Option.some.inj h
      subst h
      exact mm_iret rfl d10_laws_75 ⟨rfl, rfl, rfl⟩
    · rw [if_pos hc6] at h
      refine mm_bipush (v := (-10)) d10_laws_52 (by decide +kernel) ?_
      refine mm_aload_n d10_laws_54 rfl ?_
      refine mm_getR fl_X10_10 d10_laws_55 (mm_wtR hS 104 h0 rfl rfl) ?_
      refine mm_getI fl_X10_147 d10_laws_58 (mm_wtI hS (mm_wtT hS 0 4 h0 rfl) rfl) ?_
      refine mm_isub d10_laws_61 ?_
      have h := Option.some.inj h
      subst h
      exact mm_iret rfl d10_laws_62 ⟨rfl, rfl, rfl⟩
  · rw [if_neg hc1] at h
    refine mm_ldc (v := (-1000000003)) d10_laws_13 kX10_167 ?_
    have h := Option.some.inj h
    subst h
    exact mm_iret rfl d10_laws_15 ⟨rfl, rfl, rfl⟩
set_option maxHeartbeats 4000000 in
set_option maxRecDepth 100000 in
theorem ok10_town (l : Launch) {S : mm_Sh} (hS : mm_WT S) {n : Nat}  {v0 : Nat} (h0 : mm_is S v0 10) {I : mm_I} {J : mm_J} {o : Int32 × mm_I × mm_J} (h : f10_town S n v0 I J = some o) : mm_C l M10_town S [.ref v0] I J (mm_Qi o.1 o.2.1 o.2.2) := by
  unfold f10_town at h
  refine mm_enter rfl (by decide +kernel) rfl ?_
  refine mm_aload_n d10_town_0 rfl ?_
  refine mm_getR fl_X10_10 d10_town_1 (mm_wtR hS 104 h0 rfl rfl) ?_
  obtain ⟨o1, hk1, h⟩ := mm_bd h
  refine mm_cVv 4 (As := []) (ok4_open l hS (mm_wtT hS 0 4 h0 rfl) hk1) lk_X10_134 rfl d10_town_4 (mm_room rfl rfl) rfl (mm_wtT hS 0 4 h0 rfl) rfl rfl ?_
  refine mm_aload_n d10_town_7 rfl ?_
  refine mm_getR fl_X10_82 d10_town_8 (mm_wtR hS 109 h0 rfl rfl) ?_
  obtain ⟨o2, hk2, h⟩ := mm_bd h
  refine mm_cVv 9 (As := []) (ok9_tellAll l hS (mm_wtT hS 14 9 h0 rfl) hk2) lk_X10_137 rfl d10_town_11 (mm_room rfl rfl) rfl (mm_wtT hS 14 9 h0 rfl) rfl rfl ?_
  refine mm_aload_n d10_town_14 rfl ?_
  refine mm_getR fl_X10_10 d10_town_15 (mm_wtR hS 104 h0 rfl rfl) ?_
  obtain ⟨o3, hk3, h⟩ := mm_bd h
  refine mm_cVv 4 (As := []) (ok4_clear l hS (mm_wtT hS 0 4 h0 rfl) hk3) lk_X10_140 rfl d10_town_18 (mm_room rfl rfl) rfl (mm_wtT hS 0 4 h0 rfl) rfl rfl ?_
  refine mm_aload_n d10_town_21 rfl ?_
  refine mm_getR fl_X10_10 d10_town_22 (mm_wtR hS 104 h0 rfl rfl) ?_
  obtain ⟨o4, hk4, h⟩ := mm_bd h
  refine mm_cVi 4 (As := []) (ok4_isSound l hS (mm_wtT hS 0 4 h0 rfl) hk4) lk_X10_143 rfl d10_town_25 (mm_room rfl rfl) rfl (mm_wtT hS 0 4 h0 rfl) rfl rfl ?_
  refine mm_if_ne (tgt := 42) d10_town_28 (by decide) (fun hc5 => ?_) (fun hc5 => ?_)
  · rw [if_neg hc5] at h
    refine mm_aload_n d10_town_42 rfl ?_
    refine mm_getR fl_X10_19 d10_town_43 (mm_wtR hS 100 h0 rfl rfl) ?_
    refine mm_aload_n d10_town_46 rfl ?_
    refine mm_getR fl_X10_23 d10_town_47 (mm_wtR hS 100 h0 rfl rfl) ?_
    obtain ⟨o6, hk6, h⟩ := mm_bd h
    refine mm_cVv 0 (As := [.ref (mm_rf S v0 2)]) (ok0_copyFrom l hS (mm_wtT hS 1 0 h0 rfl) (mm_wtT hS 2 0 h0 rfl) hk6) lk_X10_150 rfl d10_town_50 (mm_room rfl rfl) rfl (mm_wtT hS 1 0 h0 rfl) rfl rfl ?_
    refine mm_aload_n d10_town_53 rfl ?_
    refine mm_getR fl_X10_46 d10_town_54 (mm_wtR hS 101 h0 rfl rfl) ?_
    refine mm_aload_n d10_town_57 rfl ?_
    refine mm_getR fl_X10_49 d10_town_58 (mm_wtR hS 101 h0 rfl rfl) ?_
    obtain ⟨o7, hk7, h⟩ := mm_bd h
    refine mm_cVv 1 (As := [.ref (mm_rf S v0 8)]) (ok1_copyFrom l hS (mm_wtT hS 7 1 h0 rfl) (mm_wtT hS 8 1 h0 rfl) hk7) lk_X10_154 rfl d10_town_61 (mm_room rfl rfl) rfl (mm_wtT hS 7 1 h0 rfl) rfl rfl ?_
    refine mm_aload_n d10_town_64 rfl ?_
    obtain ⟨o8, hk8, h⟩ := mm_bd h
    refine mm_cVv 10 (As := []) (ok10_startAnew l hS h0 hk8) lk_X10_157 rfl d10_town_65 (mm_room rfl rfl) rfl h0 rfl rfl ?_
    refine mm_aload_n d10_town_68 rfl ?_
    refine mm_getR fl_X10_66 d10_town_69 (mm_wtR hS 106 h0 rfl rfl) ?_
    refine mm_iconst (v := 0) d10_town_72 (by decide +kernel) ?_
    obtain ⟨o9, hk9, h⟩ := mm_bd h
    refine mm_cVv 6 (As := [.int 0]) (ok6_fill l hS (mm_wtT hS 12 6 h0 rfl) hk9) lk_X10_160 rfl d10_town_73 (mm_room rfl rfl) rfl (mm_wtT hS 12 6 h0 rfl) rfl rfl ?_
    refine mm_aload_n d10_town_76 rfl ?_
    refine mm_getR fl_X10_73 d10_town_77 (mm_wtR hS 108 h0 rfl rfl) ?_
    obtain ⟨o10, hk10, h⟩ := mm_bd h
    refine mm_cVv 8 (As := []) (ok8_clear l hS (mm_wtT hS 13 8 h0 rfl) hk10) lk_X10_163 rfl d10_town_80 (mm_room rfl rfl) rfl (mm_wtT hS 13 8 h0 rfl) rfl rfl ?_
    refine mm_aload_n d10_town_83 rfl ?_
    refine mm_iconst (v := 0) d10_town_84 (by decide +kernel) ?_
    refine mm_putI fp_X10_116 d10_town_85 (mm_wtI hS h0 rfl) ?_
    refine mm_aload_n d10_town_88 rfl ?_
    refine mm_getR fl_X10_19 d10_town_89 (mm_wtR hS 100 h0 rfl rfl) ?_
    refine mm_getI fl_X10_164 d10_town_92 (mm_wtI hS (mm_wtT hS 1 0 h0 rfl) rfl) ?_
    have h := Option.some.inj h
    subst h
    exact mm_iret rfl d10_town_95 ⟨rfl, rfl, rfl⟩
  · rw [if_pos hc5] at h
    refine mm_bipush (v := (-10)) d10_town_31 (by decide +kernel) ?_
    refine mm_aload_n d10_town_33 rfl ?_
    refine mm_getR fl_X10_10 d10_town_34 (mm_wtR hS 104 h0 rfl rfl) ?_
    refine mm_getI fl_X10_147 d10_town_37 (mm_wtI hS (mm_wtT hS 0 4 h0 rfl) rfl) ?_
    refine mm_isub d10_town_40 ?_
    have h := Option.some.inj h
    subst h
    exact mm_iret rfl d10_town_41 ⟨rfl, rfl, rfl⟩
set_option maxHeartbeats 4000000 in
set_option maxRecDepth 100000 in
theorem ok5_search_23_b (l : Launch) {S : mm_Sh} (hS : mm_WT S) {n : Nat}  {rec16 : Nat → Int32 → mm_I → mm_J → Option (mm_I × mm_J)} (hrec16 : ∀ {v0 : Nat} {v1 : Int32} (_ : mm_is S v0 5) {I : mm_I} {J : mm_J} {o : mm_I × mm_J}, rec16 v0 v1 I J = some o → mm_W l M5_search (mm_rm (mm_rk M5_search)) 0 0 S (mm_end S (mm_Qv o.1 o.2)) 16 [(0, .ref v0), (1, .int v1)] [] I J) {rec23 : Nat → Int32 → Int32 → mm_I → mm_J → Option (mm_I × mm_J)} (hrec23 : ∀ {v0 : Nat} {v1 : Int32} {v2 : Int32} (_ : mm_is S v0 5) {I : mm_I} {J : mm_J} {o : mm_I × mm_J}, rec23 v0 v1 v2 I J = some o → mm_W l M5_search (mm_rm (mm_rk M5_search)) 0 0 S (mm_end S (mm_Qv o.1 o.2)) 23 [(0, .ref v0), (1, .int v1), (2, .int v2)] [] I J) {v0 : Nat} {v1 : Int32} {v2 : Int32} (h0 : mm_is S v0 5) {I : mm_I} {J : mm_J} {o : mm_I × mm_J} (h : f5_search_23_b S n rec16 rec23 v0 v1 v2 I J = some o) : mm_W l M5_search (mm_rm (mm_rk M5_search)) 0 0 S (mm_end S (mm_Qv o.1 o.2)) 23 [(0, .ref v0), (1, .int v1), (2, .int v2)] [] I J := by
  unfold f5_search_23_b at h
  refine mm_iload_n d5_search_23 rfl ?_
  refine mm_aload_n d5_search_24 rfl ?_
  refine mm_getR fl_X5_36 d5_search_25 (mm_wtR hS 102 h0 rfl rfl) ?_
  refine mm_getR fl_X5_43 d5_search_28 (mm_wtR hS 100 (mm_wtT hS 0 2 h0 rfl) rfl rfl) ?_
  refine mm_getI fl_X5_49 d5_search_31 (mm_wtI hS (mm_wtT hS 0 0 (mm_wtT hS 0 2 h0 rfl) rfl) rfl) ?_
  refine mm_icmp_ge (tgt := 59) d5_search_34 (by decide) (fun hc1 => ?_) (fun hc1 => ?_)
  · rw [if_pos hc1] at h
    refine mm_iinc (v := v1 + 1) d5_search_59 rfl rfl rfl rfl ?_
    refine mm_goto (tgt := 16) d5_search_62 (by decide) ?_
    refine mm_sub [(0, .ref v0), (1, .int (v1 + 1))] ⟨rfl, rfl, trivial⟩ ?_
    exact hrec16 h0 h
  · rw [if_neg hc1] at h
    refine mm_aload_n d5_search_37 rfl ?_
    refine mm_getR fl_X5_23 d5_search_38 (mm_wtR hS 106 h0 rfl rfl) ?_
    refine mm_iconst (v := 0) d5_search_41 (by decide +kernel) ?_
    refine mm_iload_n d5_search_42 rfl ?_
    obtain ⟨o2, hk2, h⟩ := mm_bd h
    refine mm_cVv 6 (As := [.int 0, .int v2]) (ok6_put l hS (mm_wtT hS 3 6 h0 rfl) hk2) lk_X5_54 rfl d5_search_43 (mm_room rfl rfl) rfl (mm_wtT hS 3 6 h0 rfl) rfl rfl ?_
    refine mm_aload_n d5_search_46 rfl ?_
    refine mm_iconst (v := 1) d5_search_47 (by decide +kernel) ?_
    refine mm_iload_n d5_search_48 rfl ?_
    refine mm_iconst (v := 0) d5_search_49 (by decide +kernel) ?_
    obtain ⟨o3, hk3, h⟩ := mm_bd h
    refine mm_cSv (As := [.ref v0, .int 1, .int v1, .int 0]) (ok5_walkOn l hS 5 h0 hk3) (lk_X5_58 _) rfl d5_search_50 (mm_room rfl rfl) rfl rfl ?_
    refine mm_iinc (v := v2 + 1) d5_search_53 rfl rfl rfl rfl ?_
    refine mm_goto (tgt := 23) d5_search_56 (by decide) ?_
    refine mm_sub [(0, .ref v0), (1, .int v1), (2, .int (v2 + 1))] ⟨rfl, rfl, rfl, trivial⟩ ?_
    exact hrec23 h0 h
set_option maxHeartbeats 4000000 in
set_option maxRecDepth 100000 in
theorem ok5_search_23 (l : Launch) {S : mm_Sh} (hS : mm_WT S) {n : Nat}  {rec16 : Nat → Int32 → mm_I → mm_J → Option (mm_I × mm_J)} (hrec16 : ∀ {v0 : Nat} {v1 : Int32} (_ : mm_is S v0 5) {I : mm_I} {J : mm_J} {o : mm_I × mm_J}, rec16 v0 v1 I J = some o → mm_W l M5_search (mm_rm (mm_rk M5_search)) 0 0 S (mm_end S (mm_Qv o.1 o.2)) 16 [(0, .ref v0), (1, .int v1)] [] I J) : ∀ (k : Nat) {v0 : Nat} {v1 : Int32} {v2 : Int32} (h0 : mm_is S v0 5) {I : mm_I} {J : mm_J} {o : mm_I × mm_J}, f5_search_23 S n rec16 k v0 v1 v2 I J = some o → mm_W l M5_search (mm_rm (mm_rk M5_search)) 0 0 S (mm_end S (mm_Qv o.1 o.2)) 23 [(0, .ref v0), (1, .int v1), (2, .int v2)] [] I J := by
  intro k
  induction k with
  | zero =>
    intros
    rename_i h
    cases h
  | succ k ih =>
    intro v0 v1 v2 h0 I J o h
    exact ok5_search_23_b l hS hrec16 (fun {v0 v1 v2} h0 {I J o} h => ih h0 h) h0 h
set_option maxHeartbeats 4000000 in
set_option maxRecDepth 100000 in
theorem ok5_search_16_b (l : Launch) {S : mm_Sh} (hS : mm_WT S) {n : Nat}  {rec16 : Nat → Int32 → mm_I → mm_J → Option (mm_I × mm_J)} (hrec16 : ∀ {v0 : Nat} {v1 : Int32} (_ : mm_is S v0 5) {I : mm_I} {J : mm_J} {o : mm_I × mm_J}, rec16 v0 v1 I J = some o → mm_W l M5_search (mm_rm (mm_rk M5_search)) 0 0 S (mm_end S (mm_Qv o.1 o.2)) 16 [(0, .ref v0), (1, .int v1)] [] I J) {v0 : Nat} {v1 : Int32} (h0 : mm_is S v0 5) {I : mm_I} {J : mm_J} {o : mm_I × mm_J} (h : f5_search_16_b S n rec16 v0 v1 I J = some o) : mm_W l M5_search (mm_rm (mm_rk M5_search)) 0 0 S (mm_end S (mm_Qv o.1 o.2)) 16 [(0, .ref v0), (1, .int v1)] [] I J := by
  unfold f5_search_16_b at h
  refine mm_iload_n d5_search_16 rfl ?_
  refine mm_iconst (v := 4) d5_search_17 (by decide +kernel) ?_
  refine mm_icmp_gt (tgt := 65) d5_search_18 (by decide) (fun hc1 => ?_) (fun hc1 => ?_)
  · rw [if_pos hc1] at h
    have h := Option.some.inj h
    subst h
    exact mm_vret rfl d5_search_65 ⟨rfl, rfl, rfl⟩
  · rw [if_neg hc1] at h
    refine mm_iconst (v := 0) d5_search_21 (by decide +kernel) ?_
    refine mm_istore_n d5_search_22 rfl rfl ?_
    refine mm_sub [(0, .ref v0), (1, .int v1), (2, .int 0)] ⟨rfl, rfl, rfl, trivial⟩ ?_
    exact ok5_search_23 l hS hrec16 n h0 h
set_option maxHeartbeats 4000000 in
set_option maxRecDepth 100000 in
theorem ok5_search_16 (l : Launch) {S : mm_Sh} (hS : mm_WT S) {n : Nat}  : ∀ (k : Nat) {v0 : Nat} {v1 : Int32} (h0 : mm_is S v0 5) {I : mm_I} {J : mm_J} {o : mm_I × mm_J}, f5_search_16 S n k v0 v1 I J = some o → mm_W l M5_search (mm_rm (mm_rk M5_search)) 0 0 S (mm_end S (mm_Qv o.1 o.2)) 16 [(0, .ref v0), (1, .int v1)] [] I J := by
  intro k
  induction k with
  | zero =>
    intros
    rename_i h
    cases h
  | succ k ih =>
    intro v0 v1 h0 I J o h
    exact ok5_search_16_b l hS (fun {v0 v1} h0 {I J o} h => ih h0 h) h0 h
set_option maxHeartbeats 4000000 in
set_option maxRecDepth 100000 in
theorem ok5_search (l : Launch) {S : mm_Sh} (hS : mm_WT S) {n : Nat}  {v0 : Nat} (h0 : mm_is S v0 5) {I : mm_I} {J : mm_J} {o : mm_I × mm_J} (h : f5_search S n v0 I J = some o) : mm_C l M5_search S [.ref v0] I J (mm_Qv o.1 o.2) := by
  unfold f5_search at h
  refine mm_enter rfl (by decide +kernel) rfl ?_
  refine mm_aload_n d5_search_0 rfl ?_
  refine mm_iconst (v := 0) d5_search_1 (by decide +kernel) ?_
  refine mm_putI fp_X5_29 d5_search_2 (mm_wtI hS h0 rfl) ?_
  refine mm_aload_n d5_search_5 rfl ?_
  refine mm_iconst (v := 0) d5_search_6 (by decide +kernel) ?_
  refine mm_putI fp_X5_33 d5_search_7 (mm_wtI hS h0 rfl) ?_
  refine mm_aload_n d5_search_10 rfl ?_
  obtain ⟨o1, hk1, h⟩ := mm_bd h
  refine mm_cVv 5 (As := []) (ok5_fillGains l hS h0 hk1) lk_X5_40 rfl d5_search_11 (mm_room rfl rfl) rfl h0 rfl rfl ?_
  refine mm_iconst (v := 2) d5_search_14 (by decide +kernel) ?_
  refine mm_istore_n d5_search_15 rfl rfl ?_
  refine mm_sub [(0, .ref v0), (1, .int 2)] ⟨rfl, rfl, trivial⟩ ?_
  exact ok5_search_16 l hS  n h0 h
set_option maxHeartbeats 4000000 in
set_option maxRecDepth 100000 in
theorem ok10_ring_74 (l : Launch) {S : mm_Sh} (hS : mm_WT S) {n : Nat}  {s0 : Int32}  {I : mm_I} {J : mm_J} {o : Int32 × mm_I × mm_J} (h : f10_ring_74 S n s0 I J = some o) : mm_W l M10_ring (mm_rm (mm_rk M10_ring)) 0 0 S (mm_end S (mm_Qi o.1 o.2.1 o.2.2)) 74 [] [.int s0] I J := by
  unfold f10_ring_74 at h
  have h := Option.some.inj h
  subst h
  exact mm_iret rfl d10_ring_74 ⟨rfl, rfl, rfl⟩
set_option maxHeartbeats 4000000 in
set_option maxRecDepth 100000 in
theorem ok10_ring (l : Launch) {S : mm_Sh} (hS : mm_WT S) {n : Nat}  {v0 : Nat} {v1 : Int32} (h0 : mm_is S v0 10) {I : mm_I} {J : mm_J} {o : Int32 × mm_I × mm_J} (h : f10_ring S n v0 v1 I J = some o) : mm_C l M10_ring S [.ref v0, .int v1] I J (mm_Qi o.1 o.2.1 o.2.2) := by
  unfold f10_ring at h
  refine mm_enter rfl (by decide +kernel) rfl ?_
  refine mm_iload_n d10_ring_0 rfl ?_
  refine mm_iconst (v := 0) d10_ring_1 (by decide +kernel) ?_
  refine mm_iconst (v := 5) d10_ring_2 (by decide +kernel) ?_
  obtain ⟨o1, hk1, h⟩ := mm_bd h
  refine mm_cSi (As := [.int v1, .int 0, .int 5]) (ok10_within l hS hk1) lk_X10_120 rfl d10_ring_3 (mm_room rfl rfl) rfl rfl ?_
  refine mm_if_ne (tgt := 12) d10_ring_6 (by decide) (fun hc2 => ?_) (fun hc2 => ?_)
  · rw [if_neg hc2] at h
    refine mm_aload_n d10_ring_12 rfl ?_
    refine mm_getR fl_X10_112 d10_ring_13 (mm_wtR hS 105 h0 rfl rfl) ?_
    obtain ⟨o3, hk3, h⟩ := mm_bd h
    refine mm_cVv 5 (As := []) (ok5_search l hS (mm_wtT hS 18 5 h0 rfl) hk3) lk_X10_310 rfl d10_ring_16 (mm_room rfl rfl) rfl (mm_wtT hS 18 5 h0 rfl) rfl rfl ?_
    refine mm_iload_n d10_ring_19 rfl ?_
    refine mm_if_ne (tgt := 31) d10_ring_20 (by decide) (fun hc4 => ?_) (fun hc4 => ?_)
    · rw [if_neg hc4] at h
      refine mm_iload_n d10_ring_31 rfl ?_
      refine mm_iconst (v := 1) d10_ring_32 (by decide +kernel) ?_
      refine mm_icmp_ne (tgt := 44) d10_ring_33 (by decide) (fun hc5 => ?_) (fun hc5 => ?_)
      · rw [if_neg hc5] at h
        refine mm_iload_n d10_ring_44 rfl ?_
        refine mm_iconst (v := 2) d10_ring_45 (by decide +kernel) ?_
        refine mm_isub d10_ring_46 ?_
        refine mm_aload_n d10_ring_47 rfl ?_
        refine mm_getR fl_X10_112 d10_ring_48 (mm_wtR hS 105 h0 rfl rfl) ?_
        refine mm_getI fl_X10_316 d10_ring_51 (mm_wtI hS (mm_wtT hS 18 5 h0 rfl) rfl) ?_
        refine mm_icmp_ge (tgt := 73) d10_ring_54 (by decide) (fun hc6 => ?_) (fun hc6 => ?_)
        · rw [if_pos hc6] at h
          refine mm_iconst (v := (-1)) d10_ring_73 (by decide +kernel) ?_
          refine mm_sub [] trivial ?_
          exact ok10_ring_74 l hS   h
        · rw [if_neg hc6] at h
          refine mm_aload_n d10_ring_57 rfl ?_
          refine mm_getR fl_X10_112 d10_ring_58 (mm_wtR hS 105 h0 rfl rfl) ?_
          refine mm_getR fl_X10_319 d10_ring_61 (mm_wtR hS 106 (mm_wtT hS 18 5 h0 rfl) rfl rfl) ?_
          refine mm_iload_n d10_ring_64 rfl ?_
          refine mm_iconst (v := 2) d10_ring_65 (by decide +kernel) ?_
          refine mm_isub d10_ring_66 ?_
          obtain ⟨o7, hk7, h⟩ := mm_bd h
          refine mm_cVi 6 (As := [.int (v1 - 2)]) (ok6_at l hS (mm_wtT hS 4 6 (mm_wtT hS 18 5 h0 rfl) rfl) hk7) lk_X10_224 rfl d10_ring_67 (mm_room rfl rfl) rfl (mm_wtT hS 4 6 (mm_wtT hS 18 5 h0 rfl) rfl) rfl rfl ?_
          refine mm_goto (tgt := 74) d10_ring_70 (by decide) ?_
          refine mm_sub [] trivial ?_
          exact ok10_ring_74 l hS   h
      · rw [if_pos hc5] at h
        refine mm_aload_n d10_ring_36 rfl ?_
        refine mm_getR fl_X10_112 d10_ring_37 (mm_wtR hS 105 h0 rfl rfl) ?_
        refine mm_getI fl_X10_316 d10_ring_40 (mm_wtI hS (mm_wtT hS 18 5 h0 rfl) rfl) ?_
        have h := Option.some.inj h
        subst h
        exact mm_iret rfl d10_ring_43 ⟨rfl, rfl, rfl⟩
    · rw [if_pos hc4] at h
      refine mm_aload_n d10_ring_23 rfl ?_
      refine mm_getR fl_X10_112 d10_ring_24 (mm_wtR hS 105 h0 rfl rfl) ?_
      refine mm_getI fl_X10_313 d10_ring_27 (mm_wtI hS (mm_wtT hS 18 5 h0 rfl) rfl) ?_
      have h := Option.some.inj h
      subst h
      exact mm_iret rfl d10_ring_30 ⟨rfl, rfl, rfl⟩
  · rw [if_pos hc2] at h
    refine mm_ldc (v := (-1000000002)) d10_ring_9 kX10_124 ?_
    have h := Option.some.inj h
    subst h
    exact mm_iret rfl d10_ring_11 ⟨rfl, rfl, rfl⟩
