/-! ===== the machine does what the functions say: written by wip/whole/gen.py ===== -/
set_option maxHeartbeats 4000000 in
set_option maxRecDepth 100000 in
theorem ok10_feed_36_b (l : Launch) {S : mm_Sh} (hS : mm_WT S) {n : Nat}  {rec36 : Nat → Int64 → Int32 → mm_I → mm_J → Option (Int32 × mm_I × mm_J)} (hrec36 : ∀ {v0 : Nat} {v2 : Int64} {v4 : Int32} (_ : mm_is S v0 10) {I : mm_I} {J : mm_J} {o : Int32 × mm_I × mm_J}, rec36 v0 v2 v4 I J = some o → mm_W l M10_feed (mm_rm (mm_rk M10_feed)) 0 0 S (mm_end S (mm_Qi o.1 o.2.1 o.2.2)) 36 [(0, .ref v0), (2, .long v2), (4, .int v4)] [] I J) {v0 : Nat} {v2 : Int64} {v4 : Int32} (h0 : mm_is S v0 10) {I : mm_I} {J : mm_J} {o : Int32 × mm_I × mm_J} (h : f10_feed_36_b S n rec36 v0 v2 v4 I J = some o) : mm_W l M10_feed (mm_rm (mm_rk M10_feed)) 0 0 S (mm_end S (mm_Qi o.1 o.2.1 o.2.2)) 36 [(0, .ref v0), (2, .long v2), (4, .int v4)] [] I J := by
  unfold f10_feed_36_b at h
  refine mm_iload d10_feed_36 rfl ?_
  refine mm_if_lt (tgt := 66) d10_feed_38 (by decide) (fun hc1 => ?_) (fun hc1 => ?_)
  · rw [if_pos hc1] at h
    refine mm_aload_n d10_feed_66 rfl ?_
    refine mm_getR fl_X10_10 d10_feed_67 (mm_wtR hS 104 h0 rfl rfl) ?_
    refine mm_getI fl_X10_125 d10_feed_70 (mm_wtI hS (mm_wtT hS 0 4 h0 rfl) rfl) ?_
    have h := Option.some.inj h
    subst h
    exact mm_iret rfl d10_feed_73 ⟨rfl, rfl, rfl⟩
  · rw [if_neg hc1] at h
    refine mm_aload_n d10_feed_41 rfl ?_
    refine mm_getR fl_X10_10 d10_feed_42 (mm_wtR hS 104 h0 rfl rfl) ?_
    refine mm_lload_n d10_feed_45 rfl ?_
    refine mm_bipush (v := 8) d10_feed_46 (by decide +kernel) ?_
    refine mm_iload d10_feed_48 rfl ?_
    refine mm_imul d10_feed_50 ?_
    refine mm_lushr d10_feed_51 ?_
    refine mm_ldc2 (v := 255) d10_feed_52 kX10_129 ?_
    refine mm_land d10_feed_55 ?_
    refine mm_l2i d10_feed_56 ?_
    obtain ⟨o2, hk2, h⟩ := mm_bd h
    refine mm_cVv 4 (As := [.int ((((v2.toUInt64 >>> ((8 * v4).toInt64.toUInt64 &&& Int64.toUInt64 63)).toInt64) &&& 255).toInt32)]) (ok4_append l hS (mm_wtT hS 0 4 h0 rfl) hk2) lk_X10_131 rfl d10_feed_57 (mm_room rfl rfl) rfl (mm_wtT hS 0 4 h0 rfl) rfl rfl ?_
    refine mm_iinc (v := v4 + (-1)) d10_feed_60 rfl rfl rfl rfl ?_
    refine mm_goto (tgt := 36) d10_feed_63 (by decide) ?_
    refine mm_sub [(0, .ref v0), (2, .long v2), (4, .int (v4 + (-1)))] ⟨rfl, rfl, rfl, trivial⟩ ?_
    exact hrec36 h0 h
set_option maxHeartbeats 4000000 in
set_option maxRecDepth 100000 in
theorem ok10_feed_36 (l : Launch) {S : mm_Sh} (hS : mm_WT S) {n : Nat}  : ∀ (k : Nat) {v0 : Nat} {v2 : Int64} {v4 : Int32} (h0 : mm_is S v0 10) {I : mm_I} {J : mm_J} {o : Int32 × mm_I × mm_J}, f10_feed_36 S n k v0 v2 v4 I J = some o → mm_W l M10_feed (mm_rm (mm_rk M10_feed)) 0 0 S (mm_end S (mm_Qi o.1 o.2.1 o.2.2)) 36 [(0, .ref v0), (2, .long v2), (4, .int v4)] [] I J := by
  intro k
  induction k with
  | zero =>
    intros
    rename_i h
    cases h
  | succ k ih =>
    intro v0 v2 v4 h0 I J o h
    exact ok10_feed_36_b l hS (fun {v0 v2 v4} h0 {I J o} h => ih h0 h) h0 h
set_option maxHeartbeats 4000000 in
set_option maxRecDepth 100000 in
theorem ok10_feed (l : Launch) {S : mm_Sh} (hS : mm_WT S) {n : Nat}  {v0 : Nat} {v1 : Int32} {v2 : Int64} (h0 : mm_is S v0 10) {I : mm_I} {J : mm_J} {o : Int32 × mm_I × mm_J} (h : f10_feed S n v0 v1 v2 I J = some o) : mm_C l M10_feed S [.ref v0, .int v1, .long v2] I J (mm_Qi o.1 o.2.1 o.2.2) := by
  unfold f10_feed at h
  refine mm_enter rfl (by decide +kernel) rfl ?_
  refine mm_iload_n d10_feed_0 rfl ?_
  refine mm_iconst (v := 1) d10_feed_1 (by decide +kernel) ?_
  refine mm_bipush (v := 8) d10_feed_2 (by decide +kernel) ?_
  obtain ⟨o1, hk1, h⟩ := mm_bd h
  refine mm_cSi (As := [.int v1, .int 1, .int 8]) (ok10_within l hS hk1) lk_X10_120 rfl d10_feed_4 (mm_room rfl rfl) rfl rfl ?_
  refine mm_if_ne (tgt := 13) d10_feed_7 (by decide) (fun hc2 => ?_) (fun hc2 => ?_)
  · rw [if_neg hc2] at h
    refine mm_aload_n d10_feed_13 rfl ?_
    refine mm_getR fl_X10_10 d10_feed_14 (mm_wtR hS 104 h0 rfl rfl) ?_
    refine mm_getI fl_X10_125 d10_feed_17 (mm_wtI hS (mm_wtT hS 0 4 h0 rfl) rfl) ?_
    refine mm_iload_n d10_feed_20 rfl ?_
    refine mm_iadd d10_feed_21 ?_
    refine mm_sipush (v := 500) d10_feed_22 (by decide +kernel) ?_
    refine mm_icmp_le (tgt := 31) d10_feed_25 (by decide) (fun hc3 => ?_) (fun hc3 => ?_)
    · rw [if_pos hc3] at h
      refine mm_iload_n d10_feed_31 rfl ?_
      refine mm_iconst (v := 1) d10_feed_32 (by decide +kernel) ?_
      refine mm_isub d10_feed_33 ?_
      refine mm_istore d10_feed_34 rfl rfl ?_
      refine mm_sub [(0, .ref v0), (2, .long v2), (4, .int (v1 - 1))] ⟨rfl, rfl, rfl, trivial⟩ ?_
      exact ok10_feed_36 l hS  n h0 h
    · rw [if_neg hc3] at h
      refine mm_ldc (v := (-1000000004)) d10_feed_28 kX10_128 ?_
      have h := Option.some.inj h
      subst h
      exact mm_iret rfl d10_feed_30 ⟨rfl, rfl, rfl⟩
  · rw [if_pos hc2] at h
    refine mm_ldc (v := (-1000000002)) d10_feed_10 kX10_124 ?_
    have h := Option.some.inj h
    subst h
    exact mm_iret rfl d10_feed_12 ⟨rfl, rfl, rfl⟩
set_option maxHeartbeats 4000000 in
set_option maxRecDepth 100000 in
theorem ok10_goBack (l : Launch) {S : mm_Sh} (hS : mm_WT S) {n : Nat}  {v0 : Nat} {v1 : Int32} (h0 : mm_is S v0 10) {I : mm_I} {J : mm_J} {o : Int32 × mm_I × mm_J} (h : f10_goBack S n v0 v1 I J = some o) : mm_C l M10_goBack S [.ref v0, .int v1] I J (mm_Qi o.1 o.2.1 o.2.2) := by
  unfold f10_goBack at h
  refine mm_enter rfl (by decide +kernel) rfl ?_
  refine mm_iload_n d10_goBack_0 rfl ?_
  refine mm_iconst (v := 0) d10_goBack_1 (by decide +kernel) ?_
  refine mm_iconst (v := 1) d10_goBack_2 (by decide +kernel) ?_
  obtain ⟨o1, hk1, h⟩ := mm_bd h
  refine mm_cSi (As := [.int v1, .int 0, .int 1]) (ok10_within l hS hk1) lk_X10_120 rfl d10_goBack_3 (mm_room rfl rfl) rfl rfl ?_
  refine mm_if_ne (tgt := 12) d10_goBack_6 (by decide) (fun hc2 => ?_) (fun hc2 => ?_)
  · rw [if_neg hc2] at h
    refine mm_aload_n d10_goBack_12 rfl ?_
    refine mm_getI fl_X10_116 d10_goBack_13 (mm_wtI hS h0 rfl) ?_
    refine mm_iload_n d10_goBack_16 rfl ?_
    obtain ⟨o3, hk3, h⟩ := mm_bd h
    refine mm_cSi (As := [.int (I v0 19), .int v1]) (ok10_has l hS hk3) lk_X10_263 rfl d10_goBack_17 (mm_room rfl rfl) rfl rfl ?_
    refine mm_if_ne (tgt := 26) d10_goBack_20 (by decide) (fun hc4 => ?_) (fun hc4 => ?_)
    · rw [if_neg hc4] at h
      refine mm_aload_n d10_goBack_26 rfl ?_
      refine mm_getR fl_X10_42 d10_goBack_27 (mm_wtR hS 101 h0 rfl rfl) ?_
      refine mm_aload_n d10_goBack_30 rfl ?_
      refine mm_iload_n d10_goBack_31 rfl ?_
      obtain ⟨o5, hk5, h⟩ := mm_bd h
      refine mm_cVr 10 (As := [.int v1]) (ok10_image l hS h0 hk5) lk_X10_362 rfl d10_goBack_32 (mm_room rfl rfl) rfl h0 rfl rfl ?_
      obtain ⟨o6, hk6, h⟩ := mm_bd h
      refine mm_cVv 1 (As := [.ref o5]) (ok1_copyFrom l hS (mm_wtT hS 6 1 h0 rfl) (ty10_image hS h0 hk5) hk6) lk_X10_154 rfl d10_goBack_35 (mm_room rfl rfl) rfl (mm_wtT hS 6 1 h0 rfl) rfl rfl ?_
      refine mm_iconst (v := 1) d10_goBack_38 (by decide +kernel) ?_
      have h := Option.some.inj h
      subst h
      exact mm_iret rfl d10_goBack_39 ⟨rfl, rfl, rfl⟩
    · rw [if_pos hc4] at h
      refine mm_ldc (v := (-1000000003)) d10_goBack_23 kX10_167 ?_
      have h := Option.some.inj h
      subst h
      exact mm_iret rfl d10_goBack_25 ⟨rfl, rfl, rfl⟩
  · rw [if_pos hc2] at h
    refine mm_ldc (v := (-1000000001)) d10_goBack_9 kX10_220 ?_
    have h := Option.some.inj h
    subst h
    exact mm_iret rfl d10_goBack_11 ⟨rfl, rfl, rfl⟩
set_option maxHeartbeats 4000000 in
set_option maxRecDepth 100000 in
theorem ok10_keep (l : Launch) {S : mm_Sh} (hS : mm_WT S) {n : Nat}  {v0 : Nat} {v1 : Int32} (h0 : mm_is S v0 10) {I : mm_I} {J : mm_J} {o : Int32 × mm_I × mm_J} (h : f10_keep S n v0 v1 I J = some o) : mm_C l M10_keep S [.ref v0, .int v1] I J (mm_Qi o.1 o.2.1 o.2.2) := by
  unfold f10_keep at h
  refine mm_enter rfl (by decide +kernel) rfl ?_
  refine mm_iload_n d10_keep_0 rfl ?_
  refine mm_iconst (v := 0) d10_keep_1 (by decide +kernel) ?_
  refine mm_iconst (v := 1) d10_keep_2 (by decide +kernel) ?_
  obtain ⟨o1, hk1, h⟩ := mm_bd h
  refine mm_cSi (As := [.int v1, .int 0, .int 1]) (ok10_within l hS hk1) lk_X10_120 rfl d10_keep_3 (mm_room rfl rfl) rfl rfl ?_
  refine mm_if_ne (tgt := 12) d10_keep_6 (by decide) (fun hc2 => ?_) (fun hc2 => ?_)
  · rw [if_neg hc2] at h
    refine mm_aload_n d10_keep_12 rfl ?_
    refine mm_iload_n d10_keep_13 rfl ?_
    obtain ⟨o3, hk3, h⟩ := mm_bd h
    refine mm_cVr 10 (As := [.int v1]) (ok10_image l hS h0 hk3) lk_X10_362 rfl d10_keep_14 (mm_room rfl rfl) rfl h0 rfl rfl ?_
    refine mm_aload_n d10_keep_17 rfl ?_
    refine mm_getR fl_X10_42 d10_keep_18 (mm_wtR hS 101 h0 rfl rfl) ?_
    obtain ⟨o4, hk4, h⟩ := mm_bd h
    refine mm_cVv 1 (As := [.ref (mm_rf S v0 6)]) (ok1_copyFrom l hS (ty10_image hS h0 hk3) (mm_wtT hS 6 1 h0 rfl) hk4) lk_X10_154 rfl d10_keep_21 (mm_room rfl rfl) rfl (ty10_image hS h0 hk3) rfl rfl ?_
    refine mm_aload_n d10_keep_24 rfl ?_
    refine mm_dup d10_keep_25 rfl ?_
    refine mm_getI fl_X10_116 d10_keep_26 (mm_wtI hS h0 rfl) ?_
    refine mm_iconst (v := 1) d10_keep_29 (by decide +kernel) ?_
    refine mm_iload_n d10_keep_30 rfl ?_
    refine mm_ishl d10_keep_31 ?_
    refine mm_ior d10_keep_32 ?_
    refine mm_putI fp_X10_116 d10_keep_33 (mm_wtI hS h0 rfl) ?_
    refine mm_iconst (v := 1) d10_keep_36 (by decide +kernel) ?_
    have h := Option.some.inj h
    subst h
    exact mm_iret rfl d10_keep_37 ⟨rfl, rfl, rfl⟩
  · rw [if_pos hc2] at h
    refine mm_ldc (v := (-1000000001)) d10_keep_9 kX10_220 ?_
    have h := Option.some.inj h
    subst h
    exact mm_iret rfl d10_keep_11 ⟨rfl, rfl, rfl⟩
set_option maxHeartbeats 4000000 in
set_option maxRecDepth 100000 in
theorem ok10_like_23 (l : Launch) {S : mm_Sh} (hS : mm_WT S)  {s0 : Int32}  {I : mm_I} {J : mm_J} {o : Int32} (h : f10_like_23 S s0 I J = some o) : mm_W l M10_like (mm_rm (mm_rk M10_like)) 0 0 S (mm_end S (mm_Qi o I J)) 23 [] [.int s0] I J := by
  unfold f10_like_23 at h
  have h := Option.some.inj h
  subst h
  exact mm_iret rfl d10_like_23 ⟨rfl, rfl, rfl⟩
set_option maxHeartbeats 4000000 in
set_option maxRecDepth 100000 in
theorem ok10_like (l : Launch) {S : mm_Sh} (hS : mm_WT S)  {v0 : Nat} {v1 : Int32} {v2 : Int32} (h0 : mm_is S v0 10) {I : mm_I} {J : mm_J} {o : Int32} (h : f10_like S v0 v1 v2 I J = some o) : mm_C l M10_like S [.ref v0, .int v1, .int v2] I J (mm_Qi o I J) := by
  unfold f10_like at h
  refine mm_enter rfl (by decide +kernel) rfl ?_
  refine mm_aload_n d10_like_0 rfl ?_
  refine mm_iload_n d10_like_1 rfl ?_
  refine mm_iload_n d10_like_2 rfl ?_
  obtain ⟨o1, hk1, h⟩ := mm_bd h
  refine mm_cVi 10 (As := [.int v1, .int v2]) (ok10_isKnownPair l hS h0 hk1) lk_X10_270 rfl d10_like_3 (mm_room rfl rfl) rfl h0 rfl rfl ?_
  refine mm_if_eq (tgt := 21) d10_like_6 (by decide) (fun hc2 => ?_) (fun hc2 => ?_)
  · rw [if_pos hc2] at h
    refine mm_ldc (v := (-1000000001)) d10_like_21 kX10_220 ?_
    refine mm_sub [] trivial ?_
    exact ok10_like_23 l hS   h
  · rw [if_neg hc2] at h
    refine mm_aload_n d10_like_9 rfl ?_
    refine mm_getR fl_X10_19 d10_like_10 (mm_wtR hS 100 h0 rfl rfl) ?_
    refine mm_iload_n d10_like_13 rfl ?_
    refine mm_iload_n d10_like_14 rfl ?_
    obtain ⟨o3, hk3, h⟩ := mm_bd h
    refine mm_cVi 0 (As := [.int v1, .int v2]) (ok0_likeOf l hS (mm_wtT hS 1 0 h0 rfl) hk3) lk_X10_276 rfl d10_like_15 (mm_room rfl rfl) rfl (mm_wtT hS 1 0 h0 rfl) rfl rfl ?_
    refine mm_goto (tgt := 23) d10_like_18 (by decide) ?_
    refine mm_sub [] trivial ?_
    exact ok10_like_23 l hS   h
set_option maxHeartbeats 4000000 in
set_option maxRecDepth 100000 in
theorem ok10_make_53 (l : Launch) {S : mm_Sh} (hS : mm_WT S)  {s0 : Int32}  {I : mm_I} {J : mm_J} {o : Int32 × mm_I × mm_J} (h : f10_make_53 S s0 I J = some o) : mm_W l M10_make (mm_rm (mm_rk M10_make)) 0 0 S (mm_end S (mm_Qi o.1 o.2.1 o.2.2)) 53 [] [.int s0] I J := by
  unfold f10_make_53 at h
  have h := Option.some.inj h
  subst h
  exact mm_iret rfl d10_make_53 ⟨rfl, rfl, rfl⟩
set_option maxHeartbeats 4000000 in
set_option maxRecDepth 100000 in
theorem ok10_make (l : Launch) {S : mm_Sh} (hS : mm_WT S)  {v0 : Nat} {v1 : Int32} {v2 : Int32} (h0 : mm_is S v0 10) {I : mm_I} {J : mm_J} {o : Int32 × mm_I × mm_J} (h : f10_make S v0 v1 v2 I J = some o) : mm_C l M10_make S [.ref v0, .int v1, .int v2] I J (mm_Qi o.1 o.2.1 o.2.2) := by
  unfold f10_make at h
  refine mm_enter rfl (by decide +kernel) rfl ?_
  refine mm_aload_n d10_make_0 rfl ?_
  refine mm_getR fl_X10_19 d10_make_1 (mm_wtR hS 100 h0 rfl rfl) ?_
  refine mm_iload_n d10_make_4 rfl ?_
  obtain ⟨o1, hk1, h⟩ := mm_bd h
  refine mm_cVi 0 (As := [.int v1]) (ok0_hasTrade l hS (mm_wtT hS 1 0 h0 rfl) hk1) lk_X10_216 rfl d10_make_5 (mm_room rfl rfl) rfl (mm_wtT hS 1 0 h0 rfl) rfl rfl ?_
  refine mm_if_ne (tgt := 14) d10_make_8 (by decide) (fun hc2 => ?_) (fun hc2 => ?_)
  · rw [if_neg hc2] at h
    refine mm_iload_n d10_make_14 rfl ?_
    refine mm_iconst (v := 1) d10_make_15 (by decide +kernel) ?_
    refine mm_bipush (v := 100) d10_make_16 (by decide +kernel) ?_
    obtain ⟨o3, hk3, h⟩ := mm_bd h
    refine mm_cSi (As := [.int v2, .int 1, .int 100]) (ok10_within l hS hk3) lk_X10_120 rfl d10_make_18 (mm_room rfl rfl) rfl rfl ?_
    refine mm_if_ne (tgt := 27) d10_make_21 (by decide) (fun hc4 => ?_) (fun hc4 => ?_)
    · rw [if_neg hc4] at h
      refine mm_aload_n d10_make_27 rfl ?_
      refine mm_getR fl_X10_73 d10_make_28 (mm_wtR hS 108 h0 rfl rfl) ?_
      refine mm_getI fl_X10_206 d10_make_31 (mm_wtI hS (mm_wtT hS 13 8 h0 rfl) rfl) ?_
      refine mm_bipush (v := 12) d10_make_34 (by decide +kernel) ?_
      refine mm_icmp_ge (tgt := 51) d10_make_36 (by decide) (fun hc5 => ?_) (fun hc5 => ?_)
      · rw [if_pos hc5] at h
        refine mm_ldc (v := (-1000000004)) d10_make_51 kX10_128 ?_
        refine mm_sub [] trivial ?_
        exact ok10_make_53 l hS   h
      · rw [if_neg hc5] at h
        refine mm_aload_n d10_make_39 rfl ?_
        refine mm_getR fl_X10_73 d10_make_40 (mm_wtR hS 108 h0 rfl rfl) ?_
        refine mm_iload_n d10_make_43 rfl ?_
        refine mm_iload_n d10_make_44 rfl ?_
        obtain ⟨o6, hk6, h⟩ := mm_bd h
        refine mm_cVi 8 (As := [.int v1, .int v2]) (ok8_addThing l hS (mm_wtT hS 13 8 h0 rfl) hk6) lk_X10_330 rfl d10_make_45 (mm_room rfl rfl) rfl (mm_wtT hS 13 8 h0 rfl) rfl rfl ?_
        refine mm_goto (tgt := 53) d10_make_48 (by decide) ?_
        refine mm_sub [] trivial ?_
        exact ok10_make_53 l hS   h
    · rw [if_pos hc4] at h
      refine mm_ldc (v := (-1000000002)) d10_make_24 kX10_124 ?_
      have h := Option.some.inj h
      subst h
      exact mm_iret rfl d10_make_26 ⟨rfl, rfl, rfl⟩
  · rw [if_pos hc2] at h
    refine mm_ldc (v := (-1000000001)) d10_make_11 kX10_220 ?_
    have h := Option.some.inj h
    subst h
    exact mm_iret rfl d10_make_13 ⟨rfl, rfl, rfl⟩
set_option maxHeartbeats 4000000 in
set_option maxRecDepth 100000 in
theorem ok10_person_148 (l : Launch) {S : mm_Sh} (hS : mm_WT S) {n : Nat}  {s0 : Int32}  {I : mm_I} {J : mm_J} {o : Int32} (h : f10_person_148 S n s0 I J = some o) : mm_W l M10_person (mm_rm (mm_rk M10_person)) 0 0 S (mm_end S (mm_Qi o I J)) 148 [] [.int s0] I J := by
  unfold f10_person_148 at h
  have h := Option.some.inj h
  subst h
  exact mm_iret rfl d10_person_148 ⟨rfl, rfl, rfl⟩
set_option maxHeartbeats 4000000 in
set_option maxRecDepth 100000 in
theorem ok10_person_168 (l : Launch) {S : mm_Sh} (hS : mm_WT S) {n : Nat}  {s0 : Int32}  {I : mm_I} {J : mm_J} {o : Int32} (h : f10_person_168 S n s0 I J = some o) : mm_W l M10_person (mm_rm (mm_rk M10_person)) 0 0 S (mm_end S (mm_Qi o I J)) 168 [] [.int s0] I J := by
  unfold f10_person_168 at h
  have h := Option.some.inj h
  subst h
  exact mm_iret rfl d10_person_168 ⟨rfl, rfl, rfl⟩
set_option maxHeartbeats 4000000 in
set_option maxRecDepth 100000 in
theorem ok10_person (l : Launch) {S : mm_Sh} (hS : mm_WT S) {n : Nat}  {v0 : Nat} {v1 : Int32} {v2 : Int32} (h0 : mm_is S v0 10) {I : mm_I} {J : mm_J} {o : Int32} (h : f10_person S n v0 v1 v2 I J = some o) : mm_C l M10_person S [.ref v0, .int v1, .int v2] I J (mm_Qi o I J) := by
  unfold f10_person at h
  refine mm_enter rfl (by decide +kernel) rfl ?_
  refine mm_aload_n d10_person_0 rfl ?_
  refine mm_getR fl_X10_19 d10_person_1 (mm_wtR hS 100 h0 rfl rfl) ?_
  refine mm_iload_n d10_person_4 rfl ?_
  obtain ⟨o1, hk1, h⟩ := mm_bd h
  refine mm_cVi 0 (As := [.int v1]) (ok0_hasPerson l hS (mm_wtT hS 1 0 h0 rfl) hk1) lk_X10_241 rfl d10_person_5 (mm_room rfl rfl) rfl (mm_wtT hS 1 0 h0 rfl) rfl rfl ?_
  refine mm_if_ne (tgt := 14) d10_person_8 (by decide) (fun hc2 => ?_) (fun hc2 => ?_)
  · rw [if_neg hc2] at h
    refine mm_iload_n d10_person_14 rfl ?_
    by_cases hc3 : v2 = 0
    · rw [if_pos hc3] at h
      refine mm_tabIn (0) (tgt := 60) d10_person_15 (by rw [hc3]; decide +kernel) (by decide) (by decide) rfl (by decide) ?_
      refine mm_aload_n d10_person_60 rfl ?_
      refine mm_getR fl_X10_42 d10_person_61 (mm_wtR hS 101 h0 rfl rfl) ?_
      refine mm_getR fl_X10_244 d10_person_64 (mm_wtR hS 106 (mm_wtT hS 6 1 h0 rfl) rfl rfl) ?_
      refine mm_iload_n d10_person_67 rfl ?_
      obtain ⟨o20, hk20, h⟩ := mm_bd h
      refine mm_cVi 6 (As := [.int v1]) (ok6_at l hS (mm_wtT hS 0 6 (mm_wtT hS 6 1 h0 rfl) rfl) hk20) lk_X10_224 rfl d10_person_68 (mm_room rfl rfl) rfl (mm_wtT hS 0 6 (mm_wtT hS 6 1 h0 rfl) rfl) rfl rfl ?_
      have h := Option.some.inj h
      subst h
      exact mm_iret rfl d10_person_71 ⟨rfl, rfl, rfl⟩
    · rw [if_neg hc3] at h
      by_cases hc4 : v2 = 1
      · rw [if_pos hc4] at h
        refine mm_tabIn (1) (tgt := 72) d10_person_15 (by rw [hc4]; decide +kernel) (by decide) (by decide) rfl (by decide) ?_
        refine mm_aload_n d10_person_72 rfl ?_
        refine mm_getR fl_X10_42 d10_person_73 (mm_wtR hS 101 h0 rfl rfl) ?_
        refine mm_getR fl_X10_247 d10_person_76 (mm_wtR hS 106 (mm_wtT hS 6 1 h0 rfl) rfl rfl) ?_
        refine mm_iload_n d10_person_79 rfl ?_
        obtain ⟨o19, hk19, h⟩ := mm_bd h
        refine mm_cVi 6 (As := [.int v1]) (ok6_at l hS (mm_wtT hS 3 6 (mm_wtT hS 6 1 h0 rfl) rfl) hk19) lk_X10_224 rfl d10_person_80 (mm_room rfl rfl) rfl (mm_wtT hS 3 6 (mm_wtT hS 6 1 h0 rfl) rfl) rfl rfl ?_
        have h := Option.some.inj h
        subst h
        exact mm_iret rfl d10_person_83 ⟨rfl, rfl, rfl⟩
      · rw [if_neg hc4] at h
        by_cases hc5 : v2 = 2
        · rw [if_pos hc5] at h
          refine mm_tabIn (2) (tgt := 84) d10_person_15 (by rw [hc5]; decide +kernel) (by decide) (by decide) rfl (by decide) ?_
          refine mm_aload_n d10_person_84 rfl ?_
          refine mm_getR fl_X10_42 d10_person_85 (mm_wtR hS 101 h0 rfl rfl) ?_
          refine mm_getR fl_X10_250 d10_person_88 (mm_wtR hS 106 (mm_wtT hS 6 1 h0 rfl) rfl rfl) ?_
          refine mm_iload_n d10_person_91 rfl ?_
          obtain ⟨o18, hk18, h⟩ := mm_bd h
          refine mm_cVi 6 (As := [.int v1]) (ok6_at l hS (mm_wtT hS 4 6 (mm_wtT hS 6 1 h0 rfl) rfl) hk18) lk_X10_224 rfl d10_person_92 (mm_room rfl rfl) rfl (mm_wtT hS 4 6 (mm_wtT hS 6 1 h0 rfl) rfl) rfl rfl ?_
          have h := Option.some.inj h
          subst h
          exact mm_iret rfl d10_person_95 ⟨rfl, rfl, rfl⟩
        · rw [if_neg hc5] at h
          by_cases hc6 : v2 = 3
          · rw [if_pos hc6] at h
            refine mm_tabIn (3) (tgt := 96) d10_person_15 (by rw [hc6]; decide +kernel) (by decide) (by decide) rfl (by decide) ?_
            refine mm_aload_n d10_person_96 rfl ?_
            refine mm_getR fl_X10_42 d10_person_97 (mm_wtR hS 101 h0 rfl rfl) ?_
            refine mm_getR fl_X10_253 d10_person_100 (mm_wtR hS 106 (mm_wtT hS 6 1 h0 rfl) rfl rfl) ?_
            refine mm_iload_n d10_person_103 rfl ?_
            obtain ⟨o17, hk17, h⟩ := mm_bd h
            refine mm_cVi 6 (As := [.int v1]) (ok6_at l hS (mm_wtT hS 6 6 (mm_wtT hS 6 1 h0 rfl) rfl) hk17) lk_X10_224 rfl d10_person_104 (mm_room rfl rfl) rfl (mm_wtT hS 6 6 (mm_wtT hS 6 1 h0 rfl) rfl) rfl rfl ?_
            have h := Option.some.inj h
            subst h
            exact mm_iret rfl d10_person_107 ⟨rfl, rfl, rfl⟩
          · rw [if_neg hc6] at h
            by_cases hc7 : v2 = 4
            · rw [if_pos hc7] at h
              refine mm_tabIn (4) (tgt := 108) d10_person_15 (by rw [hc7]; decide +kernel) (by decide) (by decide) rfl (by decide) ?_
              refine mm_aload_n d10_person_108 rfl ?_
              refine mm_getR fl_X10_42 d10_person_109 (mm_wtR hS 101 h0 rfl rfl) ?_
              refine mm_iload_n d10_person_112 rfl ?_
              obtain ⟨o16, hk16, h⟩ := mm_bd h
              refine mm_cVi 1 (As := [.int v1]) (ok1_knownBy l hS (mm_wtT hS 6 1 h0 rfl) hk16) lk_X10_256 rfl d10_person_113 (mm_room rfl rfl) rfl (mm_wtT hS 6 1 h0 rfl) rfl rfl ?_
              have h := Option.some.inj h
              subst h
              exact mm_iret rfl d10_person_116 ⟨rfl, rfl, rfl⟩
            · rw [if_neg hc7] at h
              by_cases hc8 : v2 = 5
              · rw [if_pos hc8] at h
                refine mm_tabIn (5) (tgt := 117) d10_person_15 (by rw [hc8]; decide +kernel) (by decide) (by decide) rfl (by decide) ?_
                refine mm_aload_n d10_person_117 rfl ?_
                refine mm_getR fl_X10_42 d10_person_118 (mm_wtR hS 101 h0 rfl rfl) ?_
                refine mm_getR fl_X10_259 d10_person_121 (mm_wtR hS 106 (mm_wtT hS 6 1 h0 rfl) rfl rfl) ?_
                refine mm_iload_n d10_person_124 rfl ?_
                obtain ⟨o15, hk15, h⟩ := mm_bd h
                refine mm_cVi 6 (As := [.int v1]) (ok6_at l hS (mm_wtT hS 7 6 (mm_wtT hS 6 1 h0 rfl) rfl) hk15) lk_X10_224 rfl d10_person_125 (mm_room rfl rfl) rfl (mm_wtT hS 7 6 (mm_wtT hS 6 1 h0 rfl) rfl) rfl rfl ?_
                have h := Option.some.inj h
                subst h
                exact mm_iret rfl d10_person_128 ⟨rfl, rfl, rfl⟩
              · rw [if_neg hc8] at h
                by_cases hc9 : v2 = 6
                · rw [if_pos hc9] at h
                  refine mm_tabIn (6) (tgt := 129) d10_person_15 (by rw [hc9]; decide +kernel) (by decide) (by decide) rfl (by decide) ?_
                  refine mm_aload_n d10_person_129 rfl ?_
                  refine mm_getR fl_X10_42 d10_person_130 (mm_wtR hS 101 h0 rfl rfl) ?_
                  refine mm_getI fl_X10_262 d10_person_133 (mm_wtI hS (mm_wtT hS 6 1 h0 rfl) rfl) ?_
                  refine mm_iload_n d10_person_136 rfl ?_
                  obtain ⟨o13, hk13, h⟩ := mm_bd h
                  refine mm_cSi (As := [.int (I (mm_rf S v0 6) 9), .int v1]) (ok10_has l hS hk13) lk_X10_263 rfl d10_person_137 (mm_room rfl rfl) rfl rfl ?_
                  refine mm_if_eq (tgt := 147) d10_person_140 (by decide) (fun hc14 => ?_) (fun hc14 => ?_)
                  · rw [if_pos hc14] at h
                    refine mm_iconst (v := 0) d10_person_147 (by decide +kernel) ?_
                    refine mm_sub [] trivial ?_
                    exact ok10_person_148 l hS   h
                  · rw [if_neg hc14] at h
                    refine mm_iconst (v := 1) d10_person_143 (by decide +kernel) ?_
                    refine mm_goto (tgt := 148) d10_person_144 (by decide) ?_
                    refine mm_sub [] trivial ?_
                    exact ok10_person_148 l hS   h
                · rw [if_neg hc9] at h
                  by_cases hc10 : v2 = 7
                  · rw [if_pos hc10] at h
                    refine mm_tabIn (7) (tgt := 149) d10_person_15 (by rw [hc10]; decide +kernel) (by decide) (by decide) rfl (by decide) ?_
                    refine mm_aload_n d10_person_149 rfl ?_
                    refine mm_getR fl_X10_42 d10_person_150 (mm_wtR hS 101 h0 rfl rfl) ?_
                    refine mm_getI fl_X10_267 d10_person_153 (mm_wtI hS (mm_wtT hS 6 1 h0 rfl) rfl) ?_
                    refine mm_iload_n d10_person_156 rfl ?_
                    obtain ⟨o11, hk11, h⟩ := mm_bd h
                    refine mm_cSi (As := [.int (I (mm_rf S v0 6) 10), .int v1]) (ok10_has l hS hk11) lk_X10_263 rfl d10_person_157 (mm_room rfl rfl) rfl rfl ?_
                    refine mm_if_eq (tgt := 167) d10_person_160 (by decide) (fun hc12 => ?_) (fun hc12 => ?_)
                    · rw [if_pos hc12] at h
                      refine mm_iconst (v := 0) d10_person_167 (by decide +kernel) ?_
                      refine mm_sub [] trivial ?_
                      exact ok10_person_168 l hS   h
                    · rw [if_neg hc12] at h
                      refine mm_iconst (v := 1) d10_person_163 (by decide +kernel) ?_
                      refine mm_goto (tgt := 168) d10_person_164 (by decide) ?_
                      refine mm_sub [] trivial ?_
                      exact ok10_person_168 l hS   h
                  · rw [if_neg hc10] at h
                    have hn3 := lv_neT (a := 0) hc3 (by decide +kernel)
                    have hn4 := lv_neT (a := 1) hc4 (by decide +kernel)
                    have hn5 := lv_neT (a := 2) hc5 (by decide +kernel)
                    have hn6 := lv_neT (a := 3) hc6 (by decide +kernel)
                    have hn7 := lv_neT (a := 4) hc7 (by decide +kernel)
                    have hn8 := lv_neT (a := 5) hc8 (by decide +kernel)
                    have hn9 := lv_neT (a := 6) hc9 (by decide +kernel)
                    have hn10 := lv_neT (a := 7) hc10 (by decide +kernel)
                    refine mm_tabOut (tgt := 169) d10_person_15 (by omega) (by decide) ?_
                    refine mm_ldc (v := (-1000000002)) d10_person_169 kX10_124 ?_
                    have h := Option.some.inj h
                    subst h
                    exact mm_iret rfl d10_person_171 ⟨rfl, rfl, rfl⟩
  · rw [if_pos hc2] at h
    refine mm_ldc (v := (-1000000001)) d10_person_11 kX10_220 ?_
    have h := Option.some.inj h
    subst h
    exact mm_iret rfl d10_person_13 ⟨rfl, rfl, rfl⟩
set_option maxHeartbeats 4000000 in
set_option maxRecDepth 100000 in
theorem ok10_practise (l : Launch) {S : mm_Sh} (hS : mm_WT S)  {v0 : Nat} {v1 : Int32} {v2 : Int32} (h0 : mm_is S v0 10) {I : mm_I} {J : mm_J} {o : Int32 × mm_I × mm_J} (h : f10_practise S v0 v1 v2 I J = some o) : mm_C l M10_practise S [.ref v0, .int v1, .int v2] I J (mm_Qi o.1 o.2.1 o.2.2) := by
  unfold f10_practise at h
  refine mm_enter rfl (by decide +kernel) rfl ?_
  refine mm_aload_n d10_practise_0 rfl ?_
  refine mm_iload_n d10_practise_1 rfl ?_
  refine mm_iload_n d10_practise_2 rfl ?_
  obtain ⟨o1, hk1, h⟩ := mm_bd h
  refine mm_cVi 10 (As := [.int v1, .int v2]) (ok10_isKnownPair l hS h0 hk1) lk_X10_270 rfl d10_practise_3 (mm_room rfl rfl) rfl h0 rfl rfl ?_
  refine mm_if_ne (tgt := 12) d10_practise_6 (by decide) (fun hc2 => ?_) (fun hc2 => ?_)
  · rw [if_neg hc2] at h
    refine mm_aload_n d10_practise_12 rfl ?_
    refine mm_getR fl_X10_42 d10_practise_13 (mm_wtR hS 101 h0 rfl rfl) ?_
    refine mm_iload_n d10_practise_16 rfl ?_
    refine mm_iload_n d10_practise_17 rfl ?_
    obtain ⟨o3, hk3, h⟩ := mm_bd h
    refine mm_cVi 1 (As := [.int v1, .int v2]) (ok1_knows l hS (mm_wtT hS 6 1 h0 rfl) hk3) lk_X10_283 rfl d10_practise_18 (mm_room rfl rfl) rfl (mm_wtT hS 6 1 h0 rfl) rfl rfl ?_
    refine mm_if_ne (tgt := 27) d10_practise_21 (by decide) (fun hc4 => ?_) (fun hc4 => ?_)
    · rw [if_neg hc4] at h
      refine mm_aload_n d10_practise_27 rfl ?_
      refine mm_getR fl_X10_42 d10_practise_28 (mm_wtR hS 101 h0 rfl rfl) ?_
      refine mm_getR fl_X10_247 d10_practise_31 (mm_wtR hS 106 (mm_wtT hS 6 1 h0 rfl) rfl rfl) ?_
      refine mm_iload_n d10_practise_34 rfl ?_
      obtain ⟨o5, hk5, h⟩ := mm_bd h
      refine mm_cVi 6 (As := [.int v1]) (ok6_at l hS (mm_wtT hS 3 6 (mm_wtT hS 6 1 h0 rfl) rfl) hk5) lk_X10_224 rfl d10_practise_35 (mm_room rfl rfl) rfl (mm_wtT hS 3 6 (mm_wtT hS 6 1 h0 rfl) rfl) rfl rfl ?_
      refine mm_istore_n d10_practise_38 rfl rfl ?_
      refine mm_aload_n d10_practise_39 rfl ?_
      refine mm_getR fl_X10_42 d10_practise_40 (mm_wtR hS 101 h0 rfl rfl) ?_
      refine mm_getR fl_X10_247 d10_practise_43 (mm_wtR hS 106 (mm_wtT hS 6 1 h0 rfl) rfl rfl) ?_
      refine mm_iload_n d10_practise_46 rfl ?_
      refine mm_iload_n d10_practise_47 rfl ?_
      obtain ⟨o6, hk6, h⟩ := mm_bd h
      refine mm_cVv 6 (As := [.int v1, .int v2]) (ok6_put l hS (mm_wtT hS 3 6 (mm_wtT hS 6 1 h0 rfl) rfl) hk6) lk_X10_286 rfl d10_practise_48 (mm_room rfl rfl) rfl (mm_wtT hS 3 6 (mm_wtT hS 6 1 h0 rfl) rfl) rfl rfl ?_
      refine mm_iload_n d10_practise_51 rfl ?_
      have h := Option.some.inj h
      subst h
      exact mm_iret rfl d10_practise_52 ⟨rfl, rfl, rfl⟩
    · rw [if_pos hc4] at h
      refine mm_ldc (v := (-1000000003)) d10_practise_24 kX10_167 ?_
      have h := Option.some.inj h
      subst h
      exact mm_iret rfl d10_practise_26 ⟨rfl, rfl, rfl⟩
  · rw [if_pos hc2] at h
    refine mm_ldc (v := (-1000000001)) d10_practise_9 kX10_220 ?_
    have h := Option.some.inj h
    subst h
    exact mm_iret rfl d10_practise_11 ⟨rfl, rfl, rfl⟩
set_option maxHeartbeats 4000000 in
set_option maxRecDepth 100000 in
theorem ok10_skill_23 (l : Launch) {S : mm_Sh} (hS : mm_WT S)  {s0 : Int32}  {I : mm_I} {J : mm_J} {o : Int32} (h : f10_skill_23 S s0 I J = some o) : mm_W l M10_skill (mm_rm (mm_rk M10_skill)) 0 0 S (mm_end S (mm_Qi o I J)) 23 [] [.int s0] I J := by
  unfold f10_skill_23 at h
  have h := Option.some.inj h
  subst h
  exact mm_iret rfl d10_skill_23 ⟨rfl, rfl, rfl⟩
set_option maxHeartbeats 4000000 in
set_option maxRecDepth 100000 in
theorem ok10_skill (l : Launch) {S : mm_Sh} (hS : mm_WT S)  {v0 : Nat} {v1 : Int32} {v2 : Int32} (h0 : mm_is S v0 10) {I : mm_I} {J : mm_J} {o : Int32} (h : f10_skill S v0 v1 v2 I J = some o) : mm_C l M10_skill S [.ref v0, .int v1, .int v2] I J (mm_Qi o I J) := by
  unfold f10_skill at h
  refine mm_enter rfl (by decide +kernel) rfl ?_
  refine mm_aload_n d10_skill_0 rfl ?_
  refine mm_iload_n d10_skill_1 rfl ?_
  refine mm_iload_n d10_skill_2 rfl ?_
  obtain ⟨o1, hk1, h⟩ := mm_bd h
  refine mm_cVi 10 (As := [.int v1, .int v2]) (ok10_isKnownPair l hS h0 hk1) lk_X10_270 rfl d10_skill_3 (mm_room rfl rfl) rfl h0 rfl rfl ?_
  refine mm_if_eq (tgt := 21) d10_skill_6 (by decide) (fun hc2 => ?_) (fun hc2 => ?_)
  · rw [if_pos hc2] at h
    refine mm_ldc (v := (-1000000001)) d10_skill_21 kX10_220 ?_
    refine mm_sub [] trivial ?_
    exact ok10_skill_23 l hS   h
  · rw [if_neg hc2] at h
    refine mm_aload_n d10_skill_9 rfl ?_
    refine mm_getR fl_X10_42 d10_skill_10 (mm_wtR hS 101 h0 rfl rfl) ?_
    refine mm_iload_n d10_skill_13 rfl ?_
    refine mm_iload_n d10_skill_14 rfl ?_
    obtain ⟨o3, hk3, h⟩ := mm_bd h
    refine mm_cVi 1 (As := [.int v1, .int v2]) (ok1_skillOf l hS (mm_wtT hS 6 1 h0 rfl) hk3) lk_X10_273 rfl d10_skill_15 (mm_room rfl rfl) rfl (mm_wtT hS 6 1 h0 rfl) rfl rfl ?_
    refine mm_goto (tgt := 23) d10_skill_18 (by decide) ?_
    refine mm_sub [] trivial ?_
    exact ok10_skill_23 l hS   h
set_option maxHeartbeats 4000000 in
set_option maxRecDepth 100000 in
theorem ok10_startAnew (l : Launch) {S : mm_Sh} (hS : mm_WT S) {n : Nat}  {v0 : Nat} (h0 : mm_is S v0 10) {I : mm_I} {J : mm_J} {o : mm_I × mm_J} (h : f10_startAnew S n v0 I J = some o) : mm_C l M10_startAnew S [.ref v0] I J (mm_Qv o.1 o.2) := by
  unfold f10_startAnew at h
  refine mm_enter rfl (by decide +kernel) rfl ?_
  refine mm_aload_n d10_startAnew_0 rfl ?_
  refine mm_getR fl_X10_42 d10_startAnew_1 (mm_wtR hS 101 h0 rfl rfl) ?_
  refine mm_getI fl_X10_359 d10_startAnew_4 (mm_wtI hS (mm_wtT hS 6 1 h0 rfl) rfl) ?_
  refine mm_istore_n d10_startAnew_7 rfl rfl ?_
  refine mm_aload_n d10_startAnew_8 rfl ?_
  refine mm_getR fl_X10_42 d10_startAnew_9 (mm_wtR hS 101 h0 rfl rfl) ?_
  refine mm_aload_n d10_startAnew_12 rfl ?_
  refine mm_getR fl_X10_46 d10_startAnew_13 (mm_wtR hS 101 h0 rfl rfl) ?_
  obtain ⟨o1, hk1, h⟩ := mm_bd h
  refine mm_cVv 1 (As := [.ref (mm_rf S v0 7)]) (ok1_copyFrom l hS (mm_wtT hS 6 1 h0 rfl) (mm_wtT hS 7 1 h0 rfl) hk1) lk_X10_154 rfl d10_startAnew_16 (mm_room rfl rfl) rfl (mm_wtT hS 6 1 h0 rfl) rfl rfl ?_
  refine mm_aload_n d10_startAnew_19 rfl ?_
  refine mm_getR fl_X10_42 d10_startAnew_20 (mm_wtR hS 101 h0 rfl rfl) ?_
  refine mm_iload_n d10_startAnew_23 rfl ?_
  refine mm_putI fp_X10_359 d10_startAnew_24 (mm_wtI hS (mm_wtT hS 6 1 h0 rfl) rfl) ?_
  have h := Option.some.inj h
  subst h
  exact mm_vret rfl d10_startAnew_27 ⟨rfl, rfl, rfl⟩
set_option maxHeartbeats 4000000 in
set_option maxRecDepth 100000 in
theorem ok10_write_52 (l : Launch) {S : mm_Sh} (hS : mm_WT S)  {s0 : Int32}  {I : mm_I} {J : mm_J} {o : Int32 × mm_I × mm_J} (h : f10_write_52 S s0 I J = some o) : mm_W l M10_write (mm_rm (mm_rk M10_write)) 0 0 S (mm_end S (mm_Qi o.1 o.2.1 o.2.2)) 52 [] [.int s0] I J := by
  unfold f10_write_52 at h
  have h := Option.some.inj h
  subst h
  exact mm_iret rfl d10_write_52 ⟨rfl, rfl, rfl⟩
set_option maxHeartbeats 4000000 in
set_option maxRecDepth 100000 in
theorem ok10_write (l : Launch) {S : mm_Sh} (hS : mm_WT S)  {v0 : Nat} {v1 : Int32} {v2 : Int32} {v3 : Int32} (h0 : mm_is S v0 10) {I : mm_I} {J : mm_J} {o : Int32 × mm_I × mm_J} (h : f10_write S v0 v1 v2 v3 I J = some o) : mm_C l M10_write S [.ref v0, .int v1, .int v2, .int v3] I J (mm_Qi o.1 o.2.1 o.2.2) := by
  unfold f10_write at h
  refine mm_enter rfl (by decide +kernel) rfl ?_
  refine mm_aload_n d10_write_0 rfl ?_
  refine mm_iload_n d10_write_1 rfl ?_
  refine mm_iload_n d10_write_2 rfl ?_
  obtain ⟨o1, hk1, h⟩ := mm_bd h
  refine mm_cVi 10 (As := [.int v1, .int v2]) (ok10_isKnownPair l hS h0 hk1) lk_X10_270 rfl d10_write_3 (mm_room rfl rfl) rfl h0 rfl rfl ?_
  refine mm_if_ne (tgt := 12) d10_write_6 (by decide) (fun hc2 => ?_) (fun hc2 => ?_)
  · rw [if_neg hc2] at h
    refine mm_iload_n d10_write_12 rfl ?_
    refine mm_iconst (v := 0) d10_write_13 (by decide +kernel) ?_
    refine mm_bipush (v := 100) d10_write_14 (by decide +kernel) ?_
    obtain ⟨o3, hk3, h⟩ := mm_bd h
    refine mm_cSi (As := [.int v3, .int 0, .int 100]) (ok10_within l hS hk3) lk_X10_120 rfl d10_write_16 (mm_room rfl rfl) rfl rfl ?_
    refine mm_if_ne (tgt := 25) d10_write_19 (by decide) (fun hc4 => ?_) (fun hc4 => ?_)
    · rw [if_neg hc4] at h
      refine mm_aload_n d10_write_25 rfl ?_
      refine mm_getR fl_X10_73 d10_write_26 (mm_wtR hS 108 h0 rfl rfl) ?_
      refine mm_getI fl_X10_209 d10_write_29 (mm_wtI hS (mm_wtT hS 13 8 h0 rfl) rfl) ?_
      refine mm_bipush (v := 40) d10_write_32 (by decide +kernel) ?_
      refine mm_icmp_ge (tgt := 50) d10_write_34 (by decide) (fun hc5 => ?_) (fun hc5 => ?_)
      · rw [if_pos hc5] at h
        refine mm_ldc (v := (-1000000004)) d10_write_50 kX10_128 ?_
        refine mm_sub [] trivial ?_
        exact ok10_write_52 l hS   h
      · rw [if_neg hc5] at h
        refine mm_aload_n d10_write_37 rfl ?_
        refine mm_getR fl_X10_73 d10_write_38 (mm_wtR hS 108 h0 rfl rfl) ?_
        refine mm_iload_n d10_write_41 rfl ?_
        refine mm_iload_n d10_write_42 rfl ?_
        refine mm_iload_n d10_write_43 rfl ?_
        obtain ⟨o6, hk6, h⟩ := mm_bd h
        refine mm_cVi 8 (As := [.int v1, .int v2, .int v3]) (ok8_addEntry l hS (mm_wtT hS 13 8 h0 rfl) hk6) lk_X10_351 rfl d10_write_44 (mm_room rfl rfl) rfl (mm_wtT hS 13 8 h0 rfl) rfl rfl ?_
        refine mm_goto (tgt := 52) d10_write_47 (by decide) ?_
        refine mm_sub [] trivial ?_
        exact ok10_write_52 l hS   h
    · rw [if_pos hc4] at h
      refine mm_ldc (v := (-1000000002)) d10_write_22 kX10_124 ?_
      have h := Option.some.inj h
      subst h
      exact mm_iret rfl d10_write_24 ⟨rfl, rfl, rfl⟩
  · rw [if_pos hc2] at h
    refine mm_ldc (v := (-1000000001)) d10_write_9 kX10_220 ?_
    have h := Option.some.inj h
    subst h
    exact mm_iret rfl d10_write_11 ⟨rfl, rfl, rfl⟩
set_option maxHeartbeats 4000000 in
set_option maxRecDepth 100000 in
theorem ok1_bestOf_27 (l : Launch) {S : mm_Sh} (hS : mm_WT S) {n : Nat}  {rec4 : Nat → Int32 → Int32 → Int32 → mm_I → mm_J → Option (Int32)} (hrec4 : ∀ {v0 : Nat} {v1 : Int32} {v2 : Int32} {v3 : Int32} (_ : mm_is S v0 1) {I : mm_I} {J : mm_J} {o : Int32}, rec4 v0 v1 v2 v3 I J = some o → mm_W l M1_bestOf (mm_rm (mm_rk M1_bestOf)) 0 0 S (mm_end S (mm_Qi o I J)) 4 [(0, .ref v0), (1, .int v1), (2, .int v2), (3, .int v3)] [] I J) {v0 : Nat} {v1 : Int32} {v2 : Int32} {v3 : Int32} (h0 : mm_is S v0 1) {I : mm_I} {J : mm_J} {o : Int32} (h : f1_bestOf_27 S n rec4 v0 v1 v2 v3 I J = some o) : mm_W l M1_bestOf (mm_rm (mm_rk M1_bestOf)) 0 0 S (mm_end S (mm_Qi o I J)) 27 [(0, .ref v0), (1, .int v1), (2, .int v2), (3, .int v3)] [] I J := by
  unfold f1_bestOf_27 at h
  refine mm_iinc (v := v3 + 1) d1_bestOf_27 rfl rfl rfl rfl ?_
  refine mm_goto (tgt := 4) d1_bestOf_30 (by decide) ?_
  refine mm_sub [(0, .ref v0), (1, .int v1), (2, .int v2), (3, .int (v3 + 1))] ⟨rfl, rfl, rfl, rfl, trivial⟩ ?_
  exact hrec4 h0 h
set_option maxHeartbeats 4000000 in
set_option maxRecDepth 100000 in
theorem ok1_bestOf_4_b (l : Launch) {S : mm_Sh} (hS : mm_WT S) {n : Nat}  {rec4 : Nat → Int32 → Int32 → Int32 → mm_I → mm_J → Option (Int32)} (hrec4 : ∀ {v0 : Nat} {v1 : Int32} {v2 : Int32} {v3 : Int32} (_ : mm_is S v0 1) {I : mm_I} {J : mm_J} {o : Int32}, rec4 v0 v1 v2 v3 I J = some o → mm_W l M1_bestOf (mm_rm (mm_rk M1_bestOf)) 0 0 S (mm_end S (mm_Qi o I J)) 4 [(0, .ref v0), (1, .int v1), (2, .int v2), (3, .int v3)] [] I J) {v0 : Nat} {v1 : Int32} {v2 : Int32} {v3 : Int32} (h0 : mm_is S v0 1) {I : mm_I} {J : mm_J} {o : Int32} (h : f1_bestOf_4_b S n rec4 v0 v1 v2 v3 I J = some o) : mm_W l M1_bestOf (mm_rm (mm_rk M1_bestOf)) 0 0 S (mm_end S (mm_Qi o I J)) 4 [(0, .ref v0), (1, .int v1), (2, .int v2), (3, .int v3)] [] I J := by
  unfold f1_bestOf_4_b at h
  refine mm_iload_n d1_bestOf_4 rfl ?_
  refine mm_bipush (v := 6) d1_bestOf_5 (by decide +kernel) ?_
  refine mm_icmp_ge (tgt := 33) d1_bestOf_7 (by decide) (fun hc1 => ?_) (fun hc1 => ?_)
  · rw [if_pos hc1] at h
    refine mm_iload_n d1_bestOf_33 rfl ?_
    have h := Option.some.inj h
    subst h
    exact mm_iret rfl d1_bestOf_34 ⟨rfl, rfl, rfl⟩
  · rw [if_neg hc1] at h
    refine mm_aload_n d1_bestOf_10 rfl ?_
    refine mm_iload_n d1_bestOf_11 rfl ?_
    refine mm_iload_n d1_bestOf_12 rfl ?_
    obtain ⟨o2, hk2, h⟩ := mm_bd h
    refine mm_cVi 1 (As := [.int v1, .int v3]) (ok1_skillOf l hS h0 hk2) lk_X1_83 rfl d1_bestOf_13 (mm_room rfl rfl) rfl h0 rfl rfl ?_
    refine mm_aload_n d1_bestOf_16 rfl ?_
    refine mm_iload_n d1_bestOf_17 rfl ?_
    refine mm_iload_n d1_bestOf_18 rfl ?_
    obtain ⟨o3, hk3, h⟩ := mm_bd h
    refine mm_cVi 1 (As := [.int v1, .int v2]) (ok1_skillOf l hS h0 hk3) lk_X1_83 rfl d1_bestOf_19 (mm_room rfl rfl) rfl h0 rfl rfl ?_
    refine mm_icmp_le (tgt := 27) d1_bestOf_22 (by decide) (fun hc4 => ?_) (fun hc4 => ?_)
    · rw [if_pos hc4] at h
      refine mm_sub [(0, .ref v0), (1, .int v1), (2, .int v2), (3, .int v3)] ⟨rfl, rfl, rfl, rfl, trivial⟩ ?_
      exact ok1_bestOf_27 l hS hrec4 h0 h
    · rw [if_neg hc4] at h
      refine mm_iload_n d1_bestOf_25 rfl ?_
      refine mm_istore_n d1_bestOf_26 rfl rfl ?_
      refine mm_sub [(0, .ref v0), (1, .int v1), (2, .int v3), (3, .int v3)] ⟨rfl, rfl, rfl, rfl, trivial⟩ ?_
      exact ok1_bestOf_27 l hS hrec4 h0 h
set_option maxHeartbeats 4000000 in
set_option maxRecDepth 100000 in
theorem ok1_bestOf_4 (l : Launch) {S : mm_Sh} (hS : mm_WT S) {n : Nat}  : ∀ (k : Nat) {v0 : Nat} {v1 : Int32} {v2 : Int32} {v3 : Int32} (h0 : mm_is S v0 1) {I : mm_I} {J : mm_J} {o : Int32}, f1_bestOf_4 S n k v0 v1 v2 v3 I J = some o → mm_W l M1_bestOf (mm_rm (mm_rk M1_bestOf)) 0 0 S (mm_end S (mm_Qi o I J)) 4 [(0, .ref v0), (1, .int v1), (2, .int v2), (3, .int v3)] [] I J := by
  intro k
  induction k with
  | zero =>
    intros
    rename_i h
    cases h
  | succ k ih =>
    intro v0 v1 v2 v3 h0 I J o h
    exact ok1_bestOf_4_b l hS (fun {v0 v1 v2 v3} h0 {I J o} h => ih h0 h) h0 h
set_option maxHeartbeats 4000000 in
set_option maxRecDepth 100000 in
theorem ok1_bestOf (l : Launch) {S : mm_Sh} (hS : mm_WT S) {n : Nat}  {v0 : Nat} {v1 : Int32} (h0 : mm_is S v0 1) {I : mm_I} {J : mm_J} {o : Int32} (h : f1_bestOf S n v0 v1 I J = some o) : mm_C l M1_bestOf S [.ref v0, .int v1] I J (mm_Qi o I J) := by
  unfold f1_bestOf at h
  refine mm_enter rfl (by decide +kernel) rfl ?_
  refine mm_iconst (v := (-1)) d1_bestOf_0 (by decide +kernel) ?_
  refine mm_istore_n d1_bestOf_1 rfl rfl ?_
  refine mm_iconst (v := 0) d1_bestOf_2 (by decide +kernel) ?_
  refine mm_istore_n d1_bestOf_3 rfl rfl ?_
  refine mm_sub [(0, .ref v0), (1, .int v1), (2, .int (-1)), (3, .int 0)] ⟨rfl, rfl, rfl, rfl, trivial⟩ ?_
  exact ok1_bestOf_4 l hS  n h0 h
set_option maxHeartbeats 4000000 in
set_option maxRecDepth 100000 in
theorem ok1_clear_27_b (l : Launch) {S : mm_Sh} (hS : mm_WT S) {n : Nat}  {rec27 : Nat → Int32 → mm_I → mm_J → Option (mm_I × mm_J)} (hrec27 : ∀ {v0 : Nat} {v1 : Int32} (_ : mm_is S v0 1) {I : mm_I} {J : mm_J} {o : mm_I × mm_J}, rec27 v0 v1 I J = some o → mm_W l M1_clear (mm_rm (mm_rk M1_clear)) 0 0 S (mm_end S (mm_Qv o.1 o.2)) 27 [(0, .ref v0), (1, .int v1)] [] I J) {v0 : Nat} {v1 : Int32} (h0 : mm_is S v0 1) {I : mm_I} {J : mm_J} {o : mm_I × mm_J} (h : f1_clear_27_b S n rec27 v0 v1 I J = some o) : mm_W l M1_clear (mm_rm (mm_rk M1_clear)) 0 0 S (mm_end S (mm_Qv o.1 o.2)) 27 [(0, .ref v0), (1, .int v1)] [] I J := by
  unfold f1_clear_27_b at h
  refine mm_iload_n d1_clear_27 rfl ?_
  refine mm_bipush (v := 8) d1_clear_28 (by decide +kernel) ?_
  refine mm_icmp_ge (tgt := 62) d1_clear_30 (by decide) (fun hc1 => ?_) (fun hc1 => ?_)
  · rw [if_pos hc1] at h
    have h := Option.some.inj h
    subst h
    exact mm_vret rfl d1_clear_62 ⟨rfl, rfl, rfl⟩
  · rw [if_neg hc1] at h
    refine mm_aload_n d1_clear_33 rfl ?_
    refine mm_iload_n d1_clear_34 rfl ?_
    obtain ⟨o2, hk2, h⟩ := mm_bd h
    refine mm_cVv 1 (As := [.int v1]) (ok1_empty l hS h0 hk2) lk_X1_60 rfl d1_clear_35 (mm_room rfl rfl) rfl h0 rfl rfl ?_
    refine mm_aload_n d1_clear_38 rfl ?_
    refine mm_getR fl_X1_14 d1_clear_39 (mm_wtR hS 106 h0 rfl rfl) ?_
    refine mm_iload_n d1_clear_42 rfl ?_
    refine mm_iconst (v := 0) d1_clear_43 (by decide +kernel) ?_
    obtain ⟨o3, hk3, h⟩ := mm_bd h
    refine mm_cVv 6 (As := [.int v1, .int 0]) (ok6_put l hS (mm_wtT hS 0 6 h0 rfl) hk3) lk_X1_63 rfl d1_clear_44 (mm_room rfl rfl) rfl (mm_wtT hS 0 6 h0 rfl) rfl rfl ?_
    refine mm_aload_n d1_clear_47 rfl ?_
    refine mm_getR fl_X1_38 d1_clear_48 (mm_wtR hS 106 h0 rfl rfl) ?_
    refine mm_iload_n d1_clear_51 rfl ?_
    refine mm_iconst (v := 0) d1_clear_52 (by decide +kernel) ?_
    obtain ⟨o4, hk4, h⟩ := mm_bd h
    refine mm_cVv 6 (As := [.int v1, .int 0]) (ok6_put l hS (mm_wtT hS 7 6 h0 rfl) hk4) lk_X1_63 rfl d1_clear_53 (mm_room rfl rfl) rfl (mm_wtT hS 7 6 h0 rfl) rfl rfl ?_
    refine mm_iinc (v := v1 + 1) d1_clear_56 rfl rfl rfl rfl ?_
    refine mm_goto (tgt := 27) d1_clear_59 (by decide) ?_
    refine mm_sub [(0, .ref v0), (1, .int (v1 + 1))] ⟨rfl, rfl, trivial⟩ ?_
    exact hrec27 h0 h
set_option maxHeartbeats 4000000 in
set_option maxRecDepth 100000 in
theorem ok1_clear_27 (l : Launch) {S : mm_Sh} (hS : mm_WT S) {n : Nat}  : ∀ (k : Nat) {v0 : Nat} {v1 : Int32} (h0 : mm_is S v0 1) {I : mm_I} {J : mm_J} {o : mm_I × mm_J}, f1_clear_27 S n k v0 v1 I J = some o → mm_W l M1_clear (mm_rm (mm_rk M1_clear)) 0 0 S (mm_end S (mm_Qv o.1 o.2)) 27 [(0, .ref v0), (1, .int v1)] [] I J := by
  intro k
  induction k with
  | zero =>
    intros
    rename_i h
    cases h
  | succ k ih =>
    intro v0 v1 h0 I J o h
    exact ok1_clear_27_b l hS (fun {v0 v1} h0 {I J o} h => ih h0 h) h0 h
set_option maxHeartbeats 4000000 in
set_option maxRecDepth 100000 in
theorem ok1_clear (l : Launch) {S : mm_Sh} (hS : mm_WT S) {n : Nat}  {v0 : Nat} (h0 : mm_is S v0 1) {I : mm_I} {J : mm_J} {o : mm_I × mm_J} (h : f1_clear S n v0 I J = some o) : mm_C l M1_clear S [.ref v0] I J (mm_Qv o.1 o.2) := by
  unfold f1_clear at h
  refine mm_enter rfl (by decide +kernel) rfl ?_
  refine mm_aload_n d1_clear_0 rfl ?_
  refine mm_iconst (v := 0) d1_clear_1 (by decide +kernel) ?_
  refine mm_putI fp_X1_44 d1_clear_2 (mm_wtI hS h0 rfl) ?_
  refine mm_aload_n d1_clear_5 rfl ?_
  refine mm_iconst (v := 0) d1_clear_6 (by decide +kernel) ?_
  refine mm_putI fp_X1_48 d1_clear_7 (mm_wtI hS h0 rfl) ?_
  refine mm_aload_n d1_clear_10 rfl ?_
  refine mm_iconst (v := 0) d1_clear_11 (by decide +kernel) ?_
  refine mm_putI fp_X1_51 d1_clear_12 (mm_wtI hS h0 rfl) ?_
  refine mm_aload_n d1_clear_15 rfl ?_
  refine mm_iconst (v := 0) d1_clear_16 (by decide +kernel) ?_
  refine mm_putI fp_X1_54 d1_clear_17 (mm_wtI hS h0 rfl) ?_
  refine mm_aload_n d1_clear_20 rfl ?_
  refine mm_iconst (v := 0) d1_clear_21 (by decide +kernel) ?_
  refine mm_putI fp_X1_57 d1_clear_22 (mm_wtI hS h0 rfl) ?_
  refine mm_iconst (v := 0) d1_clear_25 (by decide +kernel) ?_
  refine mm_istore_n d1_clear_26 rfl rfl ?_
  refine mm_sub [(0, .ref v0), (1, .int 0)] ⟨rfl, rfl, trivial⟩ ?_
  exact ok1_clear_27 l hS  n h0 h
set_option maxHeartbeats 4000000 in
set_option maxRecDepth 100000 in
theorem ok1_withSkill_30 (l : Launch) {S : mm_Sh} (hS : mm_WT S) {n : Nat}  {rec5 : Nat → Int32 → Int32 → Int32 → Int32 → mm_I → mm_J → Option (Int32)} (hrec5 : ∀ {v0 : Nat} {v1 : Int32} {v2 : Int32} {v3 : Int32} {v4 : Int32} (_ : mm_is S v0 1) {I : mm_I} {J : mm_J} {o : Int32}, rec5 v0 v1 v2 v3 v4 I J = some o → mm_W l M1_withSkill (mm_rm (mm_rk M1_withSkill)) 0 0 S (mm_end S (mm_Qi o I J)) 5 [(0, .ref v0), (1, .int v1), (2, .int v2), (3, .int v3), (4, .int v4)] [] I J) {v0 : Nat} {v1 : Int32} {v2 : Int32} {v3 : Int32} {v4 : Int32} (h0 : mm_is S v0 1) {I : mm_I} {J : mm_J} {o : Int32} (h : f1_withSkill_30 S n rec5 v0 v1 v2 v3 v4 I J = some o) : mm_W l M1_withSkill (mm_rm (mm_rk M1_withSkill)) 0 0 S (mm_end S (mm_Qi o I J)) 30 [(0, .ref v0), (1, .int v1), (2, .int v2), (3, .int v3), (4, .int v4)] [] I J := by
  unfold f1_withSkill_30 at h
  refine mm_iinc (v := v4 + 1) d1_withSkill_30 rfl rfl rfl rfl ?_
  refine mm_goto (tgt := 5) d1_withSkill_33 (by decide) ?_
  refine mm_sub [(0, .ref v0), (1, .int v1), (2, .int v2), (3, .int v3), (4, .int (v4 + 1))] ⟨rfl, rfl, rfl, rfl, rfl, trivial⟩ ?_
  exact hrec5 h0 h
set_option maxHeartbeats 4000000 in
set_option maxRecDepth 100000 in
theorem ok1_withSkill_5_b (l : Launch) {S : mm_Sh} (hS : mm_WT S) {n : Nat}  {rec5 : Nat → Int32 → Int32 → Int32 → Int32 → mm_I → mm_J → Option (Int32)} (hrec5 : ∀ {v0 : Nat} {v1 : Int32} {v2 : Int32} {v3 : Int32} {v4 : Int32} (_ : mm_is S v0 1) {I : mm_I} {J : mm_J} {o : Int32}, rec5 v0 v1 v2 v3 v4 I J = some o → mm_W l M1_withSkill (mm_rm (mm_rk M1_withSkill)) 0 0 S (mm_end S (mm_Qi o I J)) 5 [(0, .ref v0), (1, .int v1), (2, .int v2), (3, .int v3), (4, .int v4)] [] I J) {v0 : Nat} {v1 : Int32} {v2 : Int32} {v3 : Int32} {v4 : Int32} (h0 : mm_is S v0 1) {I : mm_I} {J : mm_J} {o : Int32} (h : f1_withSkill_5_b S n rec5 v0 v1 v2 v3 v4 I J = some o) : mm_W l M1_withSkill (mm_rm (mm_rk M1_withSkill)) 0 0 S (mm_end S (mm_Qi o I J)) 5 [(0, .ref v0), (1, .int v1), (2, .int v2), (3, .int v3), (4, .int v4)] [] I J := by
  unfold f1_withSkill_5_b at h
  refine mm_iload d1_withSkill_5 rfl ?_
  refine mm_bipush (v := 8) d1_withSkill_7 (by decide +kernel) ?_
  refine mm_icmp_ge (tgt := 36) d1_withSkill_9 (by decide) (fun hc1 => ?_) (fun hc1 => ?_)
  · rw [if_pos hc1] at h
    refine mm_iload_n d1_withSkill_36 rfl ?_
    have h := Option.some.inj h
    subst h
    exact mm_iret rfl d1_withSkill_37 ⟨rfl, rfl, rfl⟩
  · rw [if_neg hc1] at h
    refine mm_aload_n d1_withSkill_12 rfl ?_
    refine mm_iload d1_withSkill_13 rfl ?_
    refine mm_iload_n d1_withSkill_15 rfl ?_
    obtain ⟨o2, hk2, h⟩ := mm_bd h
    refine mm_cVi 1 (As := [.int v4, .int v1]) (ok1_skillOf l hS h0 hk2) lk_X1_83 rfl d1_withSkill_16 (mm_room rfl rfl) rfl h0 rfl rfl ?_
    refine mm_iload_n d1_withSkill_19 rfl ?_
    refine mm_icmp_lt (tgt := 30) d1_withSkill_20 (by decide) (fun hc3 => ?_) (fun hc3 => ?_)
    · rw [if_pos hc3] at h
      refine mm_sub [(0, .ref v0), (1, .int v1), (2, .int v2), (3, .int v3), (4, .int v4)] ⟨rfl, rfl, rfl, rfl, rfl, trivial⟩ ?_
      exact ok1_withSkill_30 l hS hrec5 h0 h
    · rw [if_neg hc3] at h
      refine mm_iload_n d1_withSkill_23 rfl ?_
      refine mm_iconst (v := 1) d1_withSkill_24 (by decide +kernel) ?_
      refine mm_iload d1_withSkill_25 rfl ?_
      refine mm_ishl d1_withSkill_27 ?_
      refine mm_ior d1_withSkill_28 ?_
      refine mm_istore_n d1_withSkill_29 rfl rfl ?_
      refine mm_sub [(0, .ref v0), (1, .int v1), (2, .int v2), (3, .int (v3 ||| ((1 : Int32) <<< (v4 &&& 31)))), (4, .int v4)] ⟨rfl, rfl, rfl, rfl, rfl, trivial⟩ ?_
      exact ok1_withSkill_30 l hS hrec5 h0 h
set_option maxHeartbeats 4000000 in
set_option maxRecDepth 100000 in
theorem ok1_withSkill_5 (l : Launch) {S : mm_Sh} (hS : mm_WT S) {n : Nat}  : ∀ (k : Nat) {v0 : Nat} {v1 : Int32} {v2 : Int32} {v3 : Int32} {v4 : Int32} (h0 : mm_is S v0 1) {I : mm_I} {J : mm_J} {o : Int32}, f1_withSkill_5 S n k v0 v1 v2 v3 v4 I J = some o → mm_W l M1_withSkill (mm_rm (mm_rk M1_withSkill)) 0 0 S (mm_end S (mm_Qi o I J)) 5 [(0, .ref v0), (1, .int v1), (2, .int v2), (3, .int v3), (4, .int v4)] [] I J := by
  intro k
  induction k with
  | zero =>
    intros
    rename_i h
    cases h
  | succ k ih =>
    intro v0 v1 v2 v3 v4 h0 I J o h
    exact ok1_withSkill_5_b l hS (fun {v0 v1 v2 v3 v4} h0 {I J o} h => ih h0 h) h0 h
set_option maxHeartbeats 4000000 in
set_option maxRecDepth 100000 in
theorem ok1_withSkill (l : Launch) {S : mm_Sh} (hS : mm_WT S) {n : Nat}  {v0 : Nat} {v1 : Int32} {v2 : Int32} (h0 : mm_is S v0 1) {I : mm_I} {J : mm_J} {o : Int32} (h : f1_withSkill S n v0 v1 v2 I J = some o) : mm_C l M1_withSkill S [.ref v0, .int v1, .int v2] I J (mm_Qi o I J) := by
  unfold f1_withSkill at h
  refine mm_enter rfl (by decide +kernel) rfl ?_
  refine mm_iconst (v := 0) d1_withSkill_0 (by decide +kernel) ?_
  refine mm_istore_n d1_withSkill_1 rfl rfl ?_
  refine mm_iconst (v := 0) d1_withSkill_2 (by decide +kernel) ?_
  refine mm_istore d1_withSkill_3 rfl rfl ?_
  refine mm_sub [(0, .ref v0), (1, .int v1), (2, .int v2), (3, .int 0), (4, .int 0)] ⟨rfl, rfl, rfl, rfl, rfl, trivial⟩ ?_
  exact ok1_withSkill_5 l hS  n h0 h
set_option maxHeartbeats 4000000 in
set_option maxRecDepth 100000 in
theorem ok2_bearChild_88 (l : Launch) {S : mm_Sh} (hS : mm_WT S)    {I : mm_I} {J : mm_J} {o : mm_I × mm_J} (h : f2_bearChild_88 S  I J = some o) : mm_W l M2_bearChild (mm_rm (mm_rk M2_bearChild)) 0 0 S (mm_end S (mm_Qv o.1 o.2)) 88 [] [] I J := by
  unfold f2_bearChild_88 at h
  have h := Option.some.inj h
  subst h
  exact mm_vret rfl d2_bearChild_88 ⟨rfl, rfl, rfl⟩
set_option maxHeartbeats 4000000 in
set_option maxRecDepth 100000 in
theorem ok2_bearChild (l : Launch) {S : mm_Sh} (hS : mm_WT S)  {v0 : Nat} {v1 : Int32} (h0 : mm_is S v0 2) {I : mm_I} {J : mm_J} {o : mm_I × mm_J} (h : f2_bearChild S v0 v1 I J = some o) : mm_C l M2_bearChild S [.ref v0, .int v1] I J (mm_Qv o.1 o.2) := by
  unfold f2_bearChild at h
  refine mm_enter rfl (by decide +kernel) rfl ?_
  refine mm_aload_n d2_bearChild_0 rfl ?_
  refine mm_getR fl_X2_19 d2_bearChild_1 (mm_wtR hS 101 h0 rfl rfl) ?_
  refine mm_dup d2_bearChild_4 rfl ?_
  refine mm_getI fl_X2_134 d2_bearChild_5 (mm_wtI hS (mm_wtT hS 2 1 h0 rfl) rfl) ?_
  refine mm_iconst (v := 1) d2_bearChild_8 (by decide +kernel) ?_
  refine mm_iload_n d2_bearChild_9 rfl ?_
  refine mm_ishl d2_bearChild_10 ?_
  refine mm_ior d2_bearChild_11 ?_
  refine mm_putI fp_X2_134 d2_bearChild_12 (mm_wtI hS (mm_wtT hS 2 1 h0 rfl) rfl) ?_
  refine mm_aload_n d2_bearChild_15 rfl ?_
  refine mm_getR fl_X2_19 d2_bearChild_16 (mm_wtR hS 101 h0 rfl rfl) ?_
  refine mm_getR fl_X2_165 d2_bearChild_19 (mm_wtR hS 106 (mm_wtT hS 2 1 h0 rfl) rfl rfl) ?_
  refine mm_iload_n d2_bearChild_22 rfl ?_
  refine mm_iconst (v := 0) d2_bearChild_23 (by decide +kernel) ?_
  obtain ⟨o1, hk1, h⟩ := mm_bd h
  refine mm_cVv 6 (As := [.int v1, .int 0]) (ok6_put l hS (mm_wtT hS 0 6 (mm_wtT hS 2 1 h0 rfl) rfl) hk1) lk_X2_85 rfl d2_bearChild_24 (mm_room rfl rfl) rfl (mm_wtT hS 0 6 (mm_wtT hS 2 1 h0 rfl) rfl) rfl rfl ?_
  refine mm_aload_n d2_bearChild_27 rfl ?_
  refine mm_getR fl_X2_19 d2_bearChild_28 (mm_wtR hS 101 h0 rfl rfl) ?_
  refine mm_getR fl_X2_153 d2_bearChild_31 (mm_wtR hS 106 (mm_wtT hS 2 1 h0 rfl) rfl rfl) ?_
  refine mm_iload_n d2_bearChild_34 rfl ?_
  refine mm_iconst (v := 0) d2_bearChild_35 (by decide +kernel) ?_
  obtain ⟨o2, hk2, h⟩ := mm_bd h
  refine mm_cVv 6 (As := [.int v1, .int 0]) (ok6_put l hS (mm_wtT hS 7 6 (mm_wtT hS 2 1 h0 rfl) rfl) hk2) lk_X2_85 rfl d2_bearChild_36 (mm_room rfl rfl) rfl (mm_wtT hS 7 6 (mm_wtT hS 2 1 h0 rfl) rfl) rfl rfl ?_
  refine mm_aload_n d2_bearChild_39 rfl ?_
  refine mm_getR fl_X2_19 d2_bearChild_40 (mm_wtR hS 101 h0 rfl rfl) ?_
  refine mm_aload_n d2_bearChild_43 rfl ?_
  refine mm_getR fl_X2_9 d2_bearChild_44 (mm_wtR hS 100 h0 rfl rfl) ?_
  refine mm_getI fl_X2_23 d2_bearChild_47 (mm_wtI hS (mm_wtT hS 0 0 h0 rfl) rfl) ?_
  obtain ⟨o3, hk3, h⟩ := mm_bd h
  refine mm_cVi 1 (As := [.int (o2.1 (mm_rf S v0 0) 5)]) (ok1_draw l hS (mm_wtT hS 2 1 h0 rfl) hk3) lk_X2_137 rfl d2_bearChild_50 (mm_room rfl rfl) rfl (mm_wtT hS 2 1 h0 rfl) rfl rfl ?_
  refine mm_istore_n d2_bearChild_53 rfl rfl ?_
  refine mm_aload_n d2_bearChild_54 rfl ?_
  refine mm_getR fl_X2_9 d2_bearChild_55 (mm_wtR hS 100 h0 rfl rfl) ?_
  refine mm_iload_n d2_bearChild_58 rfl ?_
  obtain ⟨o4, hk4, h⟩ := mm_bd h
  refine mm_cVi 0 (As := [.int o3.1]) (ok0_isForbidden l hS (mm_wtT hS 0 0 h0 rfl) hk4) lk_X2_99 rfl d2_bearChild_59 (mm_room rfl rfl) rfl (mm_wtT hS 0 0 h0 rfl) rfl rfl ?_
  refine mm_if_ne (tgt := 88) d2_bearChild_62 (by decide) (fun hc5 => ?_) (fun hc5 => ?_)
  · rw [if_neg hc5] at h
    refine mm_sub [] trivial ?_
    exact ok2_bearChild_88 l hS   h
  · rw [if_pos hc5] at h
    refine mm_aload_n d2_bearChild_65 rfl ?_
    refine mm_getR fl_X2_19 d2_bearChild_66 (mm_wtR hS 101 h0 rfl rfl) ?_
    refine mm_iload_n d2_bearChild_69 rfl ?_
    refine mm_iload_n d2_bearChild_70 rfl ?_
    refine mm_bipush (v := 50) d2_bearChild_71 (by decide +kernel) ?_
    obtain ⟨o6, hk6, h⟩ := mm_bd h
    refine mm_cVv 1 (As := [.int v1, .int o3.1, .int 50]) (ok1_setSkill l hS (mm_wtT hS 2 1 h0 rfl) hk6) lk_X2_127 rfl d2_bearChild_73 (mm_room rfl rfl) rfl (mm_wtT hS 2 1 h0 rfl) rfl rfl ?_
    refine mm_aload_n d2_bearChild_76 rfl ?_
    refine mm_getR fl_X2_19 d2_bearChild_77 (mm_wtR hS 101 h0 rfl rfl) ?_
    refine mm_getR fl_X2_147 d2_bearChild_80 (mm_wtR hS 106 (mm_wtT hS 2 1 h0 rfl) rfl rfl) ?_
    refine mm_iload_n d2_bearChild_83 rfl ?_
    refine mm_iload_n d2_bearChild_84 rfl ?_
    obtain ⟨o7, hk7, h⟩ := mm_bd h
    refine mm_cVv 6 (As := [.int v1, .int o3.1]) (ok6_put l hS (mm_wtT hS 3 6 (mm_wtT hS 2 1 h0 rfl) rfl) hk7) lk_X2_85 rfl d2_bearChild_85 (mm_room rfl rfl) rfl (mm_wtT hS 3 6 (mm_wtT hS 2 1 h0 rfl) rfl) rfl rfl ?_
    refine mm_sub [] trivial ?_
    exact ok2_bearChild_88 l hS   h
set_option maxHeartbeats 4000000 in
set_option maxRecDepth 100000 in
theorem ok2_fade_129 (l : Launch) {S : mm_Sh} (hS : mm_WT S)    {I : mm_I} {J : mm_J} {o : mm_I × mm_J} (h : f2_fade_129 S  I J = some o) : mm_W l M2_fade (mm_rm (mm_rk M2_fade)) 0 0 S (mm_end S (mm_Qv o.1 o.2)) 129 [] [] I J := by
  unfold f2_fade_129 at h
  have h := Option.some.inj h
  subst h
  exact mm_vret rfl d2_fade_129 ⟨rfl, rfl, rfl⟩
set_option maxHeartbeats 4000000 in
set_option maxRecDepth 100000 in
theorem ok2_fade_117 (l : Launch) {S : mm_Sh} (hS : mm_WT S)  {v0 : Nat} {v1 : Int32} (h0 : mm_is S v0 2) {I : mm_I} {J : mm_J} {o : mm_I × mm_J} (h : f2_fade_117 S v0 v1 I J = some o) : mm_W l M2_fade (mm_rm (mm_rk M2_fade)) 0 0 S (mm_end S (mm_Qv o.1 o.2)) 117 [(0, .ref v0), (1, .int v1)] [] I J := by
  unfold f2_fade_117 at h
  refine mm_aload_n d2_fade_117 rfl ?_
  refine mm_getR fl_X2_19 d2_fade_118 (mm_wtR hS 101 h0 rfl rfl) ?_
  refine mm_getR fl_X2_81 d2_fade_121 (mm_wtR hS 106 (mm_wtT hS 2 1 h0 rfl) rfl rfl) ?_
  refine mm_iload_n d2_fade_124 rfl ?_
  refine mm_iconst (v := (-1)) d2_fade_125 (by decide +kernel) ?_
  obtain ⟨o1, hk1, h⟩ := mm_bd h
  refine mm_cVv 6 (As := [.int v1, .int (-1)]) (ok6_put l hS (mm_wtT hS 6 6 (mm_wtT hS 2 1 h0 rfl) rfl) hk1) lk_X2_85 rfl d2_fade_126 (mm_room rfl rfl) rfl (mm_wtT hS 6 6 (mm_wtT hS 2 1 h0 rfl) rfl) rfl rfl ?_
  refine mm_sub [] trivial ?_
  exact ok2_fade_129 l hS   h
set_option maxHeartbeats 4000000 in
set_option maxRecDepth 100000 in
theorem ok2_fade_107 (l : Launch) {S : mm_Sh} (hS : mm_WT S)  {v0 : Nat} {v1 : Int32} {v4 : Int32} {v5 : Int32} (h0 : mm_is S v0 2) {I : mm_I} {J : mm_J} {o : mm_I × mm_J} (h : f2_fade_107 S v0 v1 v4 v5 I J = some o) : mm_W l M2_fade (mm_rm (mm_rk M2_fade)) 0 0 S (mm_end S (mm_Qv o.1 o.2)) 107 [(0, .ref v0), (1, .int v1), (4, .int v4), (5, .int v5)] [] I J := by
  unfold f2_fade_107 at h
  refine mm_iload d2_fade_107 rfl ?_
  refine mm_if_ne (tgt := 117) d2_fade_109 (by decide) (fun hc1 => ?_) (fun hc1 => ?_)
  · rw [if_neg hc1] at h
    refine mm_sub [(0, .ref v0), (1, .int v1)] ⟨rfl, rfl, trivial⟩ ?_
    exact ok2_fade_117 l hS  h0 h
  · rw [if_pos hc1] at h
    refine mm_iload d2_fade_112 rfl ?_
    refine mm_if_gt (tgt := 129) d2_fade_114 (by decide) (fun hc2 => ?_) (fun hc2 => ?_)
    · rw [if_pos hc2] at h
      refine mm_sub [] trivial ?_
      exact ok2_fade_129 l hS   h
    · rw [if_neg hc2] at h
      refine mm_sub [(0, .ref v0), (1, .int v1)] ⟨rfl, rfl, trivial⟩ ?_
      exact ok2_fade_117 l hS  h0 h
set_option maxHeartbeats 4000000 in
set_option maxRecDepth 100000 in
theorem ok2_fade_65 (l : Launch) {S : mm_Sh} (hS : mm_WT S)  {v0 : Nat} {v1 : Int32} {v2 : Int32} {v4 : Int32} {v5 : Int32} (h0 : mm_is S v0 2) {I : mm_I} {J : mm_J} {o : mm_I × mm_J} (h : f2_fade_65 S v0 v1 v2 v4 v5 I J = some o) : mm_W l M2_fade (mm_rm (mm_rk M2_fade)) 0 0 S (mm_end S (mm_Qv o.1 o.2)) 65 [(0, .ref v0), (1, .int v1), (2, .int v2), (4, .int v4), (5, .int v5)] [] I J := by
  unfold f2_fade_65 at h
  refine mm_aload_n d2_fade_65 rfl ?_
  refine mm_getR fl_X2_19 d2_fade_66 (mm_wtR hS 101 h0 rfl rfl) ?_
  refine mm_iload_n d2_fade_69 rfl ?_
  refine mm_iload_n d2_fade_70 rfl ?_
  refine mm_iconst (v := 0) d2_fade_71 (by decide +kernel) ?_
  refine mm_iload d2_fade_72 rfl ?_
  refine mm_mmax lm_X2_183 d2_fade_74 (mm_roomM rfl rfl) ?_
  obtain ⟨o1, hk1, h⟩ := mm_bd h
  refine mm_cVv 1 (As := [.int v1, .int v2, .int (if 0 < v4 then v4 else 0)]) (ok1_setSkill l hS (mm_wtT hS 2 1 h0 rfl) hk1) lk_X2_127 rfl d2_fade_77 (mm_room rfl rfl) rfl (mm_wtT hS 2 1 h0 rfl) rfl rfl ?_
  refine mm_iload d2_fade_80 rfl ?_
  refine mm_if_gt (tgt := 107) d2_fade_82 (by decide) (fun hc2 => ?_) (fun hc2 => ?_)
  · rw [if_pos hc2] at h
    refine mm_sub [(0, .ref v0), (1, .int v1), (4, .int v4), (5, .int v5)] ⟨rfl, rfl, rfl, rfl, trivial⟩ ?_
    exact ok2_fade_107 l hS  h0 h
  · rw [if_neg hc2] at h
    refine mm_aload_n d2_fade_85 rfl ?_
    refine mm_getR fl_X2_19 d2_fade_86 (mm_wtR hS 101 h0 rfl rfl) ?_
    refine mm_getR fl_X2_186 d2_fade_89 (mm_wtR hS 106 (mm_wtT hS 2 1 h0 rfl) rfl rfl) ?_
    refine mm_iload_n d2_fade_92 rfl ?_
    refine mm_iload_n d2_fade_93 rfl ?_
    obtain ⟨o3, hk3, h⟩ := mm_bd h
    refine mm_cSi (As := [.int v1, .int v2]) (ok10_cell l hS hk3) lk_X2_189 rfl d2_fade_94 (mm_room rfl rfl) rfl rfl ?_
    refine mm_aload_n d2_fade_97 rfl ?_
    refine mm_getR fl_X2_19 d2_fade_98 (mm_wtR hS 101 h0 rfl rfl) ?_
    refine mm_getI fl_X2_144 d2_fade_101 (mm_wtI hS (mm_wtT hS 2 1 h0 rfl) rfl) ?_
    obtain ⟨o4, hk4, h⟩ := mm_bd h
    refine mm_cVv 6 (As := [.int o3, .int (o1.1 (mm_rf S v0 2) 11)]) (ok6_put l hS (mm_wtT hS 2 6 (mm_wtT hS 2 1 h0 rfl) rfl) hk4) lk_X2_85 rfl d2_fade_104 (mm_room rfl rfl) rfl (mm_wtT hS 2 6 (mm_wtT hS 2 1 h0 rfl) rfl) rfl rfl ?_
    refine mm_sub [(0, .ref v0), (1, .int v1), (4, .int v4), (5, .int v5)] ⟨rfl, rfl, rfl, rfl, trivial⟩ ?_
    exact ok2_fade_107 l hS  h0 h
set_option maxHeartbeats 4000000 in
set_option maxRecDepth 100000 in
theorem ok2_fade_54 (l : Launch) {S : mm_Sh} (hS : mm_WT S)  {v0 : Nat} {v1 : Int32} {v2 : Int32} {v4 : Int32} {s0 : Int32} (h0 : mm_is S v0 2) {I : mm_I} {J : mm_J} {o : mm_I × mm_J} (h : f2_fade_54 S v0 v1 v2 v4 s0 I J = some o) : mm_W l M2_fade (mm_rm (mm_rk M2_fade)) 0 0 S (mm_end S (mm_Qv o.1 o.2)) 54 [(0, .ref v0), (1, .int v1), (2, .int v2), (4, .int v4)] [.int s0] I J := by
  unfold f2_fade_54 at h
  refine mm_istore d2_fade_54 rfl rfl ?_
  refine mm_iload d2_fade_56 rfl ?_
  refine mm_if_eq (tgt := 65) d2_fade_58 (by decide) (fun hc1 => ?_) (fun hc1 => ?_)
  · rw [if_pos hc1] at h
    refine mm_sub [(0, .ref v0), (1, .int v1), (2, .int v2), (4, .int v4), (5, .int s0)] ⟨rfl, rfl, rfl, rfl, rfl, trivial⟩ ?_
    exact ok2_fade_65 l hS  h0 h
  · rw [if_neg hc1] at h
    refine mm_bipush (v := 50) d2_fade_61 (by decide +kernel) ?_
    refine mm_istore d2_fade_63 rfl rfl ?_
    refine mm_sub [(0, .ref v0), (1, .int v1), (2, .int v2), (4, .int 50), (5, .int s0)] ⟨rfl, rfl, rfl, rfl, rfl, trivial⟩ ?_
    exact ok2_fade_65 l hS  h0 h
set_option maxHeartbeats 4000000 in
set_option maxRecDepth 100000 in
theorem ok2_fade_53 (l : Launch) {S : mm_Sh} (hS : mm_WT S)  {v0 : Nat} {v1 : Int32} {v2 : Int32} {v4 : Int32} (h0 : mm_is S v0 2) {I : mm_I} {J : mm_J} {o : mm_I × mm_J} (h : f2_fade_53 S v0 v1 v2 v4 I J = some o) : mm_W l M2_fade (mm_rm (mm_rk M2_fade)) 0 0 S (mm_end S (mm_Qv o.1 o.2)) 53 [(0, .ref v0), (1, .int v1), (2, .int v2), (4, .int v4)] [] I J := by
  unfold f2_fade_53 at h
  refine mm_iconst (v := 0) d2_fade_53 (by decide +kernel) ?_
  refine mm_sub [(0, .ref v0), (1, .int v1), (2, .int v2), (4, .int v4)] ⟨rfl, rfl, rfl, rfl, trivial⟩ ?_
  exact ok2_fade_54 l hS  h0 h
set_option maxHeartbeats 4000000 in
set_option maxRecDepth 100000 in
theorem ok2_fade (l : Launch) {S : mm_Sh} (hS : mm_WT S)  {v0 : Nat} {v1 : Int32} {v2 : Int32} (h0 : mm_is S v0 2) {I : mm_I} {J : mm_J} {o : mm_I × mm_J} (h : f2_fade S v0 v1 v2 I J = some o) : mm_C l M2_fade S [.ref v0, .int v1, .int v2] I J (mm_Qv o.1 o.2) := by
  unfold f2_fade at h
  refine mm_enter rfl (by decide +kernel) rfl ?_
  refine mm_aload_n d2_fade_0 rfl ?_
  refine mm_getR fl_X2_19 d2_fade_1 (mm_wtR hS 101 h0 rfl rfl) ?_
  refine mm_iload_n d2_fade_4 rfl ?_
  refine mm_iload_n d2_fade_5 rfl ?_
  obtain ⟨o1, hk1, h⟩ := mm_bd h
  refine mm_cVi 1 (As := [.int v1, .int v2]) (ok1_skillOf l hS (mm_wtT hS 2 1 h0 rfl) hk1) lk_X2_119 rfl d2_fade_6 (mm_room rfl rfl) rfl (mm_wtT hS 2 1 h0 rfl) rfl rfl ?_
  refine mm_istore_n d2_fade_9 rfl rfl ?_
  refine mm_iload_n d2_fade_10 rfl ?_
  refine mm_aload_n d2_fade_11 rfl ?_
  refine mm_getR fl_X2_15 d2_fade_12 (mm_wtR hS 107 h0 rfl rfl) ?_
  refine mm_getI fl_X2_177 d2_fade_15 (mm_wtI hS (mm_wtT hS 1 7 h0 rfl) rfl) ?_
  refine mm_isub d2_fade_18 ?_
  refine mm_istore d2_fade_19 rfl rfl ?_
  refine mm_aload_n d2_fade_21 rfl ?_
  refine mm_getR fl_X2_9 d2_fade_22 (mm_wtR hS 100 h0 rfl rfl) ?_
  refine mm_getR fl_X2_180 d2_fade_25 (mm_wtR hS 106 (mm_wtT hS 0 0 h0 rfl) rfl rfl) ?_
  refine mm_iload_n d2_fade_28 rfl ?_
  obtain ⟨o2, hk2, h⟩ := mm_bd h
  refine mm_cVi 6 (As := [.int v2]) (ok6_at l hS (mm_wtT hS 0 6 (mm_wtT hS 0 0 h0 rfl) rfl) hk2) lk_X2_96 rfl d2_fade_29 (mm_room rfl rfl) rfl (mm_wtT hS 0 6 (mm_wtT hS 0 0 h0 rfl) rfl) rfl rfl ?_
  refine mm_iconst (v := 2) d2_fade_32 (by decide +kernel) ?_
  refine mm_icmp_ne (tgt := 53) d2_fade_33 (by decide) (fun hc3 => ?_) (fun hc3 => ?_)
  · rw [if_neg hc3] at h
    refine mm_sub [(0, .ref v0), (1, .int v1), (2, .int v2), (4, .int (o1 - (I (mm_rf S v0 1) 2)))] ⟨rfl, rfl, rfl, rfl, trivial⟩ ?_
    exact ok2_fade_53 l hS  h0 h
  · rw [if_pos hc3] at h
    refine mm_iload_n d2_fade_36 rfl ?_
    refine mm_bipush (v := 50) d2_fade_37 (by decide +kernel) ?_
    refine mm_icmp_lt (tgt := 53) d2_fade_39 (by decide) (fun hc4 => ?_) (fun hc4 => ?_)
    · rw [if_pos hc4] at h
      refine mm_sub [(0, .ref v0), (1, .int v1), (2, .int v2), (4, .int (o1 - (I (mm_rf S v0 1) 2)))] ⟨rfl, rfl, rfl, rfl, trivial⟩ ?_
      exact ok2_fade_53 l hS  h0 h
    · rw [if_neg hc4] at h
      refine mm_iload d2_fade_42 rfl ?_
      refine mm_bipush (v := 50) d2_fade_44 (by decide +kernel) ?_
      refine mm_icmp_gt (tgt := 53) d2_fade_46 (by decide) (fun hc5 => ?_) (fun hc5 => ?_)
      · rw [if_pos hc5] at h
        refine mm_sub [(0, .ref v0), (1, .int v1), (2, .int v2), (4, .int (o1 - (I (mm_rf S v0 1) 2)))] ⟨rfl, rfl, rfl, rfl, trivial⟩ ?_
        exact ok2_fade_53 l hS  h0 h
      · rw [if_neg hc5] at h
        refine mm_iconst (v := 1) d2_fade_49 (by decide +kernel) ?_
        refine mm_goto (tgt := 54) d2_fade_50 (by decide) ?_
        refine mm_sub [(0, .ref v0), (1, .int v1), (2, .int v2), (4, .int (o1 - (I (mm_rf S v0 1) 2)))] ⟨rfl, rfl, rfl, rfl, trivial⟩ ?_
        exact ok2_fade_54 l hS  h0 h
set_option maxHeartbeats 4000000 in
set_option maxRecDepth 100000 in
theorem ok2_hasRoom_26 (l : Launch) {S : mm_Sh} (hS : mm_WT S) {n : Nat}  {s0 : Int32}  {I : mm_I} {J : mm_J} {o : Int32} (h : f2_hasRoom_26 S n s0 I J = some o) : mm_W l M2_hasRoom (mm_rm (mm_rk M2_hasRoom)) 0 0 S (mm_end S (mm_Qi o I J)) 26 [] [.int s0] I J := by
  unfold f2_hasRoom_26 at h
  obtain ⟨hb1, h⟩ := mm_gd h
  have h := Option.some.inj h
  subst h
  exact mm_zret rfl d2_hasRoom_26 (mm_bit_ok hb1) ⟨rfl, rfl, rfl⟩
set_option maxHeartbeats 4000000 in
set_option maxRecDepth 100000 in
theorem ok2_hasRoom (l : Launch) {S : mm_Sh} (hS : mm_WT S) {n : Nat}  {v0 : Nat} {v1 : Int32} (h0 : mm_is S v0 2) {I : mm_I} {J : mm_J} {o : Int32} (h : f2_hasRoom S n v0 v1 I J = some o) : mm_C l M2_hasRoom S [.ref v0, .int v1] I J (mm_Qi o I J) := by
  unfold f2_hasRoom at h
  refine mm_enter rfl (by decide +kernel) rfl ?_
  refine mm_aload_n d2_hasRoom_0 rfl ?_
  refine mm_getR fl_X2_19 d2_hasRoom_1 (mm_wtR hS 101 h0 rfl rfl) ?_
  refine mm_iload_n d2_hasRoom_4 rfl ?_
  obtain ⟨o1, hk1, h⟩ := mm_bd h
  refine mm_cVi 1 (As := [.int v1]) (ok1_knownBy l hS (mm_wtT hS 2 1 h0 rfl) hk1) lk_X2_35 rfl d2_hasRoom_5 (mm_room rfl rfl) rfl (mm_wtT hS 2 1 h0 rfl) rfl rfl ?_
  obtain ⟨o2, hk2, h⟩ := mm_bd h
  refine mm_cSi (As := [.int o1]) (okJ6_bitCount l hS hk2) lk_X2_39 rfl d2_hasRoom_8 (mm_room rfl rfl) rfl rfl ?_
  refine mm_aload_n d2_hasRoom_11 rfl ?_
  refine mm_getR fl_X2_15 d2_hasRoom_12 (mm_wtR hS 107 h0 rfl rfl) ?_
  refine mm_getI fl_X2_44 d2_hasRoom_15 (mm_wtI hS (mm_wtT hS 1 7 h0 rfl) rfl) ?_
  refine mm_icmp_ge (tgt := 25) d2_hasRoom_18 (by decide) (fun hc3 => ?_) (fun hc3 => ?_)
  · rw [if_pos hc3] at h
    refine mm_iconst (v := 0) d2_hasRoom_25 (by decide +kernel) ?_
    refine mm_sub [] trivial ?_
    exact ok2_hasRoom_26 l hS   h
  · rw [if_neg hc3] at h
    refine mm_iconst (v := 1) d2_hasRoom_21 (by decide +kernel) ?_
    refine mm_goto (tgt := 26) d2_hasRoom_22 (by decide) ?_
    refine mm_sub [] trivial ?_
    exact ok2_hasRoom_26 l hS   h
set_option maxHeartbeats 4000000 in
set_option maxRecDepth 100000 in
theorem ok2_learnOn_106 (l : Launch) {S : mm_Sh} (hS : mm_WT S)    {I : mm_I} {J : mm_J} {o : mm_I × mm_J} (h : f2_learnOn_106 S  I J = some o) : mm_W l M2_learnOn (mm_rm (mm_rk M2_learnOn)) 0 0 S (mm_end S (mm_Qv o.1 o.2)) 106 [] [] I J := by
  unfold f2_learnOn_106 at h
  have h := Option.some.inj h
  subst h
  exact mm_vret rfl d2_learnOn_106 ⟨rfl, rfl, rfl⟩
set_option maxHeartbeats 4000000 in
set_option maxRecDepth 100000 in
theorem ok2_learnOn_62 (l : Launch) {S : mm_Sh} (hS : mm_WT S)  {v0 : Nat} {v1 : Int32} {v2 : Int32} {v3 : Int32} {s0 : Int32} (h0 : mm_is S v0 2) {I : mm_I} {J : mm_J} {o : mm_I × mm_J} (h : f2_learnOn_62 S v0 v1 v2 v3 s0 I J = some o) : mm_W l M2_learnOn (mm_rm (mm_rk M2_learnOn)) 0 0 S (mm_end S (mm_Qv o.1 o.2)) 62 [(0, .ref v0), (1, .int v1), (2, .int v2), (3, .int v3)] [.int s0] I J := by
  unfold f2_learnOn_62 at h
  refine mm_istore d2_learnOn_62 rfl rfl ?_
  refine mm_aload_n d2_learnOn_64 rfl ?_
  refine mm_getR fl_X2_19 d2_learnOn_65 (mm_wtR hS 101 h0 rfl rfl) ?_
  refine mm_iload_n d2_learnOn_68 rfl ?_
  refine mm_iload_n d2_learnOn_69 rfl ?_
  refine mm_iload d2_learnOn_70 rfl ?_
  obtain ⟨o1, hk1, h⟩ := mm_bd h
  refine mm_cVv 1 (As := [.int v1, .int v2, .int s0]) (ok1_setSkill l hS (mm_wtT hS 2 1 h0 rfl) hk1) lk_X2_127 rfl d2_learnOn_72 (mm_room rfl rfl) rfl (mm_wtT hS 2 1 h0 rfl) rfl rfl ?_
  refine mm_aload_n d2_learnOn_75 rfl ?_
  refine mm_getR fl_X2_19 d2_learnOn_76 (mm_wtR hS 101 h0 rfl rfl) ?_
  refine mm_getR fl_X2_116 d2_learnOn_79 (mm_wtR hS 106 (mm_wtT hS 2 1 h0 rfl) rfl rfl) ?_
  refine mm_iload_n d2_learnOn_82 rfl ?_
  refine mm_iload_n d2_learnOn_83 rfl ?_
  obtain ⟨o2, hk2, h⟩ := mm_bd h
  refine mm_cVv 6 (As := [.int v1, .int v3]) (ok6_put l hS (mm_wtT hS 5 6 (mm_wtT hS 2 1 h0 rfl) rfl) hk2) lk_X2_85 rfl d2_learnOn_84 (mm_room rfl rfl) rfl (mm_wtT hS 5 6 (mm_wtT hS 2 1 h0 rfl) rfl) rfl rfl ?_
  refine mm_iload d2_learnOn_87 rfl ?_
  refine mm_bipush (v := 100) d2_learnOn_89 (by decide +kernel) ?_
  refine mm_icmp_ne (tgt := 106) d2_learnOn_91 (by decide) (fun hc3 => ?_) (fun hc3 => ?_)
  · rw [if_neg hc3] at h
    refine mm_sub [] trivial ?_
    exact ok2_learnOn_106 l hS   h
  · rw [if_pos hc3] at h
    refine mm_aload_n d2_learnOn_94 rfl ?_
    refine mm_getR fl_X2_19 d2_learnOn_95 (mm_wtR hS 101 h0 rfl rfl) ?_
    refine mm_getR fl_X2_93 d2_learnOn_98 (mm_wtR hS 106 (mm_wtT hS 2 1 h0 rfl) rfl rfl) ?_
    refine mm_iload_n d2_learnOn_101 rfl ?_
    refine mm_iconst (v := (-1)) d2_learnOn_102 (by decide +kernel) ?_
    obtain ⟨o4, hk4, h⟩ := mm_bd h
    refine mm_cVv 6 (As := [.int v1, .int (-1)]) (ok6_put l hS (mm_wtT hS 4 6 (mm_wtT hS 2 1 h0 rfl) rfl) hk4) lk_X2_85 rfl d2_learnOn_103 (mm_room rfl rfl) rfl (mm_wtT hS 4 6 (mm_wtT hS 2 1 h0 rfl) rfl) rfl rfl ?_
    refine mm_sub [] trivial ?_
    exact ok2_learnOn_106 l hS   h
set_option maxHeartbeats 4000000 in
set_option maxRecDepth 100000 in
theorem ok2_learnOn (l : Launch) {S : mm_Sh} (hS : mm_WT S)  {v0 : Nat} {v1 : Int32} {v2 : Int32} (h0 : mm_is S v0 2) {I : mm_I} {J : mm_J} {o : mm_I × mm_J} (h : f2_learnOn S v0 v1 v2 I J = some o) : mm_C l M2_learnOn S [.ref v0, .int v1, .int v2] I J (mm_Qv o.1 o.2) := by
  unfold f2_learnOn at h
  refine mm_enter rfl (by decide +kernel) rfl ?_
  refine mm_aload_n d2_learnOn_0 rfl ?_
  refine mm_getR fl_X2_19 d2_learnOn_1 (mm_wtR hS 101 h0 rfl rfl) ?_
  refine mm_getR fl_X2_116 d2_learnOn_4 (mm_wtR hS 106 (mm_wtT hS 2 1 h0 rfl) rfl rfl) ?_
  refine mm_iload_n d2_learnOn_7 rfl ?_
  obtain ⟨o1, hk1, h⟩ := mm_bd h
  refine mm_cVi 6 (As := [.int v1]) (ok6_at l hS (mm_wtT hS 5 6 (mm_wtT hS 2 1 h0 rfl) rfl) hk1) lk_X2_96 rfl d2_learnOn_8 (mm_room rfl rfl) rfl (mm_wtT hS 5 6 (mm_wtT hS 2 1 h0 rfl) rfl) rfl rfl ?_
  refine mm_iconst (v := 1) d2_learnOn_11 (by decide +kernel) ?_
  refine mm_iadd d2_learnOn_12 ?_
  refine mm_istore_n d2_learnOn_13 rfl rfl ?_
  refine mm_iconst (v := 1) d2_learnOn_14 (by decide +kernel) ?_
  refine mm_aload_n d2_learnOn_15 rfl ?_
  refine mm_getR fl_X2_9 d2_learnOn_16 (mm_wtR hS 100 h0 rfl rfl) ?_
  refine mm_getR fl_X2_192 d2_learnOn_19 (mm_wtR hS 106 (mm_wtT hS 0 0 h0 rfl) rfl rfl) ?_
  refine mm_iload_n d2_learnOn_22 rfl ?_
  obtain ⟨o2, hk2, h⟩ := mm_bd h
  refine mm_cVi 6 (As := [.int v2]) (ok6_at l hS (mm_wtT hS 1 6 (mm_wtT hS 0 0 h0 rfl) rfl) hk2) lk_X2_96 rfl d2_learnOn_23 (mm_room rfl rfl) rfl (mm_wtT hS 1 6 (mm_wtT hS 0 0 h0 rfl) rfl) rfl rfl ?_
  refine mm_mmax lm_X2_183 d2_learnOn_26 (mm_roomM rfl rfl) ?_
  refine mm_istore d2_learnOn_29 rfl rfl ?_
  refine mm_iload_n d2_learnOn_31 rfl ?_
  refine mm_iload d2_learnOn_32 rfl ?_
  refine mm_icmp_lt (tgt := 42) d2_learnOn_34 (by decide) (fun hc3 => ?_) (fun hc3 => ?_)
  · rw [if_pos hc3] at h
    refine mm_bipush (v := 100) d2_learnOn_42 (by decide +kernel) ?_
    refine mm_aload_n d2_learnOn_44 rfl ?_
    refine mm_getR fl_X2_19 d2_learnOn_45 (mm_wtR hS 101 h0 rfl rfl) ?_
    refine mm_iload_n d2_learnOn_48 rfl ?_
    refine mm_iload_n d2_learnOn_49 rfl ?_
    obtain ⟨o4, hk4, h⟩ := mm_bd h
    refine mm_cVi 1 (As := [.int v1, .int v2]) (ok1_skillOf l hS (mm_wtT hS 2 1 h0 rfl) hk4) lk_X2_119 rfl d2_learnOn_50 (mm_room rfl rfl) rfl (mm_wtT hS 2 1 h0 rfl) rfl rfl ?_
    refine mm_bipush (v := 100) d2_learnOn_53 (by decide +kernel) ?_
    refine mm_iload d2_learnOn_55 rfl ?_
    obtain ⟨hz5, h⟩ := mm_gz h
    refine mm_idiv d2_learnOn_57 hz5 ?_
    refine mm_iadd d2_learnOn_58 ?_
    refine mm_mmin lm_X2_122 d2_learnOn_59 (mm_roomM rfl rfl) ?_
    refine mm_sub [(0, .ref v0), (1, .int v1), (2, .int v2), (3, .int (o1 + 1))] ⟨rfl, rfl, rfl, rfl, trivial⟩ ?_
    exact ok2_learnOn_62 l hS  h0 h
  · rw [if_neg hc3] at h
    refine mm_bipush (v := 100) d2_learnOn_37 (by decide +kernel) ?_
    refine mm_goto (tgt := 62) d2_learnOn_39 (by decide) ?_
    refine mm_sub [(0, .ref v0), (1, .int v1), (2, .int v2), (3, .int (o1 + 1))] ⟨rfl, rfl, rfl, rfl, trivial⟩ ?_
    exact ok2_learnOn_62 l hS  h0 h
set_option maxHeartbeats 4000000 in
set_option maxRecDepth 100000 in
theorem ok2_leastLiked_55 (l : Launch) {S : mm_Sh} (hS : mm_WT S) {n : Nat}  {rec4 : Nat → Int32 → Int32 → Int32 → mm_I → mm_J → Option (Int32)} (hrec4 : ∀ {v0 : Nat} {v1 : Int32} {v2 : Int32} {v3 : Int32} (_ : mm_is S v0 2) {I : mm_I} {J : mm_J} {o : Int32}, rec4 v0 v1 v2 v3 I J = some o → mm_W l M2_leastLiked (mm_rm (mm_rk M2_leastLiked)) 0 0 S (mm_end S (mm_Qi o I J)) 4 [(0, .ref v0), (1, .int v1), (2, .int v2), (3, .int v3)] [] I J) {v0 : Nat} {v1 : Int32} {v2 : Int32} {v3 : Int32} (h0 : mm_is S v0 2) {I : mm_I} {J : mm_J} {o : Int32} (h : f2_leastLiked_55 S n rec4 v0 v1 v2 v3 I J = some o) : mm_W l M2_leastLiked (mm_rm (mm_rk M2_leastLiked)) 0 0 S (mm_end S (mm_Qi o I J)) 55 [(0, .ref v0), (1, .int v1), (2, .int v2), (3, .int v3)] [] I J := by
  unfold f2_leastLiked_55 at h
  refine mm_iinc (v := v3 + 1) d2_leastLiked_55 rfl rfl rfl rfl ?_
  refine mm_goto (tgt := 4) d2_leastLiked_58 (by decide) ?_
  refine mm_sub [(0, .ref v0), (1, .int v1), (2, .int v2), (3, .int (v3 + 1))] ⟨rfl, rfl, rfl, rfl, trivial⟩ ?_
  exact hrec4 h0 h
set_option maxHeartbeats 4000000 in
set_option maxRecDepth 100000 in
theorem ok2_leastLiked_53 (l : Launch) {S : mm_Sh} (hS : mm_WT S) {n : Nat}  {rec4 : Nat → Int32 → Int32 → Int32 → mm_I → mm_J → Option (Int32)} (hrec4 : ∀ {v0 : Nat} {v1 : Int32} {v2 : Int32} {v3 : Int32} (_ : mm_is S v0 2) {I : mm_I} {J : mm_J} {o : Int32}, rec4 v0 v1 v2 v3 I J = some o → mm_W l M2_leastLiked (mm_rm (mm_rk M2_leastLiked)) 0 0 S (mm_end S (mm_Qi o I J)) 4 [(0, .ref v0), (1, .int v1), (2, .int v2), (3, .int v3)] [] I J) {v0 : Nat} {v1 : Int32} {v3 : Int32} (h0 : mm_is S v0 2) {I : mm_I} {J : mm_J} {o : Int32} (h : f2_leastLiked_53 S n rec4 v0 v1 v3 I J = some o) : mm_W l M2_leastLiked (mm_rm (mm_rk M2_leastLiked)) 0 0 S (mm_end S (mm_Qi o I J)) 53 [(0, .ref v0), (1, .int v1), (3, .int v3)] [] I J := by
  unfold f2_leastLiked_53 at h
  refine mm_iload_n d2_leastLiked_53 rfl ?_
  refine mm_istore_n d2_leastLiked_54 rfl rfl ?_
  refine mm_sub [(0, .ref v0), (1, .int v1), (2, .int v3), (3, .int v3)] ⟨rfl, rfl, rfl, rfl, trivial⟩ ?_
  exact ok2_leastLiked_55 l hS hrec4 h0 h
set_option maxHeartbeats 4000000 in
set_option maxRecDepth 100000 in
theorem ok2_leastLiked_4_b (l : Launch) {S : mm_Sh} (hS : mm_WT S) {n : Nat}  {rec4 : Nat → Int32 → Int32 → Int32 → mm_I → mm_J → Option (Int32)} (hrec4 : ∀ {v0 : Nat} {v1 : Int32} {v2 : Int32} {v3 : Int32} (_ : mm_is S v0 2) {I : mm_I} {J : mm_J} {o : Int32}, rec4 v0 v1 v2 v3 I J = some o → mm_W l M2_leastLiked (mm_rm (mm_rk M2_leastLiked)) 0 0 S (mm_end S (mm_Qi o I J)) 4 [(0, .ref v0), (1, .int v1), (2, .int v2), (3, .int v3)] [] I J) {v0 : Nat} {v1 : Int32} {v2 : Int32} {v3 : Int32} (h0 : mm_is S v0 2) {I : mm_I} {J : mm_J} {o : Int32} (h : f2_leastLiked_4_b S n rec4 v0 v1 v2 v3 I J = some o) : mm_W l M2_leastLiked (mm_rm (mm_rk M2_leastLiked)) 0 0 S (mm_end S (mm_Qi o I J)) 4 [(0, .ref v0), (1, .int v1), (2, .int v2), (3, .int v3)] [] I J := by
  unfold f2_leastLiked_4_b at h
  refine mm_iload_n d2_leastLiked_4 rfl ?_
  refine mm_aload_n d2_leastLiked_5 rfl ?_
  refine mm_getR fl_X2_9 d2_leastLiked_6 (mm_wtR hS 100 h0 rfl rfl) ?_
  refine mm_getI fl_X2_23 d2_leastLiked_9 (mm_wtI hS (mm_wtT hS 0 0 h0 rfl) rfl) ?_
  refine mm_icmp_ge (tgt := 61) d2_leastLiked_12 (by decide) (fun hc1 => ?_) (fun hc1 => ?_)
  · rw [if_pos hc1] at h
    refine mm_iload_n d2_leastLiked_61 rfl ?_
    have h := Option.some.inj h
    subst h
    exact mm_iret rfl d2_leastLiked_62 ⟨rfl, rfl, rfl⟩
  · rw [if_neg hc1] at h
    refine mm_aload_n d2_leastLiked_15 rfl ?_
    refine mm_getR fl_X2_19 d2_leastLiked_16 (mm_wtR hS 101 h0 rfl rfl) ?_
    refine mm_iload_n d2_leastLiked_19 rfl ?_
    refine mm_iload_n d2_leastLiked_20 rfl ?_
    obtain ⟨o2, hk2, h⟩ := mm_bd h
    refine mm_cVi 1 (As := [.int v1, .int v3]) (ok1_knows l hS (mm_wtT hS 2 1 h0 rfl) hk2) lk_X2_49 rfl d2_leastLiked_21 (mm_room rfl rfl) rfl (mm_wtT hS 2 1 h0 rfl) rfl rfl ?_
    refine mm_if_eq (tgt := 55) d2_leastLiked_24 (by decide) (fun hc3 => ?_) (fun hc3 => ?_)
    · rw [if_pos hc3] at h
      refine mm_sub [(0, .ref v0), (1, .int v1), (2, .int v2), (3, .int v3)] ⟨rfl, rfl, rfl, rfl, trivial⟩ ?_
      exact ok2_leastLiked_55 l hS hrec4 h0 h
    · rw [if_neg hc3] at h
      refine mm_iload_n d2_leastLiked_27 rfl ?_
      refine mm_iconst (v := (-1)) d2_leastLiked_28 (by decide +kernel) ?_
      refine mm_icmp_eq (tgt := 53) d2_leastLiked_29 (by decide) (fun hc4 => ?_) (fun hc4 => ?_)
      · rw [if_pos hc4] at h
        refine mm_sub [(0, .ref v0), (1, .int v1), (3, .int v3)] ⟨rfl, rfl, rfl, trivial⟩ ?_
        exact ok2_leastLiked_53 l hS hrec4 h0 h
      · rw [if_neg hc4] at h
        refine mm_aload_n d2_leastLiked_32 rfl ?_
        refine mm_getR fl_X2_9 d2_leastLiked_33 (mm_wtR hS 100 h0 rfl rfl) ?_
        refine mm_iload_n d2_leastLiked_36 rfl ?_
        refine mm_iload_n d2_leastLiked_37 rfl ?_
        obtain ⟨o5, hk5, h⟩ := mm_bd h
        refine mm_cVi 0 (As := [.int v1, .int v3]) (ok0_likeOf l hS (mm_wtT hS 0 0 h0 rfl) hk5) lk_X2_53 rfl d2_leastLiked_38 (mm_room rfl rfl) rfl (mm_wtT hS 0 0 h0 rfl) rfl rfl ?_
        refine mm_aload_n d2_leastLiked_41 rfl ?_
        refine mm_getR fl_X2_9 d2_leastLiked_42 (mm_wtR hS 100 h0 rfl rfl) ?_
        refine mm_iload_n d2_leastLiked_45 rfl ?_
        refine mm_iload_n d2_leastLiked_46 rfl ?_
        obtain ⟨o6, hk6, h⟩ := mm_bd h
        refine mm_cVi 0 (As := [.int v1, .int v2]) (ok0_likeOf l hS (mm_wtT hS 0 0 h0 rfl) hk6) lk_X2_53 rfl d2_leastLiked_47 (mm_room rfl rfl) rfl (mm_wtT hS 0 0 h0 rfl) rfl rfl ?_
        refine mm_icmp_ge (tgt := 55) d2_leastLiked_50 (by decide) (fun hc7 => ?_) (fun hc7 => ?_)
        · rw [if_pos hc7] at h
          refine mm_sub [(0, .ref v0), (1, .int v1), (2, .int v2), (3, .int v3)] ⟨rfl, rfl, rfl, rfl, trivial⟩ ?_
          exact ok2_leastLiked_55 l hS hrec4 h0 h
        · rw [if_neg hc7] at h
          refine mm_sub [(0, .ref v0), (1, .int v1), (3, .int v3)] ⟨rfl, rfl, rfl, trivial⟩ ?_
          exact ok2_leastLiked_53 l hS hrec4 h0 h
set_option maxHeartbeats 4000000 in
set_option maxRecDepth 100000 in
theorem ok2_leastLiked_4 (l : Launch) {S : mm_Sh} (hS : mm_WT S) {n : Nat}  : ∀ (k : Nat) {v0 : Nat} {v1 : Int32} {v2 : Int32} {v3 : Int32} (h0 : mm_is S v0 2) {I : mm_I} {J : mm_J} {o : Int32}, f2_leastLiked_4 S n k v0 v1 v2 v3 I J = some o → mm_W l M2_leastLiked (mm_rm (mm_rk M2_leastLiked)) 0 0 S (mm_end S (mm_Qi o I J)) 4 [(0, .ref v0), (1, .int v1), (2, .int v2), (3, .int v3)] [] I J := by
  intro k
  induction k with
  | zero =>
    intros
    rename_i h
    cases h
  | succ k ih =>
    intro v0 v1 v2 v3 h0 I J o h
    exact ok2_leastLiked_4_b l hS (fun {v0 v1 v2 v3} h0 {I J o} h => ih h0 h) h0 h
set_option maxHeartbeats 4000000 in
set_option maxRecDepth 100000 in
theorem ok2_leastLiked (l : Launch) {S : mm_Sh} (hS : mm_WT S) {n : Nat}  {v0 : Nat} {v1 : Int32} (h0 : mm_is S v0 2) {I : mm_I} {J : mm_J} {o : Int32} (h : f2_leastLiked S n v0 v1 I J = some o) : mm_C l M2_leastLiked S [.ref v0, .int v1] I J (mm_Qi o I J) := by
  unfold f2_leastLiked at h
  refine mm_enter rfl (by decide +kernel) rfl ?_
  refine mm_iconst (v := (-1)) d2_leastLiked_0 (by decide +kernel) ?_
  refine mm_istore_n d2_leastLiked_1 rfl rfl ?_
  refine mm_iconst (v := 0) d2_leastLiked_2 (by decide +kernel) ?_
  refine mm_istore_n d2_leastLiked_3 rfl rfl ?_
  refine mm_sub [(0, .ref v0), (1, .int v1), (2, .int (-1)), (3, .int 0)] ⟨rfl, rfl, rfl, rfl, trivial⟩ ?_
  exact ok2_leastLiked_4 l hS  n h0 h
set_option maxHeartbeats 4000000 in
set_option maxRecDepth 100000 in
theorem ok2_mayGiveUp_47 (l : Launch) {S : mm_Sh} (hS : mm_WT S)  {s0 : Int32}  {I : mm_I} {J : mm_J} {o : Int32} (h : f2_mayGiveUp_47 S s0 I J = some o) : mm_W l M2_mayGiveUp (mm_rm (mm_rk M2_mayGiveUp)) 0 0 S (mm_end S (mm_Qi o I J)) 47 [] [.int s0] I J := by
  unfold f2_mayGiveUp_47 at h
  obtain ⟨hb1, h⟩ := mm_gd h
  have h := Option.some.inj h
  subst h
  exact mm_zret rfl d2_mayGiveUp_47 (mm_bit_ok hb1) ⟨rfl, rfl, rfl⟩
set_option maxHeartbeats 4000000 in
set_option maxRecDepth 100000 in
theorem ok2_mayGiveUp_46 (l : Launch) {S : mm_Sh} (hS : mm_WT S)    {I : mm_I} {J : mm_J} {o : Int32} (h : f2_mayGiveUp_46 S  I J = some o) : mm_W l M2_mayGiveUp (mm_rm (mm_rk M2_mayGiveUp)) 0 0 S (mm_end S (mm_Qi o I J)) 46 [] [] I J := by
  unfold f2_mayGiveUp_46 at h
  refine mm_iconst (v := 0) d2_mayGiveUp_46 (by decide +kernel) ?_
  refine mm_sub [] trivial ?_
  exact ok2_mayGiveUp_47 l hS   h
set_option maxHeartbeats 4000000 in
set_option maxRecDepth 100000 in
theorem ok2_mayGiveUp (l : Launch) {S : mm_Sh} (hS : mm_WT S)  {v0 : Nat} {v1 : Int32} {v2 : Int32} {v3 : Int32} (h0 : mm_is S v0 2) {I : mm_I} {J : mm_J} {o : Int32} (h : f2_mayGiveUp S v0 v1 v2 v3 I J = some o) : mm_C l M2_mayGiveUp S [.ref v0, .int v1, .int v2, .int v3] I J (mm_Qi o I J) := by
  unfold f2_mayGiveUp at h
  refine mm_enter rfl (by decide +kernel) rfl ?_
  refine mm_aload_n d2_mayGiveUp_0 rfl ?_
  refine mm_getR fl_X2_19 d2_mayGiveUp_1 (mm_wtR hS 101 h0 rfl rfl) ?_
  refine mm_iload_n d2_mayGiveUp_4 rfl ?_
  refine mm_iload_n d2_mayGiveUp_5 rfl ?_
  obtain ⟨o1, hk1, h⟩ := mm_bd h
  refine mm_cVi 1 (As := [.int v1, .int v3]) (ok1_knows l hS (mm_wtT hS 2 1 h0 rfl) hk1) lk_X2_49 rfl d2_mayGiveUp_6 (mm_room rfl rfl) rfl (mm_wtT hS 2 1 h0 rfl) rfl rfl ?_
  refine mm_if_eq (tgt := 46) d2_mayGiveUp_9 (by decide) (fun hc2 => ?_) (fun hc2 => ?_)
  · rw [if_pos hc2] at h
    refine mm_sub [] trivial ?_
    exact ok2_mayGiveUp_46 l hS   h
  · rw [if_neg hc2] at h
    refine mm_aload_n d2_mayGiveUp_12 rfl ?_
    refine mm_getR fl_X2_19 d2_mayGiveUp_13 (mm_wtR hS 101 h0 rfl rfl) ?_
    refine mm_getR fl_X2_81 d2_mayGiveUp_16 (mm_wtR hS 106 (mm_wtT hS 2 1 h0 rfl) rfl rfl) ?_
    refine mm_iload_n d2_mayGiveUp_19 rfl ?_
    obtain ⟨o3, hk3, h⟩ := mm_bd h
    refine mm_cVi 6 (As := [.int v1]) (ok6_at l hS (mm_wtT hS 6 6 (mm_wtT hS 2 1 h0 rfl) rfl) hk3) lk_X2_96 rfl d2_mayGiveUp_20 (mm_room rfl rfl) rfl (mm_wtT hS 6 6 (mm_wtT hS 2 1 h0 rfl) rfl) rfl rfl ?_
    refine mm_iconst (v := (-1)) d2_mayGiveUp_23 (by decide +kernel) ?_
    refine mm_icmp_ne (tgt := 46) d2_mayGiveUp_24 (by decide) (fun hc4 => ?_) (fun hc4 => ?_)
    · rw [if_neg hc4] at h
      refine mm_sub [] trivial ?_
      exact ok2_mayGiveUp_46 l hS   h
    · rw [if_pos hc4] at h
      refine mm_aload_n d2_mayGiveUp_27 rfl ?_
      refine mm_getR fl_X2_9 d2_mayGiveUp_28 (mm_wtR hS 100 h0 rfl rfl) ?_
      refine mm_getR fl_X2_102 d2_mayGiveUp_31 (mm_wtR hS 106 (mm_wtT hS 0 0 h0 rfl) rfl rfl) ?_
      refine mm_iload_n d2_mayGiveUp_34 rfl ?_
      obtain ⟨o5, hk5, h⟩ := mm_bd h
      refine mm_cVi 6 (As := [.int v2]) (ok6_at l hS (mm_wtT hS 3 6 (mm_wtT hS 0 0 h0 rfl) rfl) hk5) lk_X2_96 rfl d2_mayGiveUp_35 (mm_room rfl rfl) rfl (mm_wtT hS 3 6 (mm_wtT hS 0 0 h0 rfl) rfl) rfl rfl ?_
      refine mm_iload_n d2_mayGiveUp_38 rfl ?_
      refine mm_icmp_eq (tgt := 46) d2_mayGiveUp_39 (by decide) (fun hc6 => ?_) (fun hc6 => ?_)
      · rw [if_pos hc6] at h
        refine mm_sub [] trivial ?_
        exact ok2_mayGiveUp_46 l hS   h
      · rw [if_neg hc6] at h
        refine mm_iconst (v := 1) d2_mayGiveUp_42 (by decide +kernel) ?_
        refine mm_goto (tgt := 47) d2_mayGiveUp_43 (by decide) ?_
        refine mm_sub [] trivial ?_
        exact ok2_mayGiveUp_47 l hS   h
set_option maxHeartbeats 4000000 in
set_option maxRecDepth 100000 in
theorem ok2_mayLearn_49 (l : Launch) {S : mm_Sh} (hS : mm_WT S)    {I : mm_I} {J : mm_J} {o : Int32} (h : f2_mayLearn_49 S  I J = some o) : mm_W l M2_mayLearn (mm_rm (mm_rk M2_mayLearn)) 0 0 S (mm_end S (mm_Qi o I J)) 49 [] [] I J := by
  unfold f2_mayLearn_49 at h
  refine mm_iconst (v := 0) d2_mayLearn_49 (by decide +kernel) ?_
  have h := Option.some.inj h
  subst h
  exact mm_zret rfl d2_mayLearn_50 (by decide) ⟨rfl, rfl, rfl⟩
set_option maxHeartbeats 4000000 in
set_option maxRecDepth 100000 in
theorem ok2_mayLearn_85 (l : Launch) {S : mm_Sh} (hS : mm_WT S)  {s0 : Int32}  {I : mm_I} {J : mm_J} {o : Int32} (h : f2_mayLearn_85 S s0 I J = some o) : mm_W l M2_mayLearn (mm_rm (mm_rk M2_mayLearn)) 0 0 S (mm_end S (mm_Qi o I J)) 85 [] [.int s0] I J := by
  unfold f2_mayLearn_85 at h
  obtain ⟨hb1, h⟩ := mm_gd h
  have h := Option.some.inj h
  subst h
  exact mm_zret rfl d2_mayLearn_85 (mm_bit_ok hb1) ⟨rfl, rfl, rfl⟩
set_option maxHeartbeats 4000000 in
set_option maxRecDepth 100000 in
theorem ok2_mayLearn_80 (l : Launch) {S : mm_Sh} (hS : mm_WT S)    {I : mm_I} {J : mm_J} {o : Int32} (h : f2_mayLearn_80 S  I J = some o) : mm_W l M2_mayLearn (mm_rm (mm_rk M2_mayLearn)) 0 0 S (mm_end S (mm_Qi o I J)) 80 [] [] I J := by
  unfold f2_mayLearn_80 at h
  refine mm_iconst (v := 1) d2_mayLearn_80 (by decide +kernel) ?_
  refine mm_goto (tgt := 85) d2_mayLearn_81 (by decide) ?_
  refine mm_sub [] trivial ?_
  exact ok2_mayLearn_85 l hS   h
set_option maxHeartbeats 4000000 in
set_option maxRecDepth 100000 in
theorem ok2_mayLearn (l : Launch) {S : mm_Sh} (hS : mm_WT S)  {v0 : Nat} {v1 : Int32} {v2 : Int32} (h0 : mm_is S v0 2) {I : mm_I} {J : mm_J} {o : Int32} (h : f2_mayLearn S v0 v1 v2 I J = some o) : mm_C l M2_mayLearn S [.ref v0, .int v1, .int v2] I J (mm_Qi o I J) := by
  unfold f2_mayLearn at h
  refine mm_enter rfl (by decide +kernel) rfl ?_
  refine mm_aload_n d2_mayLearn_0 rfl ?_
  refine mm_getR fl_X2_19 d2_mayLearn_1 (mm_wtR hS 101 h0 rfl rfl) ?_
  refine mm_iload_n d2_mayLearn_4 rfl ?_
  obtain ⟨o1, hk1, h⟩ := mm_bd h
  refine mm_cVi 1 (As := [.int v1]) (ok1_lives l hS (mm_wtT hS 2 1 h0 rfl) hk1) lk_X2_90 rfl d2_mayLearn_5 (mm_room rfl rfl) rfl (mm_wtT hS 2 1 h0 rfl) rfl rfl ?_
  refine mm_if_eq (tgt := 49) d2_mayLearn_8 (by decide) (fun hc2 => ?_) (fun hc2 => ?_)
  · rw [if_pos hc2] at h
    refine mm_sub [] trivial ?_
    exact ok2_mayLearn_49 l hS   h
  · rw [if_neg hc2] at h
    refine mm_aload_n d2_mayLearn_11 rfl ?_
    refine mm_getR fl_X2_19 d2_mayLearn_12 (mm_wtR hS 101 h0 rfl rfl) ?_
    refine mm_getR fl_X2_93 d2_mayLearn_15 (mm_wtR hS 106 (mm_wtT hS 2 1 h0 rfl) rfl rfl) ?_
    refine mm_iload_n d2_mayLearn_18 rfl ?_
    obtain ⟨o3, hk3, h⟩ := mm_bd h
    refine mm_cVi 6 (As := [.int v1]) (ok6_at l hS (mm_wtT hS 4 6 (mm_wtT hS 2 1 h0 rfl) rfl) hk3) lk_X2_96 rfl d2_mayLearn_19 (mm_room rfl rfl) rfl (mm_wtT hS 4 6 (mm_wtT hS 2 1 h0 rfl) rfl) rfl rfl ?_
    refine mm_iconst (v := (-1)) d2_mayLearn_22 (by decide +kernel) ?_
    refine mm_icmp_ne (tgt := 49) d2_mayLearn_23 (by decide) (fun hc4 => ?_) (fun hc4 => ?_)
    · rw [if_neg hc4] at h
      refine mm_sub [] trivial ?_
      exact ok2_mayLearn_49 l hS   h
    · rw [if_pos hc4] at h
      refine mm_aload_n d2_mayLearn_26 rfl ?_
      refine mm_getR fl_X2_19 d2_mayLearn_27 (mm_wtR hS 101 h0 rfl rfl) ?_
      refine mm_iload_n d2_mayLearn_30 rfl ?_
      refine mm_iload_n d2_mayLearn_31 rfl ?_
      obtain ⟨o5, hk5, h⟩ := mm_bd h
      refine mm_cVi 1 (As := [.int v1, .int v2]) (ok1_knows l hS (mm_wtT hS 2 1 h0 rfl) hk5) lk_X2_49 rfl d2_mayLearn_32 (mm_room rfl rfl) rfl (mm_wtT hS 2 1 h0 rfl) rfl rfl ?_
      refine mm_if_ne (tgt := 49) d2_mayLearn_35 (by decide) (fun hc6 => ?_) (fun hc6 => ?_)
      · rw [if_neg hc6] at h
        refine mm_sub [] trivial ?_
        exact ok2_mayLearn_49 l hS   h
      · rw [if_pos hc6] at h
        refine mm_aload_n d2_mayLearn_38 rfl ?_
        refine mm_getR fl_X2_9 d2_mayLearn_39 (mm_wtR hS 100 h0 rfl rfl) ?_
        refine mm_iload_n d2_mayLearn_42 rfl ?_
        obtain ⟨o7, hk7, h⟩ := mm_bd h
        refine mm_cVi 0 (As := [.int v2]) (ok0_isForbidden l hS (mm_wtT hS 0 0 h0 rfl) hk7) lk_X2_99 rfl d2_mayLearn_43 (mm_room rfl rfl) rfl (mm_wtT hS 0 0 h0 rfl) rfl rfl ?_
        refine mm_if_eq (tgt := 51) d2_mayLearn_46 (by decide) (fun hc8 => ?_) (fun hc8 => ?_)
        · rw [if_pos hc8] at h
          refine mm_aload_n d2_mayLearn_51 rfl ?_
          refine mm_getR fl_X2_9 d2_mayLearn_52 (mm_wtR hS 100 h0 rfl rfl) ?_
          refine mm_getR fl_X2_102 d2_mayLearn_55 (mm_wtR hS 106 (mm_wtT hS 0 0 h0 rfl) rfl rfl) ?_
          refine mm_iload_n d2_mayLearn_58 rfl ?_
          obtain ⟨o9, hk9, h⟩ := mm_bd h
          refine mm_cVi 6 (As := [.int v2]) (ok6_at l hS (mm_wtT hS 3 6 (mm_wtT hS 0 0 h0 rfl) rfl) hk9) lk_X2_96 rfl d2_mayLearn_59 (mm_room rfl rfl) rfl (mm_wtT hS 3 6 (mm_wtT hS 0 0 h0 rfl) rfl) rfl rfl ?_
          refine mm_istore_n d2_mayLearn_62 rfl rfl ?_
          refine mm_iload_n d2_mayLearn_63 rfl ?_
          refine mm_iconst (v := (-1)) d2_mayLearn_64 (by decide +kernel) ?_
          refine mm_icmp_eq (tgt := 80) d2_mayLearn_65 (by decide) (fun hc10 => ?_) (fun hc10 => ?_)
          · rw [if_pos hc10] at h
            refine mm_sub [] trivial ?_
            exact ok2_mayLearn_80 l hS   h
          · rw [if_neg hc10] at h
            refine mm_aload_n d2_mayLearn_68 rfl ?_
            refine mm_getR fl_X2_19 d2_mayLearn_69 (mm_wtR hS 101 h0 rfl rfl) ?_
            refine mm_iload_n d2_mayLearn_72 rfl ?_
            refine mm_iload_n d2_mayLearn_73 rfl ?_
            obtain ⟨o11, hk11, h⟩ := mm_bd h
            refine mm_cVi 1 (As := [.int v1, .int o9]) (ok1_knows l hS (mm_wtT hS 2 1 h0 rfl) hk11) lk_X2_49 rfl d2_mayLearn_74 (mm_room rfl rfl) rfl (mm_wtT hS 2 1 h0 rfl) rfl rfl ?_
            refine mm_if_eq (tgt := 84) d2_mayLearn_77 (by decide) (fun hc12 => ?_) (fun hc12 => ?_)
            · rw [if_pos hc12] at h
              refine mm_iconst (v := 0) d2_mayLearn_84 (by decide +kernel) ?_
              refine mm_sub [] trivial ?_
              exact ok2_mayLearn_85 l hS   h
            · rw [if_neg hc12] at h
              refine mm_sub [] trivial ?_
              exact ok2_mayLearn_80 l hS   h
        · rw [if_neg hc8] at h
          refine mm_sub [] trivial ?_
          exact ok2_mayLearn_49 l hS   h
set_option maxHeartbeats 4000000 in
set_option maxRecDepth 100000 in
theorem ok2_mayLend_42 (l : Launch) {S : mm_Sh} (hS : mm_WT S)  {s0 : Int32}  {I : mm_I} {J : mm_J} {o : Int32} (h : f2_mayLend_42 S s0 I J = some o) : mm_W l M2_mayLend (mm_rm (mm_rk M2_mayLend)) 0 0 S (mm_end S (mm_Qi o I J)) 42 [] [.int s0] I J := by
  unfold f2_mayLend_42 at h
  obtain ⟨hb1, h⟩ := mm_gd h
  have h := Option.some.inj h
  subst h
  exact mm_zret rfl d2_mayLend_42 (mm_bit_ok hb1) ⟨rfl, rfl, rfl⟩
set_option maxHeartbeats 4000000 in
set_option maxRecDepth 100000 in
theorem ok2_mayLend_41 (l : Launch) {S : mm_Sh} (hS : mm_WT S)    {I : mm_I} {J : mm_J} {o : Int32} (h : f2_mayLend_41 S  I J = some o) : mm_W l M2_mayLend (mm_rm (mm_rk M2_mayLend)) 0 0 S (mm_end S (mm_Qi o I J)) 41 [] [] I J := by
  unfold f2_mayLend_41 at h
  refine mm_iconst (v := 0) d2_mayLend_41 (by decide +kernel) ?_
  refine mm_sub [] trivial ?_
  exact ok2_mayLend_42 l hS   h
set_option maxHeartbeats 4000000 in
set_option maxRecDepth 100000 in
theorem ok2_mayLend (l : Launch) {S : mm_Sh} (hS : mm_WT S)  {v0 : Nat} {v1 : Int32} {v2 : Int32} (h0 : mm_is S v0 2) {I : mm_I} {J : mm_J} {o : Int32} (h : f2_mayLend S v0 v1 v2 I J = some o) : mm_C l M2_mayLend S [.ref v0, .int v1, .int v2] I J (mm_Qi o I J) := by
  unfold f2_mayLend at h
  refine mm_enter rfl (by decide +kernel) rfl ?_
  refine mm_aload_n d2_mayLend_0 rfl ?_
  refine mm_getR fl_X2_15 d2_mayLend_1 (mm_wtR hS 107 h0 rfl rfl) ?_
  refine mm_getI fl_X2_105 d2_mayLend_4 (mm_wtI hS (mm_wtT hS 1 7 h0 rfl) rfl) ?_
  refine mm_if_eq (tgt := 41) d2_mayLend_7 (by decide) (fun hc1 => ?_) (fun hc1 => ?_)
  · rw [if_pos hc1] at h
    refine mm_sub [] trivial ?_
    exact ok2_mayLend_41 l hS   h
  · rw [if_neg hc1] at h
    refine mm_aload_n d2_mayLend_10 rfl ?_
    refine mm_getR fl_X2_19 d2_mayLend_11 (mm_wtR hS 101 h0 rfl rfl) ?_
    refine mm_iload_n d2_mayLend_14 rfl ?_
    refine mm_iload_n d2_mayLend_15 rfl ?_
    obtain ⟨o2, hk2, h⟩ := mm_bd h
    refine mm_cVi 1 (As := [.int v1, .int v2]) (ok1_knows l hS (mm_wtT hS 2 1 h0 rfl) hk2) lk_X2_49 rfl d2_mayLend_16 (mm_room rfl rfl) rfl (mm_wtT hS 2 1 h0 rfl) rfl rfl ?_
    refine mm_if_eq (tgt := 41) d2_mayLend_19 (by decide) (fun hc3 => ?_) (fun hc3 => ?_)
    · rw [if_pos hc3] at h
      refine mm_sub [] trivial ?_
      exact ok2_mayLend_41 l hS   h
    · rw [if_neg hc3] at h
      refine mm_aload_n d2_mayLend_22 rfl ?_
      refine mm_getR fl_X2_19 d2_mayLend_23 (mm_wtR hS 101 h0 rfl rfl) ?_
      refine mm_getR fl_X2_81 d2_mayLend_26 (mm_wtR hS 106 (mm_wtT hS 2 1 h0 rfl) rfl rfl) ?_
      refine mm_iload_n d2_mayLend_29 rfl ?_
      obtain ⟨o4, hk4, h⟩ := mm_bd h
      refine mm_cVi 6 (As := [.int v1]) (ok6_at l hS (mm_wtT hS 6 6 (mm_wtT hS 2 1 h0 rfl) rfl) hk4) lk_X2_96 rfl d2_mayLend_30 (mm_room rfl rfl) rfl (mm_wtT hS 6 6 (mm_wtT hS 2 1 h0 rfl) rfl) rfl rfl ?_
      refine mm_iconst (v := (-1)) d2_mayLend_33 (by decide +kernel) ?_
      refine mm_icmp_ne (tgt := 41) d2_mayLend_34 (by decide) (fun hc5 => ?_) (fun hc5 => ?_)
      · rw [if_neg hc5] at h
        refine mm_sub [] trivial ?_
        exact ok2_mayLend_41 l hS   h
      · rw [if_pos hc5] at h
        refine mm_iconst (v := 1) d2_mayLend_37 (by decide +kernel) ?_
        refine mm_goto (tgt := 42) d2_mayLend_38 (by decide) ?_
        refine mm_sub [] trivial ?_
        exact ok2_mayLend_42 l hS   h
set_option maxHeartbeats 4000000 in
set_option maxRecDepth 100000 in
theorem ok2_witnessesFor_108 (l : Launch) {S : mm_Sh} (hS : mm_WT S) {n : Nat}  {rec14 : Nat → Int32 → Int32 → Int32 → Int32 → Int32 → mm_I → mm_J → Option (Int32)} (hrec14 : ∀ {v0 : Nat} {v1 : Int32} {v2 : Int32} {v3 : Int32} {v4 : Int32} {v5 : Int32} (_ : mm_is S v0 2) {I : mm_I} {J : mm_J} {o : Int32}, rec14 v0 v1 v2 v3 v4 v5 I J = some o → mm_W l M2_witnessesFor (mm_rm (mm_rk M2_witnessesFor)) 0 0 S (mm_end S (mm_Qi o I J)) 14 [(0, .ref v0), (1, .int v1), (2, .int v2), (3, .int v3), (4, .int v4), (5, .int v5)] [] I J) {v0 : Nat} {v1 : Int32} {v2 : Int32} {v3 : Int32} {v4 : Int32} {v5 : Int32} (h0 : mm_is S v0 2) {I : mm_I} {J : mm_J} {o : Int32} (h : f2_witnessesFor_108 S n rec14 v0 v1 v2 v3 v4 v5 I J = some o) : mm_W l M2_witnessesFor (mm_rm (mm_rk M2_witnessesFor)) 0 0 S (mm_end S (mm_Qi o I J)) 108 [(0, .ref v0), (1, .int v1), (2, .int v2), (3, .int v3), (4, .int v4), (5, .int v5)] [] I J := by
  unfold f2_witnessesFor_108 at h
  refine mm_iinc (v := v5 + 1) d2_witnessesFor_108 rfl rfl rfl rfl ?_
  refine mm_goto (tgt := 14) d2_witnessesFor_111 (by decide) ?_
  refine mm_sub [(0, .ref v0), (1, .int v1), (2, .int v2), (3, .int v3), (4, .int v4), (5, .int (v5 + 1))] ⟨rfl, rfl, rfl, rfl, rfl, rfl, trivial⟩ ?_
  exact hrec14 h0 h
set_option maxHeartbeats 4000000 in
set_option maxRecDepth 100000 in
theorem ok2_witnessesFor_79 (l : Launch) {S : mm_Sh} (hS : mm_WT S) {n : Nat}  {rec14 : Nat → Int32 → Int32 → Int32 → Int32 → Int32 → mm_I → mm_J → Option (Int32)} (hrec14 : ∀ {v0 : Nat} {v1 : Int32} {v2 : Int32} {v3 : Int32} {v4 : Int32} {v5 : Int32} (_ : mm_is S v0 2) {I : mm_I} {J : mm_J} {o : Int32}, rec14 v0 v1 v2 v3 v4 v5 I J = some o → mm_W l M2_witnessesFor (mm_rm (mm_rk M2_witnessesFor)) 0 0 S (mm_end S (mm_Qi o I J)) 14 [(0, .ref v0), (1, .int v1), (2, .int v2), (3, .int v3), (4, .int v4), (5, .int v5)] [] I J) {v0 : Nat} {v1 : Int32} {v2 : Int32} {v3 : Int32} {v4 : Int32} {v5 : Int32} {s0 : Int32} (h0 : mm_is S v0 2) {I : mm_I} {J : mm_J} {o : Int32} (h : f2_witnessesFor_79 S n rec14 v0 v1 v2 v3 v4 v5 s0 I J = some o) : mm_W l M2_witnessesFor (mm_rm (mm_rk M2_witnessesFor)) 0 0 S (mm_end S (mm_Qi o I J)) 79 [(0, .ref v0), (1, .int v1), (2, .int v2), (3, .int v3), (4, .int v4), (5, .int v5)] [.int s0] I J := by
  unfold f2_witnessesFor_79 at h
  refine mm_istore d2_witnessesFor_79 rfl rfl ?_
  refine mm_iload d2_witnessesFor_81 rfl ?_
  refine mm_if_eq (tgt := 108) d2_witnessesFor_83 (by decide) (fun hc1 => ?_) (fun hc1 => ?_)
  · rw [if_pos hc1] at h
    refine mm_sub [(0, .ref v0), (1, .int v1), (2, .int v2), (3, .int v3), (4, .int v4), (5, .int v5)] ⟨rfl, rfl, rfl, rfl, rfl, rfl, trivial⟩ ?_
    exact ok2_witnessesFor_108 l hS hrec14 h0 h
  · rw [if_neg hc1] at h
    refine mm_iload d2_witnessesFor_86 rfl ?_
    refine mm_iload_n d2_witnessesFor_88 rfl ?_
    refine mm_icmp_eq (tgt := 108) d2_witnessesFor_89 (by decide) (fun hc2 => ?_) (fun hc2 => ?_)
    · rw [if_pos hc2] at h
      refine mm_sub [(0, .ref v0), (1, .int v1), (2, .int v2), (3, .int v3), (4, .int v4), (5, .int v5)] ⟨rfl, rfl, rfl, rfl, rfl, rfl, trivial⟩ ?_
      exact ok2_witnessesFor_108 l hS hrec14 h0 h
    · rw [if_neg hc2] at h
      refine mm_iload d2_witnessesFor_92 rfl ?_
      refine mm_iload_n d2_witnessesFor_94 rfl ?_
      refine mm_icmp_eq (tgt := 108) d2_witnessesFor_95 (by decide) (fun hc3 => ?_) (fun hc3 => ?_)
      · rw [if_pos hc3] at h
        refine mm_sub [(0, .ref v0), (1, .int v1), (2, .int v2), (3, .int v3), (4, .int v4), (5, .int v5)] ⟨rfl, rfl, rfl, rfl, rfl, rfl, trivial⟩ ?_
        exact ok2_witnessesFor_108 l hS hrec14 h0 h
      · rw [if_neg hc3] at h
        refine mm_iload_n d2_witnessesFor_98 rfl ?_
        refine mm_iconst (v := 1) d2_witnessesFor_99 (by decide +kernel) ?_
        refine mm_iload d2_witnessesFor_100 rfl ?_
        refine mm_ishl d2_witnessesFor_102 ?_
        refine mm_ior d2_witnessesFor_103 ?_
        refine mm_istore_n d2_witnessesFor_104 rfl rfl ?_
        refine mm_iinc (v := v4 + (-1)) d2_witnessesFor_105 rfl rfl rfl rfl ?_
        refine mm_sub [(0, .ref v0), (1, .int v1), (2, .int v2), (3, .int (v3 ||| ((1 : Int32) <<< (v5 &&& 31)))), (4, .int (v4 + (-1))), (5, .int v5)] ⟨rfl, rfl, rfl, rfl, rfl, rfl, trivial⟩ ?_
        exact ok2_witnessesFor_108 l hS hrec14 h0 h
set_option maxHeartbeats 4000000 in
set_option maxRecDepth 100000 in
theorem ok2_witnessesFor_78 (l : Launch) {S : mm_Sh} (hS : mm_WT S) {n : Nat}  {rec14 : Nat → Int32 → Int32 → Int32 → Int32 → Int32 → mm_I → mm_J → Option (Int32)} (hrec14 : ∀ {v0 : Nat} {v1 : Int32} {v2 : Int32} {v3 : Int32} {v4 : Int32} {v5 : Int32} (_ : mm_is S v0 2) {I : mm_I} {J : mm_J} {o : Int32}, rec14 v0 v1 v2 v3 v4 v5 I J = some o → mm_W l M2_witnessesFor (mm_rm (mm_rk M2_witnessesFor)) 0 0 S (mm_end S (mm_Qi o I J)) 14 [(0, .ref v0), (1, .int v1), (2, .int v2), (3, .int v3), (4, .int v4), (5, .int v5)] [] I J) {v0 : Nat} {v1 : Int32} {v2 : Int32} {v3 : Int32} {v4 : Int32} {v5 : Int32} (h0 : mm_is S v0 2) {I : mm_I} {J : mm_J} {o : Int32} (h : f2_witnessesFor_78 S n rec14 v0 v1 v2 v3 v4 v5 I J = some o) : mm_W l M2_witnessesFor (mm_rm (mm_rk M2_witnessesFor)) 0 0 S (mm_end S (mm_Qi o I J)) 78 [(0, .ref v0), (1, .int v1), (2, .int v2), (3, .int v3), (4, .int v4), (5, .int v5)] [] I J := by
  unfold f2_witnessesFor_78 at h
  refine mm_iconst (v := 0) d2_witnessesFor_78 (by decide +kernel) ?_
  refine mm_sub [(0, .ref v0), (1, .int v1), (2, .int v2), (3, .int v3), (4, .int v4), (5, .int v5)] ⟨rfl, rfl, rfl, rfl, rfl, rfl, trivial⟩ ?_
  exact ok2_witnessesFor_79 l hS hrec14 h0 h
set_option maxHeartbeats 4000000 in
set_option maxRecDepth 100000 in
theorem ok2_witnessesFor_125 (l : Launch) {S : mm_Sh} (hS : mm_WT S) {n : Nat}  {s0 : Int32}  {I : mm_I} {J : mm_J} {o : Int32} (h : f2_witnessesFor_125 S n s0 I J = some o) : mm_W l M2_witnessesFor (mm_rm (mm_rk M2_witnessesFor)) 0 0 S (mm_end S (mm_Qi o I J)) 125 [] [.int s0] I J := by
  unfold f2_witnessesFor_125 at h
  have h := Option.some.inj h
  subst h
  exact mm_iret rfl d2_witnessesFor_125 ⟨rfl, rfl, rfl⟩
set_option maxHeartbeats 4000000 in
set_option maxRecDepth 100000 in
theorem ok2_witnessesFor_114 (l : Launch) {S : mm_Sh} (hS : mm_WT S) {n : Nat}  {v3 : Int32} {v4 : Int32}  {I : mm_I} {J : mm_J} {o : Int32} (h : f2_witnessesFor_114 S n v3 v4 I J = some o) : mm_W l M2_witnessesFor (mm_rm (mm_rk M2_witnessesFor)) 0 0 S (mm_end S (mm_Qi o I J)) 114 [(3, .int v3), (4, .int v4)] [] I J := by
  unfold f2_witnessesFor_114 at h
  refine mm_iload d2_witnessesFor_114 rfl ?_
  refine mm_if_le (tgt := 124) d2_witnessesFor_116 (by decide) (fun hc1 => ?_) (fun hc1 => ?_)
  · rw [if_pos hc1] at h
    refine mm_iload_n d2_witnessesFor_124 rfl ?_
    refine mm_sub [] trivial ?_
    exact ok2_witnessesFor_125 l hS   h
  · rw [if_neg hc1] at h
    refine mm_ldc (v := (-1000000003)) d2_witnessesFor_119 kX2_59 ?_
    refine mm_goto (tgt := 125) d2_witnessesFor_121 (by decide) ?_
    refine mm_sub [] trivial ?_
    exact ok2_witnessesFor_125 l hS   h
set_option maxHeartbeats 4000000 in
set_option maxRecDepth 100000 in
theorem ok2_witnessesFor_14_b (l : Launch) {S : mm_Sh} (hS : mm_WT S) {n : Nat}  {rec14 : Nat → Int32 → Int32 → Int32 → Int32 → Int32 → mm_I → mm_J → Option (Int32)} (hrec14 : ∀ {v0 : Nat} {v1 : Int32} {v2 : Int32} {v3 : Int32} {v4 : Int32} {v5 : Int32} (_ : mm_is S v0 2) {I : mm_I} {J : mm_J} {o : Int32}, rec14 v0 v1 v2 v3 v4 v5 I J = some o → mm_W l M2_witnessesFor (mm_rm (mm_rk M2_witnessesFor)) 0 0 S (mm_end S (mm_Qi o I J)) 14 [(0, .ref v0), (1, .int v1), (2, .int v2), (3, .int v3), (4, .int v4), (5, .int v5)] [] I J) {v0 : Nat} {v1 : Int32} {v2 : Int32} {v3 : Int32} {v4 : Int32} {v5 : Int32} (h0 : mm_is S v0 2) {I : mm_I} {J : mm_J} {o : Int32} (h : f2_witnessesFor_14_b S n rec14 v0 v1 v2 v3 v4 v5 I J = some o) : mm_W l M2_witnessesFor (mm_rm (mm_rk M2_witnessesFor)) 0 0 S (mm_end S (mm_Qi o I J)) 14 [(0, .ref v0), (1, .int v1), (2, .int v2), (3, .int v3), (4, .int v4), (5, .int v5)] [] I J := by
  unfold f2_witnessesFor_14_b at h
  refine mm_iload d2_witnessesFor_14 rfl ?_
  refine mm_aload_n d2_witnessesFor_16 rfl ?_
  refine mm_getR fl_X2_9 d2_witnessesFor_17 (mm_wtR hS 100 h0 rfl rfl) ?_
  refine mm_getI fl_X2_110 d2_witnessesFor_20 (mm_wtI hS (mm_wtT hS 0 0 h0 rfl) rfl) ?_
  refine mm_icmp_ge (tgt := 114) d2_witnessesFor_23 (by decide) (fun hc1 => ?_) (fun hc1 => ?_)
  · rw [if_pos hc1] at h
    refine mm_sub [(3, .int v3), (4, .int v4)] ⟨rfl, rfl, trivial⟩ ?_
    exact ok2_witnessesFor_114 l hS   h
  · rw [if_neg hc1] at h
    refine mm_iload d2_witnessesFor_26 rfl ?_
    refine mm_if_le (tgt := 114) d2_witnessesFor_28 (by decide) (fun hc2 => ?_) (fun hc2 => ?_)
    · rw [if_pos hc2] at h
      refine mm_sub [(3, .int v3), (4, .int v4)] ⟨rfl, rfl, trivial⟩ ?_
      exact ok2_witnessesFor_114 l hS   h
    · rw [if_neg hc2] at h
      refine mm_aload_n d2_witnessesFor_31 rfl ?_
      refine mm_getR fl_X2_19 d2_witnessesFor_32 (mm_wtR hS 101 h0 rfl rfl) ?_
      refine mm_iload d2_witnessesFor_35 rfl ?_
      obtain ⟨o3, hk3, h⟩ := mm_bd h
      refine mm_cVi 1 (As := [.int v5]) (ok1_lives l hS (mm_wtT hS 2 1 h0 rfl) hk3) lk_X2_90 rfl d2_witnessesFor_37 (mm_room rfl rfl) rfl (mm_wtT hS 2 1 h0 rfl) rfl rfl ?_
      refine mm_if_eq (tgt := 78) d2_witnessesFor_40 (by decide) (fun hc4 => ?_) (fun hc4 => ?_)
      · rw [if_pos hc4] at h
        refine mm_sub [(0, .ref v0), (1, .int v1), (2, .int v2), (3, .int v3), (4, .int v4), (5, .int v5)] ⟨rfl, rfl, rfl, rfl, rfl, rfl, trivial⟩ ?_
        exact ok2_witnessesFor_78 l hS hrec14 h0 h
      · rw [if_neg hc4] at h
        refine mm_aload_n d2_witnessesFor_43 rfl ?_
        refine mm_getR fl_X2_19 d2_witnessesFor_44 (mm_wtR hS 101 h0 rfl rfl) ?_
        refine mm_getR fl_X2_93 d2_witnessesFor_47 (mm_wtR hS 106 (mm_wtT hS 2 1 h0 rfl) rfl rfl) ?_
        refine mm_iload d2_witnessesFor_50 rfl ?_
        obtain ⟨o5, hk5, h⟩ := mm_bd h
        refine mm_cVi 6 (As := [.int v5]) (ok6_at l hS (mm_wtT hS 4 6 (mm_wtT hS 2 1 h0 rfl) rfl) hk5) lk_X2_96 rfl d2_witnessesFor_52 (mm_room rfl rfl) rfl (mm_wtT hS 4 6 (mm_wtT hS 2 1 h0 rfl) rfl) rfl rfl ?_
        refine mm_iconst (v := (-1)) d2_witnessesFor_55 (by decide +kernel) ?_
        refine mm_icmp_ne (tgt := 78) d2_witnessesFor_56 (by decide) (fun hc6 => ?_) (fun hc6 => ?_)
        · rw [if_neg hc6] at h
          refine mm_sub [(0, .ref v0), (1, .int v1), (2, .int v2), (3, .int v3), (4, .int v4), (5, .int v5)] ⟨rfl, rfl, rfl, rfl, rfl, rfl, trivial⟩ ?_
          exact ok2_witnessesFor_78 l hS hrec14 h0 h
        · rw [if_pos hc6] at h
          refine mm_aload_n d2_witnessesFor_59 rfl ?_
          refine mm_getR fl_X2_19 d2_witnessesFor_60 (mm_wtR hS 101 h0 rfl rfl) ?_
          refine mm_getI fl_X2_78 d2_witnessesFor_63 (mm_wtI hS (mm_wtT hS 2 1 h0 rfl) rfl) ?_
          refine mm_iload d2_witnessesFor_66 rfl ?_
          obtain ⟨o7, hk7, h⟩ := mm_bd h
          refine mm_cSi (As := [.int (I (mm_rf S v0 2) 9), .int v5]) (ok10_has l hS hk7) lk_X2_113 rfl d2_witnessesFor_68 (mm_room rfl rfl) rfl rfl ?_
          refine mm_if_ne (tgt := 78) d2_witnessesFor_71 (by decide) (fun hc8 => ?_) (fun hc8 => ?_)
          · rw [if_neg hc8] at h
            refine mm_sub [(0, .ref v0), (1, .int v1), (2, .int v2), (3, .int v3), (4, .int v4), (5, .int v5)] ⟨rfl, rfl, rfl, rfl, rfl, rfl, trivial⟩ ?_
            exact ok2_witnessesFor_78 l hS hrec14 h0 h
          · rw [if_pos hc8] at h
            refine mm_iconst (v := 1) d2_witnessesFor_74 (by decide +kernel) ?_
            refine mm_goto (tgt := 79) d2_witnessesFor_75 (by decide) ?_
            refine mm_sub [(0, .ref v0), (1, .int v1), (2, .int v2), (3, .int v3), (4, .int v4), (5, .int v5)] ⟨rfl, rfl, rfl, rfl, rfl, rfl, trivial⟩ ?_
            exact ok2_witnessesFor_79 l hS hrec14 h0 h
set_option maxHeartbeats 4000000 in
set_option maxRecDepth 100000 in
theorem ok2_witnessesFor_14 (l : Launch) {S : mm_Sh} (hS : mm_WT S) {n : Nat}  : ∀ (k : Nat) {v0 : Nat} {v1 : Int32} {v2 : Int32} {v3 : Int32} {v4 : Int32} {v5 : Int32} (h0 : mm_is S v0 2) {I : mm_I} {J : mm_J} {o : Int32}, f2_witnessesFor_14 S n k v0 v1 v2 v3 v4 v5 I J = some o → mm_W l M2_witnessesFor (mm_rm (mm_rk M2_witnessesFor)) 0 0 S (mm_end S (mm_Qi o I J)) 14 [(0, .ref v0), (1, .int v1), (2, .int v2), (3, .int v3), (4, .int v4), (5, .int v5)] [] I J := by
  intro k
  induction k with
  | zero =>
    intros
    rename_i h
    cases h
  | succ k ih =>
    intro v0 v1 v2 v3 v4 v5 h0 I J o h
    exact ok2_witnessesFor_14_b l hS (fun {v0 v1 v2 v3 v4 v5} h0 {I J o} h => ih h0 h) h0 h
set_option maxHeartbeats 4000000 in
set_option maxRecDepth 100000 in
theorem ok2_witnessesFor (l : Launch) {S : mm_Sh} (hS : mm_WT S) {n : Nat}  {v0 : Nat} {v1 : Int32} {v2 : Int32} (h0 : mm_is S v0 2) {I : mm_I} {J : mm_J} {o : Int32} (h : f2_witnessesFor S n v0 v1 v2 I J = some o) : mm_C l M2_witnessesFor S [.ref v0, .int v1, .int v2] I J (mm_Qi o I J) := by
  unfold f2_witnessesFor at h
  refine mm_enter rfl (by decide +kernel) rfl ?_
  refine mm_iconst (v := 0) d2_witnessesFor_0 (by decide +kernel) ?_
  refine mm_istore_n d2_witnessesFor_1 rfl rfl ?_
  refine mm_aload_n d2_witnessesFor_2 rfl ?_
  refine mm_getR fl_X2_15 d2_witnessesFor_3 (mm_wtR hS 107 h0 rfl rfl) ?_
  refine mm_getI fl_X2_109 d2_witnessesFor_6 (mm_wtI hS (mm_wtT hS 1 7 h0 rfl) rfl) ?_
  refine mm_istore d2_witnessesFor_9 rfl rfl ?_
  refine mm_iconst (v := 0) d2_witnessesFor_11 (by decide +kernel) ?_
  refine mm_istore d2_witnessesFor_12 rfl rfl ?_
  refine mm_sub [(0, .ref v0), (1, .int v1), (2, .int v2), (3, .int 0), (4, .int (I (mm_rf S v0 1) 1)), (5, .int 0)] ⟨rfl, rfl, rfl, rfl, rfl, rfl, trivial⟩ ?_
  exact ok2_witnessesFor_14 l hS  n h0 h
set_option maxHeartbeats 4000000 in
set_option maxRecDepth 100000 in
theorem ok2_workByNight_112 (l : Launch) {S : mm_Sh} (hS : mm_WT S)  {v4 : Int32}  {I : mm_I} {J : mm_J} {o : Int32 × mm_I × mm_J} (h : f2_workByNight_112 S v4 I J = some o) : mm_W l M2_workByNight (mm_rm (mm_rk M2_workByNight)) 0 0 S (mm_end S (mm_Qi o.1 o.2.1 o.2.2)) 112 [(4, .int v4)] [] I J := by
  unfold f2_workByNight_112 at h
  refine mm_iload d2_workByNight_112 rfl ?_
  obtain ⟨hb1, h⟩ := mm_gd h
  have h := Option.some.inj h
  subst h
  exact mm_zret rfl d2_workByNight_114 (mm_bit_ok hb1) ⟨rfl, rfl, rfl⟩
set_option maxHeartbeats 4000000 in
set_option maxRecDepth 100000 in
theorem ok2_workByNight_78 (l : Launch) {S : mm_Sh} (hS : mm_WT S)  {v0 : Nat} {v1 : Int32} {v2 : Int32} {s0 : Int32} (h0 : mm_is S v0 2) {I : mm_I} {J : mm_J} {o : Int32 × mm_I × mm_J} (h : f2_workByNight_78 S v0 v1 v2 s0 I J = some o) : mm_W l M2_workByNight (mm_rm (mm_rk M2_workByNight)) 0 0 S (mm_end S (mm_Qi o.1 o.2.1 o.2.2)) 78 [(0, .ref v0), (1, .int v1), (2, .int v2)] [.int s0] I J := by
  unfold f2_workByNight_78 at h
  refine mm_istore d2_workByNight_78 rfl rfl ?_
  refine mm_iload d2_workByNight_80 rfl ?_
  refine mm_if_eq (tgt := 112) d2_workByNight_82 (by decide) (fun hc1 => ?_) (fun hc1 => ?_)
  · rw [if_pos hc1] at h
    refine mm_sub [(4, .int s0)] ⟨rfl, trivial⟩ ?_
    exact ok2_workByNight_112 l hS   h
  · rw [if_neg hc1] at h
    refine mm_aload_n d2_workByNight_85 rfl ?_
    refine mm_getR fl_X2_19 d2_workByNight_86 (mm_wtR hS 101 h0 rfl rfl) ?_
    refine mm_getR fl_X2_81 d2_workByNight_89 (mm_wtR hS 106 (mm_wtT hS 2 1 h0 rfl) rfl rfl) ?_
    refine mm_iload_n d2_workByNight_92 rfl ?_
    obtain ⟨o2, hk2, h⟩ := mm_bd h
    refine mm_cVi 6 (As := [.int v1]) (ok6_at l hS (mm_wtT hS 6 6 (mm_wtT hS 2 1 h0 rfl) rfl) hk2) lk_X2_96 rfl d2_workByNight_93 (mm_room rfl rfl) rfl (mm_wtT hS 6 6 (mm_wtT hS 2 1 h0 rfl) rfl) rfl rfl ?_
    refine mm_iconst (v := (-1)) d2_workByNight_96 (by decide +kernel) ?_
    refine mm_icmp_ne (tgt := 112) d2_workByNight_97 (by decide) (fun hc3 => ?_) (fun hc3 => ?_)
    · rw [if_neg hc3] at h
      refine mm_sub [(4, .int s0)] ⟨rfl, trivial⟩ ?_
      exact ok2_workByNight_112 l hS   h
    · rw [if_pos hc3] at h
      refine mm_aload_n d2_workByNight_100 rfl ?_
      refine mm_getR fl_X2_19 d2_workByNight_101 (mm_wtR hS 101 h0 rfl rfl) ?_
      refine mm_getR fl_X2_81 d2_workByNight_104 (mm_wtR hS 106 (mm_wtT hS 2 1 h0 rfl) rfl rfl) ?_
      refine mm_iload_n d2_workByNight_107 rfl ?_
      refine mm_iload_n d2_workByNight_108 rfl ?_
      obtain ⟨o4, hk4, h⟩ := mm_bd h
      refine mm_cVv 6 (As := [.int v1, .int v2]) (ok6_put l hS (mm_wtT hS 6 6 (mm_wtT hS 2 1 h0 rfl) rfl) hk4) lk_X2_85 rfl d2_workByNight_109 (mm_room rfl rfl) rfl (mm_wtT hS 6 6 (mm_wtT hS 2 1 h0 rfl) rfl) rfl rfl ?_
      refine mm_sub [(4, .int s0)] ⟨rfl, trivial⟩ ?_
      exact ok2_workByNight_112 l hS   h
set_option maxHeartbeats 4000000 in
set_option maxRecDepth 100000 in
theorem ok2_workByNight (l : Launch) {S : mm_Sh} (hS : mm_WT S)  {v0 : Nat} {v1 : Int32} {v2 : Int32} (h0 : mm_is S v0 2) {I : mm_I} {J : mm_J} {o : Int32 × mm_I × mm_J} (h : f2_workByNight S v0 v1 v2 I J = some o) : mm_C l M2_workByNight S [.ref v0, .int v1, .int v2] I J (mm_Qi o.1 o.2.1 o.2.2) := by
  unfold f2_workByNight at h
  refine mm_enter rfl (by decide +kernel) rfl ?_
  refine mm_aload_n d2_workByNight_0 rfl ?_
  refine mm_getR fl_X2_19 d2_workByNight_1 (mm_wtR hS 101 h0 rfl rfl) ?_
  refine mm_iload_n d2_workByNight_4 rfl ?_
  refine mm_iload_n d2_workByNight_5 rfl ?_
  refine mm_bipush (v := 100) d2_workByNight_6 (by decide +kernel) ?_
  refine mm_aload_n d2_workByNight_8 rfl ?_
  refine mm_getR fl_X2_19 d2_workByNight_9 (mm_wtR hS 101 h0 rfl rfl) ?_
  refine mm_iload_n d2_workByNight_12 rfl ?_
  refine mm_iload_n d2_workByNight_13 rfl ?_
  obtain ⟨o1, hk1, h⟩ := mm_bd h
  refine mm_cVi 1 (As := [.int v1, .int v2]) (ok1_skillOf l hS (mm_wtT hS 2 1 h0 rfl) hk1) lk_X2_119 rfl d2_workByNight_14 (mm_room rfl rfl) rfl (mm_wtT hS 2 1 h0 rfl) rfl rfl ?_
  refine mm_iconst (v := 5) d2_workByNight_17 (by decide +kernel) ?_
  refine mm_iadd d2_workByNight_18 ?_
  refine mm_mmin lm_X2_122 d2_workByNight_19 (mm_roomM rfl rfl) ?_
  obtain ⟨o2, hk2, h⟩ := mm_bd h
  refine mm_cVv 1 (As := [.int v1, .int v2, .int (if (o1 + 5) < 100 then (o1 + 5) else 100)]) (ok1_setSkill l hS (mm_wtT hS 2 1 h0 rfl) hk2) lk_X2_127 rfl d2_workByNight_22 (mm_room rfl rfl) rfl (mm_wtT hS 2 1 h0 rfl) rfl rfl ?_
  refine mm_aload_n d2_workByNight_25 rfl ?_
  refine mm_getR fl_X2_19 d2_workByNight_26 (mm_wtR hS 101 h0 rfl rfl) ?_
  refine mm_dup d2_workByNight_29 rfl ?_
  refine mm_getI fl_X2_131 d2_workByNight_30 (mm_wtI hS (mm_wtT hS 2 1 h0 rfl) rfl) ?_
  refine mm_iconst (v := 1) d2_workByNight_33 (by decide +kernel) ?_
  refine mm_iload_n d2_workByNight_34 rfl ?_
  refine mm_ishl d2_workByNight_35 ?_
  refine mm_ior d2_workByNight_36 ?_
  refine mm_putI fp_X2_131 d2_workByNight_37 (mm_wtI hS (mm_wtT hS 2 1 h0 rfl) rfl) ?_
  refine mm_aload_n d2_workByNight_40 rfl ?_
  refine mm_getR fl_X2_19 d2_workByNight_41 (mm_wtR hS 101 h0 rfl rfl) ?_
  refine mm_getI fl_X2_134 d2_workByNight_44 (mm_wtI hS (mm_wtT hS 2 1 h0 rfl) rfl) ?_
  refine mm_iconst (v := 1) d2_workByNight_47 (by decide +kernel) ?_
  refine mm_iload_n d2_workByNight_48 rfl ?_
  refine mm_ishl d2_workByNight_49 ?_
  refine mm_iconst (v := (-1)) d2_workByNight_50 (by decide +kernel) ?_
  refine mm_ixor d2_workByNight_51 ?_
  refine mm_iand d2_workByNight_52 ?_
  obtain ⟨o3, hk3, h⟩ := mm_bd h
  refine mm_cSi (As := [.int (((mm_up o2.1 (mm_rf S v0 2) 10 ((o2.1 (mm_rf S v0 2) 10) ||| ((1 : Int32) <<< (v1 &&& 31)))) (mm_rf S v0 2) 8) &&& (((1 : Int32) <<< (v1 &&& 31)) ^^^ (-1)))]) (okJ6_bitCount l hS hk3) lk_X2_39 rfl d2_workByNight_53 (mm_room rfl rfl) rfl rfl ?_
  refine mm_istore_n d2_workByNight_56 rfl rfl ?_
  refine mm_aload_n d2_workByNight_57 rfl ?_
  refine mm_getR fl_X2_19 d2_workByNight_58 (mm_wtR hS 101 h0 rfl rfl) ?_
  refine mm_bipush (v := 100) d2_workByNight_61 (by decide +kernel) ?_
  obtain ⟨o4, hk4, h⟩ := mm_bd h
  refine mm_cVi 1 (As := [.int 100]) (ok1_draw l hS (mm_wtT hS 2 1 h0 rfl) hk4) lk_X2_137 rfl d2_workByNight_63 (mm_room rfl rfl) rfl (mm_wtT hS 2 1 h0 rfl) rfl rfl ?_
  refine mm_bipush (v := 10) d2_workByNight_66 (by decide +kernel) ?_
  refine mm_iload_n d2_workByNight_68 rfl ?_
  refine mm_imul d2_workByNight_69 ?_
  refine mm_icmp_ge (tgt := 77) d2_workByNight_70 (by decide) (fun hc5 => ?_) (fun hc5 => ?_)
  · rw [if_pos hc5] at h
    refine mm_iconst (v := 0) d2_workByNight_77 (by decide +kernel) ?_
    refine mm_sub [(0, .ref v0), (1, .int v1), (2, .int v2)] ⟨rfl, rfl, rfl, trivial⟩ ?_
    exact ok2_workByNight_78 l hS  h0 h
  · rw [if_neg hc5] at h
    refine mm_iconst (v := 1) d2_workByNight_73 (by decide +kernel) ?_
    refine mm_goto (tgt := 78) d2_workByNight_74 (by decide) ?_
    refine mm_sub [(0, .ref v0), (1, .int v1), (2, .int v2)] ⟨rfl, rfl, rfl, trivial⟩ ?_
    exact ok2_workByNight_78 l hS  h0 h
set_option maxHeartbeats 4000000 in
set_option maxRecDepth 100000 in
theorem ok3_costOf_122 (l : Launch) {S : mm_Sh} (hS : mm_WT S)  {s0 : Int32}  {I : mm_I} {J : mm_J} {o : Int32} (h : f3_costOf_122 S s0 I J = some o) : mm_W l M3_costOf (mm_rm (mm_rk M3_costOf)) 0 0 S (mm_end S (mm_Qi o I J)) 122 [] [.int s0] I J := by
  unfold f3_costOf_122 at h
  have h := Option.some.inj h
  subst h
  exact mm_iret rfl d3_costOf_122 ⟨rfl, rfl, rfl⟩
set_option maxHeartbeats 4000000 in
set_option maxRecDepth 100000 in
theorem ok3_costOf_108 (l : Launch) {S : mm_Sh} (hS : mm_WT S)  {v4 : Int32} {s0 : Int32}  {I : mm_I} {J : mm_J} {o : Int32} (h : f3_costOf_108 S v4 s0 I J = some o) : mm_W l M3_costOf (mm_rm (mm_rk M3_costOf)) 0 0 S (mm_end S (mm_Qi o I J)) 108 [(4, .int v4)] [.int s0] I J := by
  unfold f3_costOf_108 at h
  refine mm_istore d3_costOf_108 rfl rfl ?_
  refine mm_iload d3_costOf_110 rfl ?_
  refine mm_if_eq (tgt := 120) d3_costOf_112 (by decide) (fun hc1 => ?_) (fun hc1 => ?_)
  · rw [if_pos hc1] at h
    refine mm_ldc (v := 1000000) d3_costOf_120 kX3_74 ?_
    refine mm_sub [] trivial ?_
    exact ok3_costOf_122 l hS   h
  · rw [if_neg hc1] at h
    refine mm_iload d3_costOf_115 rfl ?_
    refine mm_goto (tgt := 122) d3_costOf_117 (by decide) ?_
    refine mm_sub [] trivial ?_
    exact ok3_costOf_122 l hS   h
set_option maxHeartbeats 4000000 in
set_option maxRecDepth 100000 in
theorem ok3_costOf_103 (l : Launch) {S : mm_Sh} (hS : mm_WT S)  {v4 : Int32}  {I : mm_I} {J : mm_J} {o : Int32} (h : f3_costOf_103 S v4 I J = some o) : mm_W l M3_costOf (mm_rm (mm_rk M3_costOf)) 0 0 S (mm_end S (mm_Qi o I J)) 103 [(4, .int v4)] [] I J := by
  unfold f3_costOf_103 at h
  refine mm_iconst (v := 1) d3_costOf_103 (by decide +kernel) ?_
  refine mm_goto (tgt := 108) d3_costOf_104 (by decide) ?_
  refine mm_sub [(4, .int v4)] ⟨rfl, trivial⟩ ?_
  exact ok3_costOf_108 l hS   h
set_option maxHeartbeats 4000000 in
set_option maxRecDepth 100000 in
theorem ok3_costOf_107 (l : Launch) {S : mm_Sh} (hS : mm_WT S)  {v4 : Int32}  {I : mm_I} {J : mm_J} {o : Int32} (h : f3_costOf_107 S v4 I J = some o) : mm_W l M3_costOf (mm_rm (mm_rk M3_costOf)) 0 0 S (mm_end S (mm_Qi o I J)) 107 [(4, .int v4)] [] I J := by
  unfold f3_costOf_107 at h
  refine mm_iconst (v := 0) d3_costOf_107 (by decide +kernel) ?_
  refine mm_sub [(4, .int v4)] ⟨rfl, trivial⟩ ?_
  exact ok3_costOf_108 l hS   h
set_option maxHeartbeats 4000000 in
set_option maxRecDepth 100000 in
theorem ok3_costOf (l : Launch) {S : mm_Sh} (hS : mm_WT S)  {v0 : Nat} {v1 : Int32} {v2 : Int32} (h0 : mm_is S v0 3) {I : mm_I} {J : mm_J} {o : Int32} (h : f3_costOf S v0 v1 v2 I J = some o) : mm_C l M3_costOf S [.ref v0, .int v1, .int v2] I J (mm_Qi o I J) := by
  unfold f3_costOf at h
  refine mm_enter rfl (by decide +kernel) rfl ?_
  refine mm_aload_n d3_costOf_0 rfl ?_
  refine mm_getR fl_X3_37 d3_costOf_1 (mm_wtR hS 101 h0 rfl rfl) ?_
  refine mm_iload_n d3_costOf_4 rfl ?_
  refine mm_iload_n d3_costOf_5 rfl ?_
  obtain ⟨o1, hk1, h⟩ := mm_bd h
  refine mm_cVi 1 (As := [.int v1, .int v2]) (ok1_skillOf l hS (mm_wtT hS 1 1 h0 rfl) hk1) lk_X3_97 rfl d3_costOf_6 (mm_room rfl rfl) rfl (mm_wtT hS 1 1 h0 rfl) rfl rfl ?_
  refine mm_istore_n d3_costOf_9 rfl rfl ?_
  refine mm_aload_n d3_costOf_10 rfl ?_
  refine mm_getR fl_X3_33 d3_costOf_11 (mm_wtR hS 100 h0 rfl rfl) ?_
  refine mm_getR fl_X3_100 d3_costOf_14 (mm_wtR hS 106 (mm_wtT hS 0 0 h0 rfl) rfl rfl) ?_
  refine mm_iload_n d3_costOf_17 rfl ?_
  obtain ⟨o2, hk2, h⟩ := mm_bd h
  refine mm_cVi 6 (As := [.int v2]) (ok6_at l hS (mm_wtT hS 1 6 (mm_wtT hS 0 0 h0 rfl) rfl) hk2) lk_X3_71 rfl d3_costOf_18 (mm_room rfl rfl) rfl (mm_wtT hS 1 6 (mm_wtT hS 0 0 h0 rfl) rfl) rfl rfl ?_
  refine mm_istore d3_costOf_21 rfl rfl ?_
  refine mm_iload_n d3_costOf_23 rfl ?_
  refine mm_bipush (v := 50) d3_costOf_24 (by decide +kernel) ?_
  refine mm_icmp_lt (tgt := 31) d3_costOf_26 (by decide) (fun hc3 => ?_) (fun hc3 => ?_)
  · rw [if_pos hc3] at h
    refine mm_iload_n d3_costOf_31 rfl ?_
    refine mm_if_le (tgt := 49) d3_costOf_32 (by decide) (fun hc4 => ?_) (fun hc4 => ?_)
    · rw [if_pos hc4] at h
      refine mm_aload_n d3_costOf_49 rfl ?_
      refine mm_getR fl_X3_33 d3_costOf_50 (mm_wtR hS 100 h0 rfl rfl) ?_
      refine mm_getR fl_X3_103 d3_costOf_53 (mm_wtR hS 106 (mm_wtT hS 0 0 h0 rfl) rfl rfl) ?_
      refine mm_iload_n d3_costOf_56 rfl ?_
      obtain ⟨o5, hk5, h⟩ := mm_bd h
      refine mm_cVi 6 (As := [.int v2]) (ok6_at l hS (mm_wtT hS 3 6 (mm_wtT hS 0 0 h0 rfl) rfl) hk5) lk_X3_71 rfl d3_costOf_57 (mm_room rfl rfl) rfl (mm_wtT hS 3 6 (mm_wtT hS 0 0 h0 rfl) rfl) rfl rfl ?_
      refine mm_istore d3_costOf_60 rfl rfl ?_
      refine mm_aload_n d3_costOf_62 rfl ?_
      refine mm_getR fl_X3_37 d3_costOf_63 (mm_wtR hS 101 h0 rfl rfl) ?_
      refine mm_iload_n d3_costOf_66 rfl ?_
      obtain ⟨o6, hk6, h⟩ := mm_bd h
      refine mm_cVi 1 (As := [.int v1]) (ok1_lives l hS (mm_wtT hS 1 1 h0 rfl) hk6) lk_X3_106 rfl d3_costOf_67 (mm_room rfl rfl) rfl (mm_wtT hS 1 1 h0 rfl) rfl rfl ?_
      refine mm_if_eq (tgt := 107) d3_costOf_70 (by decide) (fun hc7 => ?_) (fun hc7 => ?_)
      · rw [if_pos hc7] at h
        refine mm_sub [(4, .int o2)] ⟨rfl, trivial⟩ ?_
        exact ok3_costOf_107 l hS   h
      · rw [if_neg hc7] at h
        refine mm_aload_n d3_costOf_73 rfl ?_
        refine mm_getR fl_X3_33 d3_costOf_74 (mm_wtR hS 100 h0 rfl rfl) ?_
        refine mm_iload_n d3_costOf_77 rfl ?_
        obtain ⟨o8, hk8, h⟩ := mm_bd h
        refine mm_cVi 0 (As := [.int v2]) (ok0_isForbidden l hS (mm_wtT hS 0 0 h0 rfl) hk8) lk_X3_110 rfl d3_costOf_78 (mm_room rfl rfl) rfl (mm_wtT hS 0 0 h0 rfl) rfl rfl ?_
        refine mm_if_ne (tgt := 107) d3_costOf_81 (by decide) (fun hc9 => ?_) (fun hc9 => ?_)
        · rw [if_neg hc9] at h
          refine mm_sub [(4, .int o2)] ⟨rfl, trivial⟩ ?_
          exact ok3_costOf_107 l hS   h
        · rw [if_pos hc9] at h
          refine mm_iload d3_costOf_84 rfl ?_
          refine mm_iconst (v := (-1)) d3_costOf_86 (by decide +kernel) ?_
          refine mm_icmp_eq (tgt := 103) d3_costOf_87 (by decide) (fun hc10 => ?_) (fun hc10 => ?_)
          · rw [if_pos hc10] at h
            refine mm_sub [(4, .int o2)] ⟨rfl, trivial⟩ ?_
            exact ok3_costOf_103 l hS   h
          · rw [if_neg hc10] at h
            refine mm_aload_n d3_costOf_90 rfl ?_
            refine mm_getR fl_X3_37 d3_costOf_91 (mm_wtR hS 101 h0 rfl rfl) ?_
            refine mm_iload_n d3_costOf_94 rfl ?_
            refine mm_iload d3_costOf_95 rfl ?_
            obtain ⟨o11, hk11, h⟩ := mm_bd h
            refine mm_cVi 1 (As := [.int v1, .int o5]) (ok1_knows l hS (mm_wtT hS 1 1 h0 rfl) hk11) lk_X3_113 rfl d3_costOf_97 (mm_room rfl rfl) rfl (mm_wtT hS 1 1 h0 rfl) rfl rfl ?_
            refine mm_if_eq (tgt := 107) d3_costOf_100 (by decide) (fun hc12 => ?_) (fun hc12 => ?_)
            · rw [if_pos hc12] at h
              refine mm_sub [(4, .int o2)] ⟨rfl, trivial⟩ ?_
              exact ok3_costOf_107 l hS   h
            · rw [if_neg hc12] at h
              refine mm_sub [(4, .int o2)] ⟨rfl, trivial⟩ ?_
              exact ok3_costOf_103 l hS   h
    · rw [if_neg hc4] at h
      refine mm_iload d3_costOf_35 rfl ?_
      refine mm_bipush (v := 100) d3_costOf_37 (by decide +kernel) ?_
      refine mm_iload_n d3_costOf_39 rfl ?_
      refine mm_isub d3_costOf_40 ?_
      refine mm_imul d3_costOf_41 ?_
      refine mm_bipush (v := 99) d3_costOf_42 (by decide +kernel) ?_
      refine mm_iadd d3_costOf_44 ?_
      refine mm_bipush (v := 100) d3_costOf_45 (by decide +kernel) ?_
      refine mm_idiv d3_costOf_47 (by decide) ?_
      have h := Option.some.inj h
      subst h
      exact mm_iret rfl d3_costOf_48 ⟨rfl, rfl, rfl⟩
  · rw [if_neg hc3] at h
    refine mm_iconst (v := 0) d3_costOf_29 (by decide +kernel) ?_
    have h := Option.some.inj h
    subst h
    exact mm_iret rfl d3_costOf_30 ⟨rfl, rfl, rfl⟩
set_option maxHeartbeats 4000000 in
set_option maxRecDepth 100000 in
theorem ok3_sumWith (l : Launch) {S : mm_Sh} (hS : mm_WT S)  {v0 : Nat} {v1 : Int32} {v2 : Int32} {v3 : Int32} (h0 : mm_is S v0 3) {I : mm_I} {J : mm_J} {o : Int32} (h : f3_sumWith S v0 v1 v2 v3 I J = some o) : mm_C l M3_sumWith S [.ref v0, .int v1, .int v2, .int v3] I J (mm_Qi o I J) := by
  unfold f3_sumWith at h
  refine mm_enter rfl (by decide +kernel) rfl ?_
  refine mm_iload_n d3_sumWith_0 rfl ?_
  refine mm_iconst (v := 1) d3_sumWith_1 (by decide +kernel) ?_
  refine mm_iadd d3_sumWith_2 ?_
  refine mm_aload_n d3_sumWith_3 rfl ?_
  refine mm_getI fl_X3_29 d3_sumWith_4 (mm_wtI hS h0 rfl) ?_
  refine mm_imul d3_sumWith_7 ?_
  refine mm_istore d3_sumWith_8 rfl rfl ?_
  refine mm_iload_n d3_sumWith_10 rfl ?_
  refine mm_iconst (v := (-1)) d3_sumWith_11 (by decide +kernel) ?_
  refine mm_icmp_ne (tgt := 27) d3_sumWith_12 (by decide) (fun hc1 => ?_) (fun hc1 => ?_)
  · rw [if_neg hc1] at h
    refine mm_aload_n d3_sumWith_27 rfl ?_
    refine mm_iload_n d3_sumWith_28 rfl ?_
    refine mm_iload_n d3_sumWith_29 rfl ?_
    obtain ⟨o2, hk2, h⟩ := mm_bd h
    refine mm_cVi 3 (As := [.int v2, .int v3]) (ok3_stillWanted l hS h0 hk2) lk_X3_126 rfl d3_sumWith_30 (mm_room rfl rfl) rfl h0 rfl rfl ?_
    refine mm_if_ne (tgt := 39) d3_sumWith_33 (by decide) (fun hc3 => ?_) (fun hc3 => ?_)
    · rw [if_neg hc3] at h
      refine mm_ldc (v := 1000000) d3_sumWith_39 kX3_74 ?_
      refine mm_aload_n d3_sumWith_41 rfl ?_
      refine mm_getR fl_X3_20 d3_sumWith_42 (mm_wtR hS 106 h0 rfl rfl) ?_
      refine mm_iload_n d3_sumWith_45 rfl ?_
      refine mm_iload_n d3_sumWith_46 rfl ?_
      obtain ⟨o4, hk4, h⟩ := mm_bd h
      refine mm_cSi (As := [.int v1, .int v3]) (ok10_cell l hS hk4) lk_X3_90 rfl d3_sumWith_47 (mm_room rfl rfl) rfl rfl ?_
      obtain ⟨o5, hk5, h⟩ := mm_bd h
      refine mm_cVi 6 (As := [.int o4]) (ok6_at l hS (mm_wtT hS 4 6 h0 rfl) hk5) lk_X3_71 rfl d3_sumWith_50 (mm_room rfl rfl) rfl (mm_wtT hS 4 6 h0 rfl) rfl rfl ?_
      refine mm_aload_n d3_sumWith_53 rfl ?_
      refine mm_getR fl_X3_23 d3_sumWith_54 (mm_wtR hS 106 h0 rfl rfl) ?_
      refine mm_iload d3_sumWith_57 rfl ?_
      refine mm_iload_n d3_sumWith_59 rfl ?_
      refine mm_iadd d3_sumWith_60 ?_
      refine mm_aload_n d3_sumWith_61 rfl ?_
      refine mm_getR fl_X3_14 d3_sumWith_62 (mm_wtR hS 106 h0 rfl rfl) ?_
      refine mm_iload_n d3_sumWith_65 rfl ?_
      obtain ⟨o6, hk6, h⟩ := mm_bd h
      refine mm_cVi 6 (As := [.int v3]) (ok6_at l hS (mm_wtT hS 3 6 h0 rfl) hk6) lk_X3_71 rfl d3_sumWith_66 (mm_room rfl rfl) rfl (mm_wtT hS 3 6 h0 rfl) rfl rfl ?_
      refine mm_isub d3_sumWith_69 ?_
      obtain ⟨o7, hk7, h⟩ := mm_bd h
      refine mm_cVi 6 (As := [.int ((((v1 + 1) * (I v0 7)) + v2) - o6)]) (ok6_at l hS (mm_wtT hS 5 6 h0 rfl) hk7) lk_X3_71 rfl d3_sumWith_70 (mm_room rfl rfl) rfl (mm_wtT hS 5 6 h0 rfl) rfl rfl ?_
      refine mm_iadd d3_sumWith_73 ?_
      refine mm_mmin lm_X3_121 d3_sumWith_74 (mm_roomM rfl rfl) ?_
      have h := Option.some.inj h
      subst h
      exact mm_iret rfl d3_sumWith_77 ⟨rfl, rfl, rfl⟩
    · rw [if_pos hc3] at h
      refine mm_ldc (v := 1000000) d3_sumWith_36 kX3_74 ?_
      have h := Option.some.inj h
      subst h
      exact mm_iret rfl d3_sumWith_38 ⟨rfl, rfl, rfl⟩
  · rw [if_pos hc1] at h
    refine mm_aload_n d3_sumWith_15 rfl ?_
    refine mm_getR fl_X3_23 d3_sumWith_16 (mm_wtR hS 106 h0 rfl rfl) ?_
    refine mm_iload d3_sumWith_19 rfl ?_
    refine mm_iload_n d3_sumWith_21 rfl ?_
    refine mm_iadd d3_sumWith_22 ?_
    obtain ⟨o8, hk8, h⟩ := mm_bd h
    refine mm_cVi 6 (As := [.int (((v1 + 1) * (I v0 7)) + v2)]) (ok6_at l hS (mm_wtT hS 5 6 h0 rfl) hk8) lk_X3_71 rfl d3_sumWith_23 (mm_room rfl rfl) rfl (mm_wtT hS 5 6 h0 rfl) rfl rfl ?_
    have h := Option.some.inj h
    subst h
    exact mm_iret rfl d3_sumWith_26 ⟨rfl, rfl, rfl⟩
set_option maxHeartbeats 4000000 in
set_option maxRecDepth 100000 in
theorem ok4_closeClause_28 (l : Launch) {S : mm_Sh} (hS : mm_WT S) {n : Nat}    {I : mm_I} {J : mm_J} {o : mm_I × mm_J} (h : f4_closeClause_28 S n  I J = some o) : mm_W l M4_closeClause (mm_rm (mm_rk M4_closeClause)) 0 0 S (mm_end S (mm_Qv o.1 o.2)) 28 [] [] I J := by
  unfold f4_closeClause_28 at h
  have h := Option.some.inj h
  subst h
  exact mm_vret rfl d4_closeClause_28 ⟨rfl, rfl, rfl⟩
set_option maxHeartbeats 4000000 in
set_option maxRecDepth 100000 in
theorem ok4_closeClause_17 (l : Launch) {S : mm_Sh} (hS : mm_WT S) {n : Nat}  {v0 : Nat} (h0 : mm_is S v0 4) {I : mm_I} {J : mm_J} {o : mm_I × mm_J} (h : f4_closeClause_17 S n v0 I J = some o) : mm_W l M4_closeClause (mm_rm (mm_rk M4_closeClause)) 0 0 S (mm_end S (mm_Qv o.1 o.2)) 17 [(0, .ref v0)] [] I J := by
  unfold f4_closeClause_17 at h
  refine mm_aload_n d4_closeClause_17 rfl ?_
  obtain ⟨o1, hk1, h⟩ := mm_bd h
  refine mm_cVi 4 (As := []) (ok4_isSound l hS h0 hk1) lk_X4_72 rfl d4_closeClause_18 (mm_room rfl rfl) rfl h0 rfl rfl ?_
  refine mm_if_eq (tgt := 28) d4_closeClause_21 (by decide) (fun hc2 => ?_) (fun hc2 => ?_)
  · rw [if_pos hc2] at h
    refine mm_sub [] trivial ?_
    exact ok4_closeClause_28 l hS   h
  · rw [if_neg hc2] at h
    refine mm_aload_n d4_closeClause_24 rfl ?_
    obtain ⟨o3, hk3, h⟩ := mm_bd h
    refine mm_cVv 4 (As := []) (ok4_advance l hS h0 hk3) lk_X4_43 rfl d4_closeClause_25 (mm_room rfl rfl) rfl h0 rfl rfl ?_
    refine mm_sub [] trivial ?_
    exact ok4_closeClause_28 l hS   h
set_option maxHeartbeats 4000000 in
set_option maxRecDepth 100000 in
theorem ok4_closeClause (l : Launch) {S : mm_Sh} (hS : mm_WT S) {n : Nat}  {v0 : Nat} (h0 : mm_is S v0 4) {I : mm_I} {J : mm_J} {o : mm_I × mm_J} (h : f4_closeClause S n v0 I J = some o) : mm_C l M4_closeClause S [.ref v0] I J (mm_Qv o.1 o.2) := by
  unfold f4_closeClause at h
  refine mm_enter rfl (by decide +kernel) rfl ?_
  refine mm_aload_n d4_closeClause_0 rfl ?_
  refine mm_getI fl_X4_24 d4_closeClause_1 (mm_wtI hS h0 rfl) ?_
  refine mm_iconst (v := 3) d4_closeClause_4 (by decide +kernel) ?_
  refine mm_icmp_eq (tgt := 17) d4_closeClause_5 (by decide) (fun hc1 => ?_) (fun hc1 => ?_)
  · rw [if_pos hc1] at h
    refine mm_sub [(0, .ref v0)] ⟨rfl, trivial⟩ ?_
    exact ok4_closeClause_17 l hS  h0 h
  · rw [if_neg hc1] at h
    refine mm_aload_n d4_closeClause_8 rfl ?_
    refine mm_iconst (v := 1) d4_closeClause_9 (by decide +kernel) ?_
    refine mm_aload_n d4_closeClause_10 rfl ?_
    refine mm_getI fl_X4_27 d4_closeClause_11 (mm_wtI hS h0 rfl) ?_
    obtain ⟨o2, hk2, h⟩ := mm_bd h
    refine mm_cVv 4 (As := [.int 1, .int (I v0 3)]) (ok4_blame l hS h0 hk2) lk_X4_62 rfl d4_closeClause_14 (mm_room rfl rfl) rfl h0 rfl rfl ?_
    refine mm_sub [(0, .ref v0)] ⟨rfl, trivial⟩ ?_
    exact ok4_closeClause_17 l hS  h0 h
set_option maxHeartbeats 4000000 in
set_option maxRecDepth 100000 in
theorem ok4_number_54 (l : Launch) {S : mm_Sh} (hS : mm_WT S) {n : Nat}  {v0 : Nat} (h0 : mm_is S v0 4) {I : mm_I} {J : mm_J} {o : Int32 × mm_I × mm_J} (h : f4_number_54 S n v0 I J = some o) : mm_W l M4_number (mm_rm (mm_rk M4_number)) 0 0 S (mm_end S (mm_Qi o.1 o.2.1 o.2.2)) 54 [(0, .ref v0)] [] I J := by
  unfold f4_number_54 at h
  refine mm_aload_n d4_number_54 rfl ?_
  obtain ⟨o1, hk1, h⟩ := mm_bd h
  refine mm_cVi 4 (As := []) (ok4_isSound l hS h0 hk1) lk_X4_72 rfl d4_number_55 (mm_room rfl rfl) rfl h0 rfl rfl ?_
  refine mm_if_ne (tgt := 63) d4_number_58 (by decide) (fun hc2 => ?_) (fun hc2 => ?_)
  · rw [if_neg hc2] at h
    refine mm_aload_n d4_number_63 rfl ?_
    obtain ⟨o3, hk3, h⟩ := mm_bd h
    refine mm_cVi 4 (As := []) (ok4_figures l hS h0 hk3) lk_X4_65 rfl d4_number_64 (mm_room rfl rfl) rfl h0 rfl rfl ?_
    refine mm_istore_n d4_number_67 rfl rfl ?_
    refine mm_aload_n d4_number_68 rfl ?_
    obtain ⟨o4, hk4, h⟩ := mm_bd h
    refine mm_cVv 4 (As := []) (ok4_advance l hS h0 hk4) lk_X4_43 rfl d4_number_69 (mm_room rfl rfl) rfl h0 rfl rfl ?_
    refine mm_iload_n d4_number_72 rfl ?_
    have h := Option.some.inj h
    subst h
    exact mm_iret rfl d4_number_73 ⟨rfl, rfl, rfl⟩
  · rw [if_pos hc2] at h
    refine mm_iconst (v := (-1)) d4_number_61 (by decide +kernel) ?_
    have h := Option.some.inj h
    subst h
    exact mm_iret rfl d4_number_62 ⟨rfl, rfl, rfl⟩
set_option maxHeartbeats 4000000 in
set_option maxRecDepth 100000 in
theorem ok4_number_45 (l : Launch) {S : mm_Sh} (hS : mm_WT S) {n : Nat}  {v0 : Nat} (h0 : mm_is S v0 4) {I : mm_I} {J : mm_J} {o : Int32 × mm_I × mm_J} (h : f4_number_45 S n v0 I J = some o) : mm_W l M4_number (mm_rm (mm_rk M4_number)) 0 0 S (mm_end S (mm_Qi o.1 o.2.1 o.2.2)) 45 [(0, .ref v0)] [] I J := by
  unfold f4_number_45 at h
  refine mm_aload_n d4_number_45 rfl ?_
  refine mm_iconst (v := 2) d4_number_46 (by decide +kernel) ?_
  refine mm_aload_n d4_number_47 rfl ?_
  refine mm_getI fl_X4_27 d4_number_48 (mm_wtI hS h0 rfl) ?_
  obtain ⟨o1, hk1, h⟩ := mm_bd h
  refine mm_cVv 4 (As := [.int 2, .int (I v0 3)]) (ok4_blame l hS h0 hk1) lk_X4_62 rfl d4_number_51 (mm_room rfl rfl) rfl h0 rfl rfl ?_
  refine mm_sub [(0, .ref v0)] ⟨rfl, trivial⟩ ?_
  exact ok4_number_54 l hS  h0 h
set_option maxHeartbeats 4000000 in
set_option maxRecDepth 100000 in
theorem ok4_number (l : Launch) {S : mm_Sh} (hS : mm_WT S) {n : Nat}  {v0 : Nat} {v1 : Int32} {v2 : Int32} (h0 : mm_is S v0 4) {I : mm_I} {J : mm_J} {o : Int32 × mm_I × mm_J} (h : f4_number S n v0 v1 v2 I J = some o) : mm_C l M4_number S [.ref v0, .int v1, .int v2] I J (mm_Qi o.1 o.2.1 o.2.2) := by
  unfold f4_number at h
  refine mm_enter rfl (by decide +kernel) rfl ?_
  refine mm_aload_n d4_number_0 rfl ?_
  refine mm_getI fl_X4_24 d4_number_1 (mm_wtI hS h0 rfl) ?_
  refine mm_iconst (v := 2) d4_number_4 (by decide +kernel) ?_
  refine mm_icmp_eq (tgt := 20) d4_number_5 (by decide) (fun hc1 => ?_) (fun hc1 => ?_)
  · rw [if_pos hc1] at h
    refine mm_aload_n d4_number_20 rfl ?_
    refine mm_getI fl_X4_30 d4_number_21 (mm_wtI hS h0 rfl) ?_
    refine mm_aload_n d4_number_24 rfl ?_
    refine mm_getI fl_X4_27 d4_number_25 (mm_wtI hS h0 rfl) ?_
    refine mm_isub d4_number_28 ?_
    refine mm_iconst (v := 3) d4_number_29 (by decide +kernel) ?_
    refine mm_icmp_gt (tgt := 45) d4_number_30 (by decide) (fun hc2 => ?_) (fun hc2 => ?_)
    · rw [if_pos hc2] at h
      refine mm_sub [(0, .ref v0)] ⟨rfl, trivial⟩ ?_
      exact ok4_number_45 l hS  h0 h
    · rw [if_neg hc2] at h
      refine mm_aload_n d4_number_33 rfl ?_
      obtain ⟨o3, hk3, h⟩ := mm_bd h
      refine mm_cVi 4 (As := []) (ok4_figures l hS h0 hk3) lk_X4_65 rfl d4_number_34 (mm_room rfl rfl) rfl h0 rfl rfl ?_
      refine mm_iload_n d4_number_37 rfl ?_
      refine mm_iload_n d4_number_38 rfl ?_
      obtain ⟨o4, hk4, h⟩ := mm_bd h
      refine mm_cSi (As := [.int o3, .int v1, .int v2]) (ok10_within l hS hk4) lk_X4_68 rfl d4_number_39 (mm_room rfl rfl) rfl rfl ?_
      refine mm_if_ne (tgt := 54) d4_number_42 (by decide) (fun hc5 => ?_) (fun hc5 => ?_)
      · rw [if_neg hc5] at h
        refine mm_sub [(0, .ref v0)] ⟨rfl, trivial⟩ ?_
        exact ok4_number_54 l hS  h0 h
      · rw [if_pos hc5] at h
        refine mm_sub [(0, .ref v0)] ⟨rfl, trivial⟩ ?_
        exact ok4_number_45 l hS  h0 h
  · rw [if_neg hc1] at h
    refine mm_aload_n d4_number_8 rfl ?_
    refine mm_iconst (v := 1) d4_number_9 (by decide +kernel) ?_
    refine mm_aload_n d4_number_10 rfl ?_
    refine mm_getI fl_X4_27 d4_number_11 (mm_wtI hS h0 rfl) ?_
    obtain ⟨o6, hk6, h⟩ := mm_bd h
    refine mm_cVv 4 (As := [.int 1, .int (I v0 3)]) (ok4_blame l hS h0 hk6) lk_X4_62 rfl d4_number_14 (mm_room rfl rfl) rfl h0 rfl rfl ?_
    refine mm_goto (tgt := 54) d4_number_17 (by decide) ?_
    refine mm_sub [(0, .ref v0)] ⟨rfl, trivial⟩ ?_
    exact ok4_number_54 l hS  h0 h
set_option maxHeartbeats 4000000 in
set_option maxRecDepth 100000 in
theorem ok4_open (l : Launch) {S : mm_Sh} (hS : mm_WT S) {n : Nat}  {v0 : Nat} (h0 : mm_is S v0 4) {I : mm_I} {J : mm_J} {o : mm_I × mm_J} (h : f4_open S n v0 I J = some o) : mm_C l M4_open S [.ref v0] I J (mm_Qv o.1 o.2) := by
  unfold f4_open at h
  refine mm_enter rfl (by decide +kernel) rfl ?_
  refine mm_aload_n d4_open_0 rfl ?_
  refine mm_iconst (v := 0) d4_open_1 (by decide +kernel) ?_
  refine mm_putI fp_X4_30 d4_open_2 (mm_wtI hS h0 rfl) ?_
  refine mm_aload_n d4_open_5 rfl ?_
  refine mm_iconst (v := 0) d4_open_6 (by decide +kernel) ?_
  refine mm_putI fp_X4_33 d4_open_7 (mm_wtI hS h0 rfl) ?_
  refine mm_aload_n d4_open_10 rfl ?_
  refine mm_iconst (v := (-1)) d4_open_11 (by decide +kernel) ?_
  refine mm_putI fp_X4_36 d4_open_12 (mm_wtI hS h0 rfl) ?_
  refine mm_aload_n d4_open_15 rfl ?_
  obtain ⟨o1, hk1, h⟩ := mm_bd h
  refine mm_cVv 4 (As := []) (ok4_advance l hS h0 hk1) lk_X4_43 rfl d4_open_16 (mm_room rfl rfl) rfl h0 rfl rfl ?_
  have h := Option.some.inj h
  subst h
  exact mm_vret rfl d4_open_19 ⟨rfl, rfl, rfl⟩
set_option maxHeartbeats 4000000 in
set_option maxRecDepth 100000 in
theorem ok5_gainOf_84 (l : Launch) {S : mm_Sh} (hS : mm_WT S)  {s0 : Int32}  {I : mm_I} {J : mm_J} {o : Int32} (h : f5_gainOf_84 S s0 I J = some o) : mm_W l M5_gainOf (mm_rm (mm_rk M5_gainOf)) 0 0 S (mm_end S (mm_Qi o I J)) 84 [] [.int s0] I J := by
  unfold f5_gainOf_84 at h
  have h := Option.some.inj h
  subst h
  exact mm_iret rfl d5_gainOf_84 ⟨rfl, rfl, rfl⟩
set_option maxHeartbeats 4000000 in
set_option maxRecDepth 100000 in
theorem ok5_gainOf_44 (l : Launch) {S : mm_Sh} (hS : mm_WT S)  {v0 : Nat} {v1 : Int32} {v2 : Int32} {v3 : Int32} {s0 : Int32} (h0 : mm_is S v0 5) {I : mm_I} {J : mm_J} {o : Int32} (h : f5_gainOf_44 S v0 v1 v2 v3 s0 I J = some o) : mm_W l M5_gainOf (mm_rm (mm_rk M5_gainOf)) 0 0 S (mm_end S (mm_Qi o I J)) 44 [(0, .ref v0), (1, .int v1), (2, .int v2), (3, .int v3)] [.int s0] I J := by
  unfold f5_gainOf_44 at h
  refine mm_istore d5_gainOf_44 rfl rfl ?_
  refine mm_iload d5_gainOf_46 rfl ?_
  refine mm_if_eq (tgt := 83) d5_gainOf_48 (by decide) (fun hc1 => ?_) (fun hc1 => ?_)
  · rw [if_pos hc1] at h
    refine mm_iconst (v := 0) d5_gainOf_83 (by decide +kernel) ?_
    refine mm_sub [] trivial ?_
    exact ok5_gainOf_84 l hS   h
  · rw [if_neg hc1] at h
    refine mm_iconst (v := 0) d5_gainOf_51 (by decide +kernel) ?_
    refine mm_aload_n d5_gainOf_52 rfl ?_
    refine mm_getR fl_X5_36 d5_gainOf_53 (mm_wtR hS 102 h0 rfl rfl) ?_
    refine mm_getR fl_X5_43 d5_gainOf_56 (mm_wtR hS 100 (mm_wtT hS 0 2 h0 rfl) rfl rfl) ?_
    refine mm_iload_n d5_gainOf_59 rfl ?_
    refine mm_iload_n d5_gainOf_60 rfl ?_
    obtain ⟨o2, hk2, h⟩ := mm_bd h
    refine mm_cVi 0 (As := [.int v1, .int v3]) (ok0_likeOf l hS (mm_wtT hS 0 0 (mm_wtT hS 0 2 h0 rfl) rfl) hk2) lk_X5_93 rfl d5_gainOf_61 (mm_room rfl rfl) rfl (mm_wtT hS 0 0 (mm_wtT hS 0 2 h0 rfl) rfl) rfl rfl ?_
    refine mm_aload_n d5_gainOf_64 rfl ?_
    refine mm_getR fl_X5_36 d5_gainOf_65 (mm_wtR hS 102 h0 rfl rfl) ?_
    refine mm_getR fl_X5_43 d5_gainOf_68 (mm_wtR hS 100 (mm_wtT hS 0 2 h0 rfl) rfl rfl) ?_
    refine mm_iload_n d5_gainOf_71 rfl ?_
    refine mm_iload_n d5_gainOf_72 rfl ?_
    obtain ⟨o3, hk3, h⟩ := mm_bd h
    refine mm_cVi 0 (As := [.int v1, .int v2]) (ok0_likeOf l hS (mm_wtT hS 0 0 (mm_wtT hS 0 2 h0 rfl) rfl) hk3) lk_X5_93 rfl d5_gainOf_73 (mm_room rfl rfl) rfl (mm_wtT hS 0 0 (mm_wtT hS 0 2 h0 rfl) rfl) rfl rfl ?_
    refine mm_isub d5_gainOf_76 ?_
    refine mm_mmax lm_X5_97 d5_gainOf_77 (mm_roomM rfl rfl) ?_
    refine mm_goto (tgt := 84) d5_gainOf_80 (by decide) ?_
    refine mm_sub [] trivial ?_
    exact ok5_gainOf_84 l hS   h
set_option maxHeartbeats 4000000 in
set_option maxRecDepth 100000 in
theorem ok5_gainOf_43 (l : Launch) {S : mm_Sh} (hS : mm_WT S)  {v0 : Nat} {v1 : Int32} {v2 : Int32} {v3 : Int32} (h0 : mm_is S v0 5) {I : mm_I} {J : mm_J} {o : Int32} (h : f5_gainOf_43 S v0 v1 v2 v3 I J = some o) : mm_W l M5_gainOf (mm_rm (mm_rk M5_gainOf)) 0 0 S (mm_end S (mm_Qi o I J)) 43 [(0, .ref v0), (1, .int v1), (2, .int v2), (3, .int v3)] [] I J := by
  unfold f5_gainOf_43 at h
  refine mm_iconst (v := 0) d5_gainOf_43 (by decide +kernel) ?_
  refine mm_sub [(0, .ref v0), (1, .int v1), (2, .int v2), (3, .int v3)] ⟨rfl, rfl, rfl, rfl, trivial⟩ ?_
  exact ok5_gainOf_44 l hS  h0 h
set_option maxHeartbeats 4000000 in
set_option maxRecDepth 100000 in
theorem ok5_gainOf (l : Launch) {S : mm_Sh} (hS : mm_WT S)  {v0 : Nat} {v1 : Int32} {v2 : Int32} {v3 : Int32} (h0 : mm_is S v0 5) {I : mm_I} {J : mm_J} {o : Int32} (h : f5_gainOf S v0 v1 v2 v3 I J = some o) : mm_C l M5_gainOf S [.ref v0, .int v1, .int v2, .int v3] I J (mm_Qi o I J) := by
  unfold f5_gainOf at h
  refine mm_enter rfl (by decide +kernel) rfl ?_
  refine mm_iload_n d5_gainOf_0 rfl ?_
  refine mm_iconst (v := (-1)) d5_gainOf_1 (by decide +kernel) ?_
  refine mm_icmp_eq (tgt := 43) d5_gainOf_2 (by decide) (fun hc1 => ?_) (fun hc1 => ?_)
  · rw [if_pos hc1] at h
    refine mm_sub [(0, .ref v0), (1, .int v1), (2, .int v2), (3, .int v3)] ⟨rfl, rfl, rfl, rfl, trivial⟩ ?_
    exact ok5_gainOf_43 l hS  h0 h
  · rw [if_neg hc1] at h
    refine mm_iload_n d5_gainOf_5 rfl ?_
    refine mm_iconst (v := (-1)) d5_gainOf_6 (by decide +kernel) ?_
    refine mm_icmp_eq (tgt := 43) d5_gainOf_7 (by decide) (fun hc2 => ?_) (fun hc2 => ?_)
    · rw [if_pos hc2] at h
      refine mm_sub [(0, .ref v0), (1, .int v1), (2, .int v2), (3, .int v3)] ⟨rfl, rfl, rfl, rfl, trivial⟩ ?_
      exact ok5_gainOf_43 l hS  h0 h
    · rw [if_neg hc2] at h
      refine mm_aload_n d5_gainOf_10 rfl ?_
      refine mm_getR fl_X5_36 d5_gainOf_11 (mm_wtR hS 102 h0 rfl rfl) ?_
      refine mm_getR fl_X5_62 d5_gainOf_14 (mm_wtR hS 101 (mm_wtT hS 0 2 h0 rfl) rfl rfl) ?_
      refine mm_iload_n d5_gainOf_17 rfl ?_
      refine mm_iload_n d5_gainOf_18 rfl ?_
      obtain ⟨o3, hk3, h⟩ := mm_bd h
      refine mm_cVi 1 (As := [.int v1, .int v3]) (ok1_knows l hS (mm_wtT hS 2 1 (mm_wtT hS 0 2 h0 rfl) rfl) hk3) lk_X5_86 rfl d5_gainOf_19 (mm_room rfl rfl) rfl (mm_wtT hS 2 1 (mm_wtT hS 0 2 h0 rfl) rfl) rfl rfl ?_
      refine mm_if_ne (tgt := 43) d5_gainOf_22 (by decide) (fun hc4 => ?_) (fun hc4 => ?_)
      · rw [if_neg hc4] at h
        refine mm_sub [(0, .ref v0), (1, .int v1), (2, .int v2), (3, .int v3)] ⟨rfl, rfl, rfl, rfl, trivial⟩ ?_
        exact ok5_gainOf_43 l hS  h0 h
      · rw [if_pos hc4] at h
        refine mm_aload_n d5_gainOf_25 rfl ?_
        refine mm_getR fl_X5_36 d5_gainOf_26 (mm_wtR hS 102 h0 rfl rfl) ?_
        refine mm_getR fl_X5_43 d5_gainOf_29 (mm_wtR hS 100 (mm_wtT hS 0 2 h0 rfl) rfl rfl) ?_
        refine mm_iload_n d5_gainOf_32 rfl ?_
        obtain ⟨o5, hk5, h⟩ := mm_bd h
        refine mm_cVi 0 (As := [.int v3]) (ok0_isForbidden l hS (mm_wtT hS 0 0 (mm_wtT hS 0 2 h0 rfl) rfl) hk5) lk_X5_90 rfl d5_gainOf_33 (mm_room rfl rfl) rfl (mm_wtT hS 0 0 (mm_wtT hS 0 2 h0 rfl) rfl) rfl rfl ?_
        refine mm_if_ne (tgt := 43) d5_gainOf_36 (by decide) (fun hc6 => ?_) (fun hc6 => ?_)
        · rw [if_neg hc6] at h
          refine mm_sub [(0, .ref v0), (1, .int v1), (2, .int v2), (3, .int v3)] ⟨rfl, rfl, rfl, rfl, trivial⟩ ?_
          exact ok5_gainOf_43 l hS  h0 h
        · rw [if_pos hc6] at h
          refine mm_iconst (v := 1) d5_gainOf_39 (by decide +kernel) ?_
          refine mm_goto (tgt := 44) d5_gainOf_40 (by decide) ?_
          refine mm_sub [(0, .ref v0), (1, .int v1), (2, .int v2), (3, .int v3)] ⟨rfl, rfl, rfl, rfl, trivial⟩ ?_
          exact ok5_gainOf_44 l hS  h0 h
set_option maxHeartbeats 4000000 in
set_option maxRecDepth 100000 in
theorem ok5_walkOn_102 (l : Launch) {S : mm_Sh} (hS : mm_WT S) {n : Nat}  {d : Nat} {self : Nat → Int32 → Int32 → Int32 → mm_I → mm_J → Option (mm_I × mm_J)} (hself : ∀ {v0 : Nat} {v1 : Int32} {v2 : Int32} {v3 : Int32} (_ : mm_is S v0 5) {I : mm_I} {J : mm_J} {o : mm_I × mm_J}, self v0 v1 v2 v3 I J = some o → mm_C l (M5_walkOn d) S [.ref v0, .int v1, .int v2, .int v3] I J (mm_Qv o.1 o.2)) {rec48 : Nat → Int32 → Int32 → Int32 → Int32 → Int32 → mm_I → mm_J → Option (mm_I × mm_J)} (hrec48 : ∀ {v0 : Nat} {v1 : Int32} {v2 : Int32} {v3 : Int32} {v5 : Int32} {v6 : Int32} (_ : mm_is S v0 5) {I : mm_I} {J : mm_J} {o : mm_I × mm_J}, rec48 v0 v1 v2 v3 v5 v6 I J = some o → mm_W l (M5_walkOn (d + 1)) (mm_rm (mm_rk (M5_walkOn (d + 1)))) 0 0 S (mm_end S (mm_Qv o.1 o.2)) 48 [(0, .ref v0), (1, .int v1), (2, .int v2), (3, .int v3), (5, .int v5), (6, .int v6)] [] I J) {v0 : Nat} {v1 : Int32} {v2 : Int32} {v3 : Int32} {v5 : Int32} {v6 : Int32} (h0 : mm_is S v0 5) {I : mm_I} {J : mm_J} {o : mm_I × mm_J} (h : f5_walkOn_102 S n self rec48 v0 v1 v2 v3 v5 v6 I J = some o) : mm_W l (M5_walkOn (d + 1)) (mm_rm (mm_rk (M5_walkOn (d + 1)))) 0 0 S (mm_end S (mm_Qv o.1 o.2)) 102 [(0, .ref v0), (1, .int v1), (2, .int v2), (3, .int v3), (5, .int v5), (6, .int v6)] [] I J := by
  unfold f5_walkOn_102 at h
  refine mm_iinc (v := v6 + 1) d5_walkOn_102 rfl rfl rfl rfl ?_
  refine mm_goto (tgt := 48) d5_walkOn_105 (by decide) ?_
  refine mm_sub [(0, .ref v0), (1, .int v1), (2, .int v2), (3, .int v3), (5, .int v5), (6, .int (v6 + 1))] ⟨rfl, rfl, rfl, rfl, rfl, rfl, trivial⟩ ?_
  exact hrec48 h0 h
set_option maxHeartbeats 4000000 in
set_option maxRecDepth 100000 in
theorem ok5_walkOn_48_b (l : Launch) {S : mm_Sh} (hS : mm_WT S) {n : Nat}  {d : Nat} {self : Nat → Int32 → Int32 → Int32 → mm_I → mm_J → Option (mm_I × mm_J)} (hself : ∀ {v0 : Nat} {v1 : Int32} {v2 : Int32} {v3 : Int32} (_ : mm_is S v0 5) {I : mm_I} {J : mm_J} {o : mm_I × mm_J}, self v0 v1 v2 v3 I J = some o → mm_C l (M5_walkOn d) S [.ref v0, .int v1, .int v2, .int v3] I J (mm_Qv o.1 o.2)) {rec48 : Nat → Int32 → Int32 → Int32 → Int32 → Int32 → mm_I → mm_J → Option (mm_I × mm_J)} (hrec48 : ∀ {v0 : Nat} {v1 : Int32} {v2 : Int32} {v3 : Int32} {v5 : Int32} {v6 : Int32} (_ : mm_is S v0 5) {I : mm_I} {J : mm_J} {o : mm_I × mm_J}, rec48 v0 v1 v2 v3 v5 v6 I J = some o → mm_W l (M5_walkOn (d + 1)) (mm_rm (mm_rk (M5_walkOn (d + 1)))) 0 0 S (mm_end S (mm_Qv o.1 o.2)) 48 [(0, .ref v0), (1, .int v1), (2, .int v2), (3, .int v3), (5, .int v5), (6, .int v6)] [] I J) {v0 : Nat} {v1 : Int32} {v2 : Int32} {v3 : Int32} {v5 : Int32} {v6 : Int32} (h0 : mm_is S v0 5) {I : mm_I} {J : mm_J} {o : mm_I × mm_J} (h : f5_walkOn_48_b S n self rec48 v0 v1 v2 v3 v5 v6 I J = some o) : mm_W l (M5_walkOn (d + 1)) (mm_rm (mm_rk (M5_walkOn (d + 1)))) 0 0 S (mm_end S (mm_Qv o.1 o.2)) 48 [(0, .ref v0), (1, .int v1), (2, .int v2), (3, .int v3), (5, .int v5), (6, .int v6)] [] I J := by
  unfold f5_walkOn_48_b at h
  refine mm_iload d5_walkOn_48 rfl ?_
  refine mm_bipush (v := 8) d5_walkOn_50 (by decide +kernel) ?_
  refine mm_icmp_ge (tgt := 108) d5_walkOn_52 (by decide) (fun hc1 => ?_) (fun hc1 => ?_)
  · rw [if_pos hc1] at h
    have h := Option.some.inj h
    subst h
    exact mm_vret rfl d5_walkOn_108 ⟨rfl, rfl, rfl⟩
  · rw [if_neg hc1] at h
    refine mm_aload_n d5_walkOn_55 rfl ?_
    refine mm_iload d5_walkOn_56 rfl ?_
    refine mm_iload d5_walkOn_58 rfl ?_
    obtain ⟨o2, hk2, h⟩ := mm_bd h
    refine mm_cVi 5 (As := [.int v5, .int v6]) (ok5_gainFrom l hS h0 hk2) lk_X5_102 rfl d5_walkOn_60 (mm_roomd (by simp only [mm_rk, M5_walkOn, M5_gainFrom]; omega) (by simp only [mm_rk, mm_nL, M5_walkOn, M5_gainFrom]; omega)) rfl h0 rfl rfl ?_
    refine mm_istore d5_walkOn_63 rfl rfl ?_
    refine mm_iload d5_walkOn_65 rfl ?_
    refine mm_if_le (tgt := 102) d5_walkOn_67 (by decide) (fun hc3 => ?_) (fun hc3 => ?_)
    · rw [if_pos hc3] at h
      refine mm_sub [(0, .ref v0), (1, .int v1), (2, .int v2), (3, .int v3), (5, .int v5), (6, .int v6)] ⟨rfl, rfl, rfl, rfl, rfl, rfl, trivial⟩ ?_
      exact ok5_walkOn_102 l hS hself hrec48 h0 h
    · rw [if_neg hc3] at h
      refine mm_aload_n d5_walkOn_70 rfl ?_
      refine mm_iload d5_walkOn_71 rfl ?_
      refine mm_iload_n d5_walkOn_73 rfl ?_
      obtain ⟨o4, hk4, h⟩ := mm_bd h
      refine mm_cVi 5 (As := [.int v6, .int v1]) (ok5_isOnPath l hS h0 hk4) lk_X5_109 rfl d5_walkOn_74 (mm_roomd (by simp only [mm_rk, M5_walkOn, M5_isOnPath]; omega) (by simp only [mm_rk, mm_nL, M5_walkOn, M5_isOnPath]; omega)) rfl h0 rfl rfl ?_
      refine mm_if_ne (tgt := 102) d5_walkOn_77 (by decide) (fun hc5 => ?_) (fun hc5 => ?_)
      · rw [if_neg hc5] at h
        refine mm_sub [(0, .ref v0), (1, .int v1), (2, .int v2), (3, .int v3), (5, .int v5), (6, .int v6)] ⟨rfl, rfl, rfl, rfl, rfl, rfl, trivial⟩ ?_
        exact ok5_walkOn_102 l hS hself hrec48 h0 h
      · rw [if_pos hc5] at h
        refine mm_aload_n d5_walkOn_80 rfl ?_
        refine mm_getR fl_X5_23 d5_walkOn_81 (mm_wtR hS 106 h0 rfl rfl) ?_
        refine mm_iload_n d5_walkOn_84 rfl ?_
        refine mm_iload d5_walkOn_85 rfl ?_
        obtain ⟨o6, hk6, h⟩ := mm_bd h
        refine mm_cVv 6 (As := [.int v1, .int v6]) (ok6_put l hS (mm_wtT hS 3 6 h0 rfl) hk6) lk_X5_54 rfl d5_walkOn_87 (mm_roomd (by simp only [mm_rk, M5_walkOn, M6_put]; omega) (by simp only [mm_rk, mm_nL, M5_walkOn, M6_put]; omega)) rfl (mm_wtT hS 3 6 h0 rfl) rfl rfl ?_
        refine mm_aload_n d5_walkOn_90 rfl ?_
        refine mm_iload_n d5_walkOn_91 rfl ?_
        refine mm_iconst (v := 1) d5_walkOn_92 (by decide +kernel) ?_
        refine mm_iadd d5_walkOn_93 ?_
        refine mm_iload_n d5_walkOn_94 rfl ?_
        refine mm_iload_n d5_walkOn_95 rfl ?_
        refine mm_iload d5_walkOn_96 rfl ?_
        refine mm_iadd d5_walkOn_98 ?_
        obtain ⟨o7, hk7, h⟩ := mm_bd h
        refine mm_cSv (As := [.ref v0, .int (v1 + 1), .int v2, .int (v3 + o2)]) (hself h0 hk7) (lk_X5_58 _) rfl d5_walkOn_99 (mm_roomd (by simp only [mm_rk, M5_walkOn]; omega) (by simp only [mm_rk, mm_nL, M5_walkOn]; omega)) rfl rfl ?_
        refine mm_sub [(0, .ref v0), (1, .int v1), (2, .int v2), (3, .int v3), (5, .int v5), (6, .int v6)] ⟨rfl, rfl, rfl, rfl, rfl, rfl, trivial⟩ ?_
        exact ok5_walkOn_102 l hS hself hrec48 h0 h
set_option maxHeartbeats 4000000 in
set_option maxRecDepth 100000 in
theorem ok5_walkOn_48 (l : Launch) {S : mm_Sh} (hS : mm_WT S) {n : Nat}  {d : Nat} {self : Nat → Int32 → Int32 → Int32 → mm_I → mm_J → Option (mm_I × mm_J)} (hself : ∀ {v0 : Nat} {v1 : Int32} {v2 : Int32} {v3 : Int32} (_ : mm_is S v0 5) {I : mm_I} {J : mm_J} {o : mm_I × mm_J}, self v0 v1 v2 v3 I J = some o → mm_C l (M5_walkOn d) S [.ref v0, .int v1, .int v2, .int v3] I J (mm_Qv o.1 o.2)) : ∀ (k : Nat) {v0 : Nat} {v1 : Int32} {v2 : Int32} {v3 : Int32} {v5 : Int32} {v6 : Int32} (h0 : mm_is S v0 5) {I : mm_I} {J : mm_J} {o : mm_I × mm_J}, f5_walkOn_48 S n self k v0 v1 v2 v3 v5 v6 I J = some o → mm_W l (M5_walkOn (d + 1)) (mm_rm (mm_rk (M5_walkOn (d + 1)))) 0 0 S (mm_end S (mm_Qv o.1 o.2)) 48 [(0, .ref v0), (1, .int v1), (2, .int v2), (3, .int v3), (5, .int v5), (6, .int v6)] [] I J := by
  intro k
  induction k with
  | zero =>
    intros
    rename_i h
    cases h
  | succ k ih =>
    intro v0 v1 v2 v3 v5 v6 h0 I J o h
    exact ok5_walkOn_48_b l hS hself (fun {v0 v1 v2 v3 v5 v6} h0 {I J o} h => ih h0 h) h0 h
set_option maxHeartbeats 4000000 in
set_option maxRecDepth 100000 in
theorem ok5_walkOn_b (l : Launch) {S : mm_Sh} (hS : mm_WT S) {n : Nat}  {d : Nat} {self : Nat → Int32 → Int32 → Int32 → mm_I → mm_J → Option (mm_I × mm_J)} (hself : ∀ {v0 : Nat} {v1 : Int32} {v2 : Int32} {v3 : Int32} (_ : mm_is S v0 5) {I : mm_I} {J : mm_J} {o : mm_I × mm_J}, self v0 v1 v2 v3 I J = some o → mm_C l (M5_walkOn d) S [.ref v0, .int v1, .int v2, .int v3] I J (mm_Qv o.1 o.2)) {v0 : Nat} {v1 : Int32} {v2 : Int32} {v3 : Int32} (h0 : mm_is S v0 5) {I : mm_I} {J : mm_J} {o : mm_I × mm_J} (h : f5_walkOn_b S n self v0 v1 v2 v3 I J = some o) : mm_C l (M5_walkOn (d + 1)) S [.ref v0, .int v1, .int v2, .int v3] I J (mm_Qv o.1 o.2) := by
  unfold f5_walkOn_b at h
  refine mm_enter rfl (by exact (by decide +kernel : plainName (mm_y (M5_walkOn 0)).cls = true)) rfl ?_
  refine mm_aload_n d5_walkOn_0 rfl ?_
  refine mm_getR fl_X5_23 d5_walkOn_1 (mm_wtR hS 106 h0 rfl rfl) ?_
  refine mm_iconst (v := 0) d5_walkOn_4 (by decide +kernel) ?_
  obtain ⟨o1, hk1, h⟩ := mm_bd h
  refine mm_cVi 6 (As := [.int 0]) (ok6_at l hS (mm_wtT hS 3 6 h0 rfl) hk1) lk_X5_75 rfl d5_walkOn_5 (mm_roomd (by simp only [mm_rk, M5_walkOn, M6_at]; omega) (by simp only [mm_rk, mm_nL, M5_walkOn, M6_at]; omega)) rfl (mm_wtT hS 3 6 h0 rfl) rfl rfl ?_
  refine mm_istore d5_walkOn_8 rfl rfl ?_
  refine mm_aload_n d5_walkOn_10 rfl ?_
  refine mm_getR fl_X5_23 d5_walkOn_11 (mm_wtR hS 106 h0 rfl rfl) ?_
  refine mm_iload_n d5_walkOn_14 rfl ?_
  refine mm_iconst (v := 1) d5_walkOn_15 (by decide +kernel) ?_
  refine mm_isub d5_walkOn_16 ?_
  obtain ⟨o2, hk2, h⟩ := mm_bd h
  refine mm_cVi 6 (As := [.int (v1 - 1)]) (ok6_at l hS (mm_wtT hS 3 6 h0 rfl) hk2) lk_X5_75 rfl d5_walkOn_17 (mm_roomd (by simp only [mm_rk, M5_walkOn, M6_at]; omega) (by simp only [mm_rk, mm_nL, M5_walkOn, M6_at]; omega)) rfl (mm_wtT hS 3 6 h0 rfl) rfl rfl ?_
  refine mm_istore d5_walkOn_20 rfl rfl ?_
  refine mm_iload_n d5_walkOn_22 rfl ?_
  refine mm_iload_n d5_walkOn_23 rfl ?_
  refine mm_icmp_lt (tgt := 42) d5_walkOn_24 (by decide) (fun hc3 => ?_) (fun hc3 => ?_)
  · rw [if_pos hc3] at h
    refine mm_iload d5_walkOn_42 rfl ?_
    refine mm_iconst (v := 1) d5_walkOn_44 (by decide +kernel) ?_
    refine mm_iadd d5_walkOn_45 ?_
    refine mm_istore d5_walkOn_46 rfl rfl ?_
    refine mm_sub [(0, .ref v0), (1, .int v1), (2, .int v2), (3, .int v3), (5, .int o2), (6, .int (o1 + 1))] ⟨rfl, rfl, rfl, rfl, rfl, rfl, trivial⟩ ?_
    exact ok5_walkOn_48 l hS hself  n h0 h
  · rw [if_neg hc3] at h
    refine mm_aload_n d5_walkOn_27 rfl ?_
    refine mm_iload_n d5_walkOn_28 rfl ?_
    refine mm_iload_n d5_walkOn_29 rfl ?_
    refine mm_aload_n d5_walkOn_30 rfl ?_
    refine mm_iload d5_walkOn_31 rfl ?_
    refine mm_iload d5_walkOn_33 rfl ?_
    obtain ⟨o4, hk4, h⟩ := mm_bd h
    refine mm_cVi 5 (As := [.int o2, .int o1]) (ok5_gainFrom l hS h0 hk4) lk_X5_102 rfl d5_walkOn_35 (mm_roomd (by simp only [mm_rk, M5_walkOn, M5_gainFrom]; omega) (by simp only [mm_rk, mm_nL, M5_walkOn, M5_gainFrom]; omega)) rfl h0 rfl rfl ?_
    obtain ⟨o5, hk5, h⟩ := mm_bd h
    refine mm_cVv 5 (As := [.int v2, .int v3, .int o4]) (ok5_closeRing l hS h0 hk5) lk_X5_105 rfl d5_walkOn_38 (mm_roomd (by simp only [mm_rk, M5_walkOn, M5_closeRing]; omega) (by simp only [mm_rk, mm_nL, M5_walkOn, M5_closeRing]; omega)) rfl h0 rfl rfl ?_
    have h := Option.some.inj h
    subst h
    exact mm_vret rfl d5_walkOn_41 ⟨rfl, rfl, rfl⟩
set_option maxHeartbeats 4000000 in
set_option maxRecDepth 100000 in
theorem ok5_walkOn (l : Launch) {S : mm_Sh} (hS : mm_WT S) {n : Nat} : ∀ (d : Nat) {v0 : Nat} {v1 : Int32} {v2 : Int32} {v3 : Int32} (h0 : mm_is S v0 5) {I : mm_I} {J : mm_J} {o : mm_I × mm_J}, f5_walkOn d S n v0 v1 v2 v3 I J = some o → mm_C l (M5_walkOn d) S [.ref v0, .int v1, .int v2, .int v3] I J (mm_Qv o.1 o.2) := by
  intro d
  induction d with
  | zero =>
    intros
    rename_i h
    cases h
  | succ d ih =>
    intro v0 v1 v2 v3 h0 I J o h
    exact ok5_walkOn_b l hS (fun {v0 v1 v2 v3} h0 {I J o} h => ih h0 h) h0 h
set_option maxHeartbeats 4000000 in
set_option maxRecDepth 100000 in
theorem ok8_firstWrong_2_b (l : Launch) {S : mm_Sh} (hS : mm_WT S) {n : Nat}  {rec2 : Nat → Nat → Int32 → mm_I → mm_J → Option (Int32)} (hrec2 : ∀ {v0 : Nat} {v1 : Nat} {v2 : Int32} (_ : mm_is S v0 8) (_ : mm_is S v1 1) {I : mm_I} {J : mm_J} {o : Int32}, rec2 v0 v1 v2 I J = some o → mm_W l M8_firstWrong (mm_rm (mm_rk M8_firstWrong)) 0 0 S (mm_end S (mm_Qi o I J)) 2 [(0, .ref v0), (1, .ref v1), (2, .int v2)] [] I J) {v0 : Nat} {v1 : Nat} {v2 : Int32} (h0 : mm_is S v0 8) (h1 : mm_is S v1 1) {I : mm_I} {J : mm_J} {o : Int32} (h : f8_firstWrong_2_b S n rec2 v0 v1 v2 I J = some o) : mm_W l M8_firstWrong (mm_rm (mm_rk M8_firstWrong)) 0 0 S (mm_end S (mm_Qi o I J)) 2 [(0, .ref v0), (1, .ref v1), (2, .int v2)] [] I J := by
  unfold f8_firstWrong_2_b at h
  refine mm_iload_n d8_firstWrong_2 rfl ?_
  refine mm_aload_n d8_firstWrong_3 rfl ?_
  refine mm_getI fl_X8_39 d8_firstWrong_4 (mm_wtI hS h0 rfl) ?_
  refine mm_icmp_ge (tgt := 49) d8_firstWrong_7 (by decide) (fun hc1 => ?_) (fun hc1 => ?_)
  · rw [if_pos hc1] at h
    refine mm_iconst (v := (-1)) d8_firstWrong_49 (by decide +kernel) ?_
    have h := Option.some.inj h
    subst h
    exact mm_iret rfl d8_firstWrong_50 ⟨rfl, rfl, rfl⟩
  · rw [if_neg hc1] at h
    refine mm_aload_n d8_firstWrong_10 rfl ?_
    refine mm_aload_n d8_firstWrong_11 rfl ?_
    refine mm_getR fl_X8_26 d8_firstWrong_12 (mm_wtR hS 106 h0 rfl rfl) ?_
    refine mm_iload_n d8_firstWrong_15 rfl ?_
    obtain ⟨o2, hk2, h⟩ := mm_bd h
    refine mm_cVi 6 (As := [.int v2]) (ok6_at l hS (mm_wtT hS 3 6 h0 rfl) hk2) lk_X8_55 rfl d8_firstWrong_16 (mm_room rfl rfl) rfl (mm_wtT hS 3 6 h0 rfl) rfl rfl ?_
    refine mm_aload_n d8_firstWrong_19 rfl ?_
    refine mm_getR fl_X8_29 d8_firstWrong_20 (mm_wtR hS 106 h0 rfl rfl) ?_
    refine mm_iload_n d8_firstWrong_23 rfl ?_
    obtain ⟨o3, hk3, h⟩ := mm_bd h
    refine mm_cVi 6 (As := [.int v2]) (ok6_at l hS (mm_wtT hS 4 6 h0 rfl) hk3) lk_X8_55 rfl d8_firstWrong_24 (mm_room rfl rfl) rfl (mm_wtT hS 4 6 h0 rfl) rfl rfl ?_
    obtain ⟨o4, hk4, h⟩ := mm_bd h
    refine mm_cVi 1 (As := [.int o2, .int o3]) (ok1_skillOf l hS h1 hk4) lk_X8_80 rfl d8_firstWrong_27 (mm_room rfl rfl) rfl h1 rfl rfl ?_
    refine mm_aload_n d8_firstWrong_30 rfl ?_
    refine mm_getR fl_X8_32 d8_firstWrong_31 (mm_wtR hS 106 h0 rfl rfl) ?_
    refine mm_iload_n d8_firstWrong_34 rfl ?_
    obtain ⟨o5, hk5, h⟩ := mm_bd h
    refine mm_cVi 6 (As := [.int v2]) (ok6_at l hS (mm_wtT hS 5 6 h0 rfl) hk5) lk_X8_55 rfl d8_firstWrong_35 (mm_room rfl rfl) rfl (mm_wtT hS 5 6 h0 rfl) rfl rfl ?_
    refine mm_icmp_eq (tgt := 43) d8_firstWrong_38 (by decide) (fun hc6 => ?_) (fun hc6 => ?_)
    · rw [if_pos hc6] at h
      refine mm_iinc (v := v2 + 1) d8_firstWrong_43 rfl rfl rfl rfl ?_
      refine mm_goto (tgt := 2) d8_firstWrong_46 (by decide) ?_
      refine mm_sub [(0, .ref v0), (1, .ref v1), (2, .int (v2 + 1))] ⟨rfl, rfl, rfl, trivial⟩ ?_
      exact hrec2 h0 h1 h
    · rw [if_neg hc6] at h
      refine mm_iload_n d8_firstWrong_41 rfl ?_
      have h := Option.some.inj h
      subst h
      exact mm_iret rfl d8_firstWrong_42 ⟨rfl, rfl, rfl⟩
set_option maxHeartbeats 4000000 in
set_option maxRecDepth 100000 in
theorem ok8_firstWrong_2 (l : Launch) {S : mm_Sh} (hS : mm_WT S) {n : Nat}  : ∀ (k : Nat) {v0 : Nat} {v1 : Nat} {v2 : Int32} (h0 : mm_is S v0 8) (h1 : mm_is S v1 1) {I : mm_I} {J : mm_J} {o : Int32}, f8_firstWrong_2 S n k v0 v1 v2 I J = some o → mm_W l M8_firstWrong (mm_rm (mm_rk M8_firstWrong)) 0 0 S (mm_end S (mm_Qi o I J)) 2 [(0, .ref v0), (1, .ref v1), (2, .int v2)] [] I J := by
  intro k
  induction k with
  | zero =>
    intros
    rename_i h
    cases h
  | succ k ih =>
    intro v0 v1 v2 h0 h1 I J o h
    exact ok8_firstWrong_2_b l hS (fun {v0 v1 v2} h0 h1 {I J o} h => ih h0 h1 h) h0 h1 h
set_option maxHeartbeats 4000000 in
set_option maxRecDepth 100000 in
theorem ok8_firstWrong (l : Launch) {S : mm_Sh} (hS : mm_WT S) {n : Nat}  {v0 : Nat} {v1 : Nat} (h0 : mm_is S v0 8) (h1 : mm_is S v1 1) {I : mm_I} {J : mm_J} {o : Int32} (h : f8_firstWrong S n v0 v1 I J = some o) : mm_C l M8_firstWrong S [.ref v0, .ref v1] I J (mm_Qi o I J) := by
  unfold f8_firstWrong at h
  refine mm_enter rfl (by decide +kernel) rfl ?_
  refine mm_iconst (v := 0) d8_firstWrong_0 (by decide +kernel) ?_
  refine mm_istore_n d8_firstWrong_1 rfl rfl ?_
  refine mm_sub [(0, .ref v0), (1, .ref v1), (2, .int 0)] ⟨rfl, rfl, rfl, trivial⟩ ?_
  exact ok8_firstWrong_2 l hS  n h0 h1 h
set_option maxHeartbeats 4000000 in
set_option maxRecDepth 100000 in
theorem ok9_openClause_19 (l : Launch) {S : mm_Sh} (hS : mm_WT S) {n : Nat}  {v0 : Nat} (h0 : mm_is S v0 9) {I : mm_I} {J : mm_J} {o : mm_I × mm_J} (h : f9_openClause_19 S n v0 I J = some o) : mm_W l M9_openClause (mm_rm (mm_rk M9_openClause)) 0 0 S (mm_end S (mm_Qv o.1 o.2)) 19 [(0, .ref v0)] [] I J := by
  unfold f9_openClause_19 at h
  refine mm_aload_n d9_openClause_19 rfl ?_
  refine mm_getR fl_X9_19 d9_openClause_20 (mm_wtR hS 104 h0 rfl rfl) ?_
  obtain ⟨o1, hk1, h⟩ := mm_bd h
  refine mm_cVv 4 (As := []) (ok4_advance l hS (mm_wtT hS 0 4 h0 rfl) hk1) lk_X9_100 rfl d9_openClause_23 (mm_room rfl rfl) rfl (mm_wtT hS 0 4 h0 rfl) rfl rfl ?_
  have h := Option.some.inj h
  subst h
  exact mm_vret rfl d9_openClause_26 ⟨rfl, rfl, rfl⟩
set_option maxHeartbeats 4000000 in
set_option maxRecDepth 100000 in
theorem ok9_openClause (l : Launch) {S : mm_Sh} (hS : mm_WT S) {n : Nat}  {v0 : Nat} {v1 : Int32} (h0 : mm_is S v0 9) {I : mm_I} {J : mm_J} {o : mm_I × mm_J} (h : f9_openClause S n v0 v1 I J = some o) : mm_C l M9_openClause S [.ref v0, .int v1] I J (mm_Qv o.1 o.2) := by
  unfold f9_openClause at h
  refine mm_enter rfl (by decide +kernel) rfl ?_
  refine mm_iload_n d9_openClause_0 rfl ?_
  refine mm_if_ne (tgt := 19) d9_openClause_1 (by decide) (fun hc1 => ?_) (fun hc1 => ?_)
  · rw [if_neg hc1] at h
    refine mm_sub [(0, .ref v0)] ⟨rfl, trivial⟩ ?_
    exact ok9_openClause_19 l hS  h0 h
  · rw [if_pos hc1] at h
    refine mm_aload_n d9_openClause_4 rfl ?_
    refine mm_getR fl_X9_19 d9_openClause_5 (mm_wtR hS 104 h0 rfl rfl) ?_
    refine mm_iconst (v := 3) d9_openClause_8 (by decide +kernel) ?_
    refine mm_aload_n d9_openClause_9 rfl ?_
    refine mm_getR fl_X9_19 d9_openClause_10 (mm_wtR hS 104 h0 rfl rfl) ?_
    refine mm_getI fl_X9_70 d9_openClause_13 (mm_wtI hS (mm_wtT hS 0 4 h0 rfl) rfl) ?_
    obtain ⟨o2, hk2, h⟩ := mm_bd h
    refine mm_cVv 4 (As := [.int 3, .int (I (mm_rf S v0 0) 3)]) (ok4_blame l hS (mm_wtT hS 0 4 h0 rfl) hk2) lk_X9_73 rfl d9_openClause_16 (mm_room rfl rfl) rfl (mm_wtT hS 0 4 h0 rfl) rfl rfl ?_
    refine mm_sub [(0, .ref v0)] ⟨rfl, trivial⟩ ?_
    exact ok9_openClause_19 l hS  h0 h
