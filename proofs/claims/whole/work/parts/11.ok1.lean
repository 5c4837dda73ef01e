/-! ===== the machine does what the functions say: written by wip/whole/gen.py ===== -/
set_option maxHeartbeats 4000000 in
set_option maxRecDepth 100000 in
theorem ok0_clear (l : Launch) {S : mm_Sh} (hS : mm_WT S) {n : Nat}  {v0 : Nat} (h0 : mm_is S v0 0) {I : mm_I} {J : mm_J} {o : mm_I × mm_J} (h : f0_clear S n v0 I J = some o) : mm_C l M0_clear S [.ref v0] I J (mm_Qv o.1 o.2) := by
  unfold f0_clear at h
  refine mm_enter rfl (by decide +kernel) rfl ?_
  refine mm_aload_n d0_clear_0 rfl ?_
  refine mm_getR fl_X0_29 d0_clear_1 (mm_wtR hS 106 h0 rfl rfl) ?_
  refine mm_iconst (v := 0) d0_clear_4 (by decide +kernel) ?_
  obtain ⟨o1, hk1, h⟩ := mm_bd h
  refine mm_cVv 6 (As := [.int 0]) (ok6_fill l hS (mm_wtT hS 4 6 h0 rfl) hk1) lk_X0_47 rfl d0_clear_5 (mm_room rfl rfl) rfl (mm_wtT hS 4 6 h0 rfl) rfl rfl ?_
  refine mm_aload_n d0_clear_8 rfl ?_
  refine mm_iconst (v := 0) d0_clear_9 (by decide +kernel) ?_
  refine mm_putI fp_X0_32 d0_clear_10 (mm_wtI hS h0 rfl) ?_
  refine mm_aload_n d0_clear_13 rfl ?_
  refine mm_iconst (v := 0) d0_clear_14 (by decide +kernel) ?_
  refine mm_putI fp_X0_36 d0_clear_15 (mm_wtI hS h0 rfl) ?_
  have h := Option.some.inj h
  subst h
  exact mm_vret rfl d0_clear_18 ⟨rfl, rfl, rfl⟩
set_option maxHeartbeats 4000000 in
set_option maxRecDepth 100000 in
theorem ok0_copyFrom (l : Launch) {S : mm_Sh} (hS : mm_WT S) {n : Nat}  {v0 : Nat} {v1 : Nat} (h0 : mm_is S v0 0) (h1 : mm_is S v1 0) {I : mm_I} {J : mm_J} {o : mm_I × mm_J} (h : f0_copyFrom S n v0 v1 I J = some o) : mm_C l M0_copyFrom S [.ref v0, .ref v1] I J (mm_Qv o.1 o.2) := by
  unfold f0_copyFrom at h
  refine mm_enter rfl (by decide +kernel) rfl ?_
  refine mm_aload_n d0_copyFrom_0 rfl ?_
  refine mm_getR fl_X0_14 d0_copyFrom_1 (mm_wtR hS 106 h0 rfl rfl) ?_
  refine mm_aload_n d0_copyFrom_4 rfl ?_
  refine mm_getR fl_X0_14 d0_copyFrom_5 (mm_wtR hS 106 h1 rfl rfl) ?_
  obtain ⟨o1, hk1, h⟩ := mm_bd h
  refine mm_cVv 6 (As := [.ref (mm_rf S v1 0)]) (ok6_copyFrom l hS (mm_wtT hS 0 6 h0 rfl) (mm_wtT hS 0 6 h1 rfl) hk1) lk_X0_50 rfl d0_copyFrom_8 (mm_room rfl rfl) rfl (mm_wtT hS 0 6 h0 rfl) rfl rfl ?_
  refine mm_aload_n d0_copyFrom_11 rfl ?_
  refine mm_getR fl_X0_20 d0_copyFrom_12 (mm_wtR hS 106 h0 rfl rfl) ?_
  refine mm_aload_n d0_copyFrom_15 rfl ?_
  refine mm_getR fl_X0_20 d0_copyFrom_16 (mm_wtR hS 106 h1 rfl rfl) ?_
  obtain ⟨o2, hk2, h⟩ := mm_bd h
  refine mm_cVv 6 (As := [.ref (mm_rf S v1 1)]) (ok6_copyFrom l hS (mm_wtT hS 1 6 h0 rfl) (mm_wtT hS 1 6 h1 rfl) hk2) lk_X0_50 rfl d0_copyFrom_19 (mm_room rfl rfl) rfl (mm_wtT hS 1 6 h0 rfl) rfl rfl ?_
  refine mm_aload_n d0_copyFrom_22 rfl ?_
  refine mm_getR fl_X0_23 d0_copyFrom_23 (mm_wtR hS 106 h0 rfl rfl) ?_
  refine mm_aload_n d0_copyFrom_26 rfl ?_
  refine mm_getR fl_X0_23 d0_copyFrom_27 (mm_wtR hS 106 h1 rfl rfl) ?_
  obtain ⟨o3, hk3, h⟩ := mm_bd h
  refine mm_cVv 6 (As := [.ref (mm_rf S v1 2)]) (ok6_copyFrom l hS (mm_wtT hS 2 6 h0 rfl) (mm_wtT hS 2 6 h1 rfl) hk3) lk_X0_50 rfl d0_copyFrom_30 (mm_room rfl rfl) rfl (mm_wtT hS 2 6 h0 rfl) rfl rfl ?_
  refine mm_aload_n d0_copyFrom_33 rfl ?_
  refine mm_getR fl_X0_26 d0_copyFrom_34 (mm_wtR hS 106 h0 rfl rfl) ?_
  refine mm_aload_n d0_copyFrom_37 rfl ?_
  refine mm_getR fl_X0_26 d0_copyFrom_38 (mm_wtR hS 106 h1 rfl rfl) ?_
  obtain ⟨o4, hk4, h⟩ := mm_bd h
  refine mm_cVv 6 (As := [.ref (mm_rf S v1 3)]) (ok6_copyFrom l hS (mm_wtT hS 3 6 h0 rfl) (mm_wtT hS 3 6 h1 rfl) hk4) lk_X0_50 rfl d0_copyFrom_41 (mm_room rfl rfl) rfl (mm_wtT hS 3 6 h0 rfl) rfl rfl ?_
  refine mm_aload_n d0_copyFrom_44 rfl ?_
  refine mm_getR fl_X0_29 d0_copyFrom_45 (mm_wtR hS 106 h0 rfl rfl) ?_
  refine mm_aload_n d0_copyFrom_48 rfl ?_
  refine mm_getR fl_X0_29 d0_copyFrom_49 (mm_wtR hS 106 h1 rfl rfl) ?_
  obtain ⟨o5, hk5, h⟩ := mm_bd h
  refine mm_cVv 6 (As := [.ref (mm_rf S v1 4)]) (ok6_copyFrom l hS (mm_wtT hS 4 6 h0 rfl) (mm_wtT hS 4 6 h1 rfl) hk5) lk_X0_50 rfl d0_copyFrom_52 (mm_room rfl rfl) rfl (mm_wtT hS 4 6 h0 rfl) rfl rfl ?_
  refine mm_aload_n d0_copyFrom_55 rfl ?_
  refine mm_aload_n d0_copyFrom_56 rfl ?_
  refine mm_getI fl_X0_32 d0_copyFrom_57 (mm_wtI hS h1 rfl) ?_
  refine mm_putI fp_X0_32 d0_copyFrom_60 (mm_wtI hS h0 rfl) ?_
  refine mm_aload_n d0_copyFrom_63 rfl ?_
  refine mm_aload_n d0_copyFrom_64 rfl ?_
  refine mm_getI fl_X0_36 d0_copyFrom_65 (mm_wtI hS h1 rfl) ?_
  refine mm_putI fp_X0_36 d0_copyFrom_68 (mm_wtI hS h0 rfl) ?_
  have h := Option.some.inj h
  subst h
  exact mm_vret rfl d0_copyFrom_71 ⟨rfl, rfl, rfl⟩
set_option maxHeartbeats 4000000 in
set_option maxRecDepth 100000 in
theorem ok0_isForbidden_17 (l : Launch) {S : mm_Sh} (hS : mm_WT S)  {s0 : Int32}  {I : mm_I} {J : mm_J} {o : Int32} (h : f0_isForbidden_17 S s0 I J = some o) : mm_W l M0_isForbidden (mm_rm (mm_rk M0_isForbidden)) 0 0 S (mm_end S (mm_Qi o I J)) 17 [] [.int s0] I J := by
  unfold f0_isForbidden_17 at h
  obtain ⟨hb1, h⟩ := mm_gd h
  have h := Option.some.inj h
  subst h
  exact mm_zret rfl d0_isForbidden_17 (mm_bit_ok hb1) ⟨rfl, rfl, rfl⟩
set_option maxHeartbeats 4000000 in
set_option maxRecDepth 100000 in
theorem ok0_isForbidden (l : Launch) {S : mm_Sh} (hS : mm_WT S)  {v0 : Nat} {v1 : Int32} (h0 : mm_is S v0 0) {I : mm_I} {J : mm_J} {o : Int32} (h : f0_isForbidden S v0 v1 I J = some o) : mm_C l M0_isForbidden S [.ref v0, .int v1] I J (mm_Qi o I J) := by
  unfold f0_isForbidden at h
  refine mm_enter rfl (by decide +kernel) rfl ?_
  refine mm_aload_n d0_isForbidden_0 rfl ?_
  refine mm_getR fl_X0_14 d0_isForbidden_1 (mm_wtR hS 106 h0 rfl rfl) ?_
  refine mm_iload_n d0_isForbidden_4 rfl ?_
  obtain ⟨o1, hk1, h⟩ := mm_bd h
  refine mm_cVi 6 (As := [.int v1]) (ok6_at l hS (mm_wtT hS 0 6 h0 rfl) hk1) lk_X0_43 rfl d0_isForbidden_5 (mm_room rfl rfl) rfl (mm_wtT hS 0 6 h0 rfl) rfl rfl ?_
  refine mm_iconst (v := 3) d0_isForbidden_8 (by decide +kernel) ?_
  refine mm_icmp_ne (tgt := 16) d0_isForbidden_9 (by decide) (fun hc2 => ?_) (fun hc2 => ?_)
  · rw [if_neg hc2] at h
    refine mm_iconst (v := 0) d0_isForbidden_16 (by decide +kernel) ?_
    refine mm_sub [] trivial ?_
    exact ok0_isForbidden_17 l hS   h
  · rw [if_pos hc2] at h
    refine mm_iconst (v := 1) d0_isForbidden_12 (by decide +kernel) ?_
    refine mm_goto (tgt := 17) d0_isForbidden_13 (by decide) ?_
    refine mm_sub [] trivial ?_
    exact ok0_isForbidden_17 l hS   h
set_option maxHeartbeats 4000000 in
set_option maxRecDepth 100000 in
theorem ok0_likeOf (l : Launch) {S : mm_Sh} (hS : mm_WT S)  {v0 : Nat} {v1 : Int32} {v2 : Int32} (h0 : mm_is S v0 0) {I : mm_I} {J : mm_J} {o : Int32} (h : f0_likeOf S v0 v1 v2 I J = some o) : mm_C l M0_likeOf S [.ref v0, .int v1, .int v2] I J (mm_Qi o I J) := by
  unfold f0_likeOf at h
  refine mm_enter rfl (by decide +kernel) rfl ?_
  refine mm_aload_n d0_likeOf_0 rfl ?_
  refine mm_getR fl_X0_29 d0_likeOf_1 (mm_wtR hS 106 h0 rfl rfl) ?_
  refine mm_iload_n d0_likeOf_4 rfl ?_
  refine mm_iload_n d0_likeOf_5 rfl ?_
  obtain ⟨o1, hk1, h⟩ := mm_bd h
  refine mm_cSi (As := [.int v1, .int v2]) (ok10_cell l hS hk1) lk_X0_39 rfl d0_likeOf_6 (mm_room rfl rfl) rfl rfl ?_
  obtain ⟨o2, hk2, h⟩ := mm_bd h
  refine mm_cVi 6 (As := [.int o1]) (ok6_at l hS (mm_wtT hS 4 6 h0 rfl) hk2) lk_X0_43 rfl d0_likeOf_9 (mm_room rfl rfl) rfl (mm_wtT hS 4 6 h0 rfl) rfl rfl ?_
  have h := Option.some.inj h
  subst h
  exact mm_iret rfl d0_likeOf_12 ⟨rfl, rfl, rfl⟩
set_option maxHeartbeats 4000000 in
set_option maxRecDepth 100000 in
theorem ok10_isKnownPair_27 (l : Launch) {S : mm_Sh} (hS : mm_WT S)  {s0 : Int32}  {I : mm_I} {J : mm_J} {o : Int32} (h : f10_isKnownPair_27 S s0 I J = some o) : mm_W l M10_isKnownPair (mm_rm (mm_rk M10_isKnownPair)) 0 0 S (mm_end S (mm_Qi o I J)) 27 [] [.int s0] I J := by
  unfold f10_isKnownPair_27 at h
  obtain ⟨hb1, h⟩ := mm_gd h
  have h := Option.some.inj h
  subst h
  exact mm_zret rfl d10_isKnownPair_27 (mm_bit_ok hb1) ⟨rfl, rfl, rfl⟩
set_option maxHeartbeats 4000000 in
set_option maxRecDepth 100000 in
theorem ok10_isKnownPair_26 (l : Launch) {S : mm_Sh} (hS : mm_WT S)    {I : mm_I} {J : mm_J} {o : Int32} (h : f10_isKnownPair_26 S  I J = some o) : mm_W l M10_isKnownPair (mm_rm (mm_rk M10_isKnownPair)) 0 0 S (mm_end S (mm_Qi o I J)) 26 [] [] I J := by
  unfold f10_isKnownPair_26 at h
  refine mm_iconst (v := 0) d10_isKnownPair_26 (by decide +kernel) ?_
  refine mm_sub [] trivial ?_
  exact ok10_isKnownPair_27 l hS   h
set_option maxHeartbeats 4000000 in
set_option maxRecDepth 100000 in
theorem ok10_isKnownPair (l : Launch) {S : mm_Sh} (hS : mm_WT S)  {v0 : Nat} {v1 : Int32} {v2 : Int32} (h0 : mm_is S v0 10) {I : mm_I} {J : mm_J} {o : Int32} (h : f10_isKnownPair S v0 v1 v2 I J = some o) : mm_C l M10_isKnownPair S [.ref v0, .int v1, .int v2] I J (mm_Qi o I J) := by
  unfold f10_isKnownPair at h
  refine mm_enter rfl (by decide +kernel) rfl ?_
  refine mm_aload_n d10_isKnownPair_0 rfl ?_
  refine mm_getR fl_X10_19 d10_isKnownPair_1 (mm_wtR hS 100 h0 rfl rfl) ?_
  refine mm_iload_n d10_isKnownPair_4 rfl ?_
  obtain ⟨o1, hk1, h⟩ := mm_bd h
  refine mm_cVi 0 (As := [.int v1]) (ok0_hasPerson l hS (mm_wtT hS 1 0 h0 rfl) hk1) lk_X10_241 rfl d10_isKnownPair_5 (mm_room rfl rfl) rfl (mm_wtT hS 1 0 h0 rfl) rfl rfl ?_
  refine mm_if_eq (tgt := 26) d10_isKnownPair_8 (by decide) (fun hc2 => ?_) (fun hc2 => ?_)
  · rw [if_pos hc2] at h
    refine mm_sub [] trivial ?_
    exact ok10_isKnownPair_26 l hS   h
  · rw [if_neg hc2] at h
    refine mm_aload_n d10_isKnownPair_11 rfl ?_
    refine mm_getR fl_X10_19 d10_isKnownPair_12 (mm_wtR hS 100 h0 rfl rfl) ?_
    refine mm_iload_n d10_isKnownPair_15 rfl ?_
    obtain ⟨o3, hk3, h⟩ := mm_bd h
    refine mm_cVi 0 (As := [.int v2]) (ok0_hasTrade l hS (mm_wtT hS 1 0 h0 rfl) hk3) lk_X10_216 rfl d10_isKnownPair_16 (mm_room rfl rfl) rfl (mm_wtT hS 1 0 h0 rfl) rfl rfl ?_
    refine mm_if_eq (tgt := 26) d10_isKnownPair_19 (by decide) (fun hc4 => ?_) (fun hc4 => ?_)
    · rw [if_pos hc4] at h
      refine mm_sub [] trivial ?_
      exact ok10_isKnownPair_26 l hS   h
    · rw [if_neg hc4] at h
      refine mm_iconst (v := 1) d10_isKnownPair_22 (by decide +kernel) ?_
      refine mm_goto (tgt := 27) d10_isKnownPair_23 (by decide) ?_
      refine mm_sub [] trivial ?_
      exact ok10_isKnownPair_27 l hS   h
set_option maxHeartbeats 4000000 in
set_option maxRecDepth 100000 in
theorem ok10_leastOf_2_b (l : Launch) {S : mm_Sh} (hS : mm_WT S) {n : Nat}  {rec2 : Int32 → Int32 → mm_I → mm_J → Option (Int32)} (hrec2 : ∀ {v0 : Int32} {v1 : Int32}  {I : mm_I} {J : mm_J} {o : Int32}, rec2 v0 v1 I J = some o → mm_W l M10_leastOf (mm_rm (mm_rk M10_leastOf)) 0 0 S (mm_end S (mm_Qi o I J)) 2 [(0, .int v0), (1, .int v1)] [] I J) {v0 : Int32} {v1 : Int32}  {I : mm_I} {J : mm_J} {o : Int32} (h : f10_leastOf_2_b S n rec2 v0 v1 I J = some o) : mm_W l M10_leastOf (mm_rm (mm_rk M10_leastOf)) 0 0 S (mm_end S (mm_Qi o I J)) 2 [(0, .int v0), (1, .int v1)] [] I J := by
  unfold f10_leastOf_2_b at h
  refine mm_iload_n d10_leastOf_2 rfl ?_
  refine mm_bipush (v := 8) d10_leastOf_3 (by decide +kernel) ?_
  refine mm_icmp_ge (tgt := 24) d10_leastOf_5 (by decide) (fun hc1 => ?_) (fun hc1 => ?_)
  · rw [if_pos hc1] at h
    refine mm_iconst (v := (-1)) d10_leastOf_24 (by decide +kernel) ?_
    have h := Option.some.inj h
    subst h
    exact mm_iret rfl d10_leastOf_25 ⟨rfl, rfl, rfl⟩
  · rw [if_neg hc1] at h
    refine mm_iload_n d10_leastOf_8 rfl ?_
    refine mm_iload_n d10_leastOf_9 rfl ?_
    obtain ⟨o2, hk2, h⟩ := mm_bd h
    refine mm_cSi (As := [.int v0, .int v1]) (ok10_has l hS hk2) lk_X10_263 rfl d10_leastOf_10 (mm_room rfl rfl) rfl rfl ?_
    refine mm_if_eq (tgt := 18) d10_leastOf_13 (by decide) (fun hc3 => ?_) (fun hc3 => ?_)
    · rw [if_pos hc3] at h
      refine mm_iinc (v := v1 + 1) d10_leastOf_18 rfl rfl rfl rfl ?_
      refine mm_goto (tgt := 2) d10_leastOf_21 (by decide) ?_
      refine mm_sub [(0, .int v0), (1, .int (v1 + 1))] ⟨rfl, rfl, trivial⟩ ?_
      exact hrec2  h
    · rw [if_neg hc3] at h
      refine mm_iload_n d10_leastOf_16 rfl ?_
      have h := Option.some.inj h
      subst h
      exact mm_iret rfl d10_leastOf_17 ⟨rfl, rfl, rfl⟩
set_option maxHeartbeats 4000000 in
set_option maxRecDepth 100000 in
theorem ok10_leastOf_2 (l : Launch) {S : mm_Sh} (hS : mm_WT S) {n : Nat}  : ∀ (k : Nat) {v0 : Int32} {v1 : Int32}  {I : mm_I} {J : mm_J} {o : Int32}, f10_leastOf_2 S n k v0 v1 I J = some o → mm_W l M10_leastOf (mm_rm (mm_rk M10_leastOf)) 0 0 S (mm_end S (mm_Qi o I J)) 2 [(0, .int v0), (1, .int v1)] [] I J := by
  intro k
  induction k with
  | zero =>
    intros
    rename_i h
    cases h
  | succ k ih =>
    intro v0 v1  I J o h
    exact ok10_leastOf_2_b l hS (fun {v0 v1}  {I J o} h => ih  h)  h
set_option maxHeartbeats 4000000 in
set_option maxRecDepth 100000 in
theorem ok10_leastOf (l : Launch) {S : mm_Sh} (hS : mm_WT S) {n : Nat}  {v0 : Int32}  {I : mm_I} {J : mm_J} {o : Int32} (h : f10_leastOf S n v0 I J = some o) : mm_C l M10_leastOf S [.int v0] I J (mm_Qi o I J) := by
  unfold f10_leastOf at h
  refine mm_enter rfl (by decide +kernel) rfl ?_
  refine mm_iconst (v := 0) d10_leastOf_0 (by decide +kernel) ?_
  refine mm_istore_n d10_leastOf_1 rfl rfl ?_
  refine mm_sub [(0, .int v0), (1, .int 0)] ⟨rfl, rfl, trivial⟩ ?_
  exact ok10_leastOf_2 l hS  n  h
set_option maxHeartbeats 4000000 in
set_option maxRecDepth 100000 in
theorem ok10_tear (l : Launch) {S : mm_Sh} (hS : mm_WT S)  {v0 : Nat} (h0 : mm_is S v0 10) {I : mm_I} {J : mm_J} {o : Int32 × mm_I × mm_J} (h : f10_tear S v0 I J = some o) : mm_C l M10_tear S [.ref v0] I J (mm_Qi o.1 o.2.1 o.2.2) := by
  unfold f10_tear at h
  refine mm_enter rfl (by decide +kernel) rfl ?_
  refine mm_aload_n d10_tear_0 rfl ?_
  refine mm_getR fl_X10_73 d10_tear_1 (mm_wtR hS 108 h0 rfl rfl) ?_
  refine mm_getI fl_X10_206 d10_tear_4 (mm_wtI hS (mm_wtT hS 13 8 h0 rfl) rfl) ?_
  refine mm_aload_n d10_tear_7 rfl ?_
  refine mm_getR fl_X10_73 d10_tear_8 (mm_wtR hS 108 h0 rfl rfl) ?_
  refine mm_getI fl_X10_209 d10_tear_11 (mm_wtI hS (mm_wtT hS 13 8 h0 rfl) rfl) ?_
  refine mm_iadd d10_tear_14 ?_
  refine mm_istore_n d10_tear_15 rfl rfl ?_
  refine mm_aload_n d10_tear_16 rfl ?_
  refine mm_getR fl_X10_73 d10_tear_17 (mm_wtR hS 108 h0 rfl rfl) ?_
  obtain ⟨o1, hk1, h⟩ := mm_bd h
  refine mm_cVv 8 (As := []) (ok8_clear l hS (mm_wtT hS 13 8 h0 rfl) hk1) lk_X10_163 rfl d10_tear_20 (mm_room rfl rfl) rfl (mm_wtT hS 13 8 h0 rfl) rfl rfl ?_
  refine mm_iload_n d10_tear_23 rfl ?_
  have h := Option.some.inj h
  subst h
  exact mm_iret rfl d10_tear_24 ⟨rfl, rfl, rfl⟩
set_option maxHeartbeats 4000000 in
set_option maxRecDepth 100000 in
theorem ok10_want (l : Launch) {S : mm_Sh} (hS : mm_WT S)  {v0 : Nat} {v1 : Int32} {v2 : Int32} (h0 : mm_is S v0 10) {I : mm_I} {J : mm_J} {o : Int32 × mm_I × mm_J} (h : f10_want S v0 v1 v2 I J = some o) : mm_C l M10_want S [.ref v0, .int v1, .int v2] I J (mm_Qi o.1 o.2.1 o.2.2) := by
  unfold f10_want at h
  refine mm_enter rfl (by decide +kernel) rfl ?_
  refine mm_aload_n d10_want_0 rfl ?_
  refine mm_getR fl_X10_19 d10_want_1 (mm_wtR hS 100 h0 rfl rfl) ?_
  refine mm_iload_n d10_want_4 rfl ?_
  obtain ⟨o1, hk1, h⟩ := mm_bd h
  refine mm_cVi 0 (As := [.int v1]) (ok0_hasTrade l hS (mm_wtT hS 1 0 h0 rfl) hk1) lk_X10_216 rfl d10_want_5 (mm_room rfl rfl) rfl (mm_wtT hS 1 0 h0 rfl) rfl rfl ?_
  refine mm_if_ne (tgt := 14) d10_want_8 (by decide) (fun hc2 => ?_) (fun hc2 => ?_)
  · rw [if_neg hc2] at h
    refine mm_iload_n d10_want_14 rfl ?_
    refine mm_iconst (v := 0) d10_want_15 (by decide +kernel) ?_
    refine mm_bipush (v := 8) d10_want_16 (by decide +kernel) ?_
    obtain ⟨o3, hk3, h⟩ := mm_bd h
    refine mm_cSi (As := [.int v2, .int 0, .int 8]) (ok10_within l hS hk3) lk_X10_120 rfl d10_want_18 (mm_room rfl rfl) rfl rfl ?_
    refine mm_if_ne (tgt := 27) d10_want_21 (by decide) (fun hc4 => ?_) (fun hc4 => ?_)
    · rw [if_neg hc4] at h
      refine mm_aload_n d10_want_27 rfl ?_
      refine mm_getR fl_X10_66 d10_want_28 (mm_wtR hS 106 h0 rfl rfl) ?_
      refine mm_iload_n d10_want_31 rfl ?_
      obtain ⟨o5, hk5, h⟩ := mm_bd h
      refine mm_cVi 6 (As := [.int v1]) (ok6_at l hS (mm_wtT hS 12 6 h0 rfl) hk5) lk_X10_224 rfl d10_want_32 (mm_room rfl rfl) rfl (mm_wtT hS 12 6 h0 rfl) rfl rfl ?_
      refine mm_istore_n d10_want_35 rfl rfl ?_
      refine mm_aload_n d10_want_36 rfl ?_
      refine mm_getR fl_X10_66 d10_want_37 (mm_wtR hS 106 h0 rfl rfl) ?_
      refine mm_iload_n d10_want_40 rfl ?_
      refine mm_iload_n d10_want_41 rfl ?_
      obtain ⟨o6, hk6, h⟩ := mm_bd h
      refine mm_cVv 6 (As := [.int v1, .int v2]) (ok6_put l hS (mm_wtT hS 12 6 h0 rfl) hk6) lk_X10_286 rfl d10_want_42 (mm_room rfl rfl) rfl (mm_wtT hS 12 6 h0 rfl) rfl rfl ?_
      refine mm_iload_n d10_want_45 rfl ?_
      have h := Option.some.inj h
      subst h
      exact mm_iret rfl d10_want_46 ⟨rfl, rfl, rfl⟩
    · rw [if_pos hc4] at h
      refine mm_ldc (v := (-1000000002)) d10_want_24 kX10_124 ?_
      have h := Option.some.inj h
      subst h
      exact mm_iret rfl d10_want_26 ⟨rfl, rfl, rfl⟩
  · rw [if_pos hc2] at h
    refine mm_ldc (v := (-1000000001)) d10_want_11 kX10_220 ?_
    have h := Option.some.inj h
    subst h
    exact mm_iret rfl d10_want_13 ⟨rfl, rfl, rfl⟩
set_option maxHeartbeats 4000000 in
set_option maxRecDepth 100000 in
theorem ok1_copyFrom (l : Launch) {S : mm_Sh} (hS : mm_WT S) {n : Nat}  {v0 : Nat} {v1 : Nat} (h0 : mm_is S v0 1) (h1 : mm_is S v1 1) {I : mm_I} {J : mm_J} {o : mm_I × mm_J} (h : f1_copyFrom S n v0 v1 I J = some o) : mm_C l M1_copyFrom S [.ref v0, .ref v1] I J (mm_Qv o.1 o.2) := by
  unfold f1_copyFrom at h
  refine mm_enter rfl (by decide +kernel) rfl ?_
  refine mm_aload_n d1_copyFrom_0 rfl ?_
  refine mm_getR fl_X1_14 d1_copyFrom_1 (mm_wtR hS 106 h0 rfl rfl) ?_
  refine mm_aload_n d1_copyFrom_4 rfl ?_
  refine mm_getR fl_X1_14 d1_copyFrom_5 (mm_wtR hS 106 h1 rfl rfl) ?_
  obtain ⟨o1, hk1, h⟩ := mm_bd h
  refine mm_cVv 6 (As := [.ref (mm_rf S v1 0)]) (ok6_copyFrom l hS (mm_wtT hS 0 6 h0 rfl) (mm_wtT hS 0 6 h1 rfl) hk1) lk_X1_67 rfl d1_copyFrom_8 (mm_room rfl rfl) rfl (mm_wtT hS 0 6 h0 rfl) rfl rfl ?_
  refine mm_aload_n d1_copyFrom_11 rfl ?_
  refine mm_getR fl_X1_20 d1_copyFrom_12 (mm_wtR hS 106 h0 rfl rfl) ?_
  refine mm_aload_n d1_copyFrom_15 rfl ?_
  refine mm_getR fl_X1_20 d1_copyFrom_16 (mm_wtR hS 106 h1 rfl rfl) ?_
  obtain ⟨o2, hk2, h⟩ := mm_bd h
  refine mm_cVv 6 (As := [.ref (mm_rf S v1 1)]) (ok6_copyFrom l hS (mm_wtT hS 1 6 h0 rfl) (mm_wtT hS 1 6 h1 rfl) hk2) lk_X1_67 rfl d1_copyFrom_19 (mm_room rfl rfl) rfl (mm_wtT hS 1 6 h0 rfl) rfl rfl ?_
  refine mm_aload_n d1_copyFrom_22 rfl ?_
  refine mm_getR fl_X1_23 d1_copyFrom_23 (mm_wtR hS 106 h0 rfl rfl) ?_
  refine mm_aload_n d1_copyFrom_26 rfl ?_
  refine mm_getR fl_X1_23 d1_copyFrom_27 (mm_wtR hS 106 h1 rfl rfl) ?_
  obtain ⟨o3, hk3, h⟩ := mm_bd h
  refine mm_cVv 6 (As := [.ref (mm_rf S v1 2)]) (ok6_copyFrom l hS (mm_wtT hS 2 6 h0 rfl) (mm_wtT hS 2 6 h1 rfl) hk3) lk_X1_67 rfl d1_copyFrom_30 (mm_room rfl rfl) rfl (mm_wtT hS 2 6 h0 rfl) rfl rfl ?_
  refine mm_aload_n d1_copyFrom_33 rfl ?_
  refine mm_getR fl_X1_26 d1_copyFrom_34 (mm_wtR hS 106 h0 rfl rfl) ?_
  refine mm_aload_n d1_copyFrom_37 rfl ?_
  refine mm_getR fl_X1_26 d1_copyFrom_38 (mm_wtR hS 106 h1 rfl rfl) ?_
  obtain ⟨o4, hk4, h⟩ := mm_bd h
  refine mm_cVv 6 (As := [.ref (mm_rf S v1 3)]) (ok6_copyFrom l hS (mm_wtT hS 3 6 h0 rfl) (mm_wtT hS 3 6 h1 rfl) hk4) lk_X1_67 rfl d1_copyFrom_41 (mm_room rfl rfl) rfl (mm_wtT hS 3 6 h0 rfl) rfl rfl ?_
  refine mm_aload_n d1_copyFrom_44 rfl ?_
  refine mm_getR fl_X1_29 d1_copyFrom_45 (mm_wtR hS 106 h0 rfl rfl) ?_
  refine mm_aload_n d1_copyFrom_48 rfl ?_
  refine mm_getR fl_X1_29 d1_copyFrom_49 (mm_wtR hS 106 h1 rfl rfl) ?_
  obtain ⟨o5, hk5, h⟩ := mm_bd h
  refine mm_cVv 6 (As := [.ref (mm_rf S v1 4)]) (ok6_copyFrom l hS (mm_wtT hS 4 6 h0 rfl) (mm_wtT hS 4 6 h1 rfl) hk5) lk_X1_67 rfl d1_copyFrom_52 (mm_room rfl rfl) rfl (mm_wtT hS 4 6 h0 rfl) rfl rfl ?_
  refine mm_aload_n d1_copyFrom_55 rfl ?_
  refine mm_getR fl_X1_32 d1_copyFrom_56 (mm_wtR hS 106 h0 rfl rfl) ?_
  refine mm_aload_n d1_copyFrom_59 rfl ?_
  refine mm_getR fl_X1_32 d1_copyFrom_60 (mm_wtR hS 106 h1 rfl rfl) ?_
  obtain ⟨o6, hk6, h⟩ := mm_bd h
  refine mm_cVv 6 (As := [.ref (mm_rf S v1 5)]) (ok6_copyFrom l hS (mm_wtT hS 5 6 h0 rfl) (mm_wtT hS 5 6 h1 rfl) hk6) lk_X1_67 rfl d1_copyFrom_63 (mm_room rfl rfl) rfl (mm_wtT hS 5 6 h0 rfl) rfl rfl ?_
  refine mm_aload_n d1_copyFrom_66 rfl ?_
  refine mm_getR fl_X1_35 d1_copyFrom_67 (mm_wtR hS 106 h0 rfl rfl) ?_
  refine mm_aload_n d1_copyFrom_70 rfl ?_
  refine mm_getR fl_X1_35 d1_copyFrom_71 (mm_wtR hS 106 h1 rfl rfl) ?_
  obtain ⟨o7, hk7, h⟩ := mm_bd h
  refine mm_cVv 6 (As := [.ref (mm_rf S v1 6)]) (ok6_copyFrom l hS (mm_wtT hS 6 6 h0 rfl) (mm_wtT hS 6 6 h1 rfl) hk7) lk_X1_67 rfl d1_copyFrom_74 (mm_room rfl rfl) rfl (mm_wtT hS 6 6 h0 rfl) rfl rfl ?_
  refine mm_aload_n d1_copyFrom_77 rfl ?_
  refine mm_getR fl_X1_38 d1_copyFrom_78 (mm_wtR hS 106 h0 rfl rfl) ?_
  refine mm_aload_n d1_copyFrom_81 rfl ?_
  refine mm_getR fl_X1_38 d1_copyFrom_82 (mm_wtR hS 106 h1 rfl rfl) ?_
  obtain ⟨o8, hk8, h⟩ := mm_bd h
  refine mm_cVv 6 (As := [.ref (mm_rf S v1 7)]) (ok6_copyFrom l hS (mm_wtT hS 7 6 h0 rfl) (mm_wtT hS 7 6 h1 rfl) hk8) lk_X1_67 rfl d1_copyFrom_85 (mm_room rfl rfl) rfl (mm_wtT hS 7 6 h0 rfl) rfl rfl ?_
  refine mm_aload_n d1_copyFrom_88 rfl ?_
  refine mm_aload_n d1_copyFrom_89 rfl ?_
  refine mm_getI fl_X1_44 d1_copyFrom_90 (mm_wtI hS h1 rfl) ?_
  refine mm_putI fp_X1_44 d1_copyFrom_93 (mm_wtI hS h0 rfl) ?_
  refine mm_aload_n d1_copyFrom_96 rfl ?_
  refine mm_aload_n d1_copyFrom_97 rfl ?_
  refine mm_getI fl_X1_48 d1_copyFrom_98 (mm_wtI hS h1 rfl) ?_
  refine mm_putI fp_X1_48 d1_copyFrom_101 (mm_wtI hS h0 rfl) ?_
  refine mm_aload_n d1_copyFrom_104 rfl ?_
  refine mm_aload_n d1_copyFrom_105 rfl ?_
  refine mm_getI fl_X1_51 d1_copyFrom_106 (mm_wtI hS h1 rfl) ?_
  refine mm_putI fp_X1_51 d1_copyFrom_109 (mm_wtI hS h0 rfl) ?_
  refine mm_aload_n d1_copyFrom_112 rfl ?_
  refine mm_aload_n d1_copyFrom_113 rfl ?_
  refine mm_getI fl_X1_54 d1_copyFrom_114 (mm_wtI hS h1 rfl) ?_
  refine mm_putI fp_X1_54 d1_copyFrom_117 (mm_wtI hS h0 rfl) ?_
  refine mm_aload_n d1_copyFrom_120 rfl ?_
  refine mm_aload_n d1_copyFrom_121 rfl ?_
  refine mm_getI fl_X1_57 d1_copyFrom_122 (mm_wtI hS h1 rfl) ?_
  refine mm_putI fp_X1_57 d1_copyFrom_125 (mm_wtI hS h0 rfl) ?_
  have h := Option.some.inj h
  subst h
  exact mm_vret rfl d1_copyFrom_128 ⟨rfl, rfl, rfl⟩
set_option maxHeartbeats 4000000 in
set_option maxRecDepth 100000 in
theorem ok1_empty_2_b (l : Launch) {S : mm_Sh} (hS : mm_WT S) {n : Nat}  {rec2 : Nat → Int32 → Int32 → mm_I → mm_J → Option (mm_I × mm_J)} (hrec2 : ∀ {v0 : Nat} {v1 : Int32} {v2 : Int32} (_ : mm_is S v0 1) {I : mm_I} {J : mm_J} {o : mm_I × mm_J}, rec2 v0 v1 v2 I J = some o → mm_W l M1_empty (mm_rm (mm_rk M1_empty)) 0 0 S (mm_end S (mm_Qv o.1 o.2)) 2 [(0, .ref v0), (1, .int v1), (2, .int v2)] [] I J) {v0 : Nat} {v1 : Int32} {v2 : Int32} (h0 : mm_is S v0 1) {I : mm_I} {J : mm_J} {o : mm_I × mm_J} (h : f1_empty_2_b S n rec2 v0 v1 v2 I J = some o) : mm_W l M1_empty (mm_rm (mm_rk M1_empty)) 0 0 S (mm_end S (mm_Qv o.1 o.2)) 2 [(0, .ref v0), (1, .int v1), (2, .int v2)] [] I J := by
  unfold f1_empty_2_b at h
  refine mm_iload_n d1_empty_2 rfl ?_
  refine mm_bipush (v := 6) d1_empty_3 (by decide +kernel) ?_
  refine mm_icmp_ge (tgt := 40) d1_empty_5 (by decide) (fun hc1 => ?_) (fun hc1 => ?_)
  · rw [if_pos hc1] at h
    refine mm_aload_n d1_empty_40 rfl ?_
    refine mm_getR fl_X1_26 d1_empty_41 (mm_wtR hS 106 h0 rfl rfl) ?_
    refine mm_iload_n d1_empty_44 rfl ?_
    refine mm_iconst (v := (-1)) d1_empty_45 (by decide +kernel) ?_
    obtain ⟨o2, hk2, h⟩ := mm_bd h
    refine mm_cVv 6 (As := [.int v1, .int (-1)]) (ok6_put l hS (mm_wtT hS 3 6 h0 rfl) hk2) lk_X1_63 rfl d1_empty_46 (mm_room rfl rfl) rfl (mm_wtT hS 3 6 h0 rfl) rfl rfl ?_
    refine mm_aload_n d1_empty_49 rfl ?_
    refine mm_getR fl_X1_29 d1_empty_50 (mm_wtR hS 106 h0 rfl rfl) ?_
    refine mm_iload_n d1_empty_53 rfl ?_
    refine mm_iconst (v := (-1)) d1_empty_54 (by decide +kernel) ?_
    obtain ⟨o3, hk3, h⟩ := mm_bd h
    refine mm_cVv 6 (As := [.int v1, .int (-1)]) (ok6_put l hS (mm_wtT hS 4 6 h0 rfl) hk3) lk_X1_63 rfl d1_empty_55 (mm_room rfl rfl) rfl (mm_wtT hS 4 6 h0 rfl) rfl rfl ?_
    refine mm_aload_n d1_empty_58 rfl ?_
    refine mm_getR fl_X1_32 d1_empty_59 (mm_wtR hS 106 h0 rfl rfl) ?_
    refine mm_iload_n d1_empty_62 rfl ?_
    refine mm_iconst (v := 0) d1_empty_63 (by decide +kernel) ?_
    obtain ⟨o4, hk4, h⟩ := mm_bd h
    refine mm_cVv 6 (As := [.int v1, .int 0]) (ok6_put l hS (mm_wtT hS 5 6 h0 rfl) hk4) lk_X1_63 rfl d1_empty_64 (mm_room rfl rfl) rfl (mm_wtT hS 5 6 h0 rfl) rfl rfl ?_
    refine mm_aload_n d1_empty_67 rfl ?_
    refine mm_getR fl_X1_35 d1_empty_68 (mm_wtR hS 106 h0 rfl rfl) ?_
    refine mm_iload_n d1_empty_71 rfl ?_
    refine mm_iconst (v := (-1)) d1_empty_72 (by decide +kernel) ?_
    obtain ⟨o5, hk5, h⟩ := mm_bd h
    refine mm_cVv 6 (As := [.int v1, .int (-1)]) (ok6_put l hS (mm_wtT hS 6 6 h0 rfl) hk5) lk_X1_63 rfl d1_empty_73 (mm_room rfl rfl) rfl (mm_wtT hS 6 6 h0 rfl) rfl rfl ?_
    have h := Option.some.inj h
    subst h
    exact mm_vret rfl d1_empty_76 ⟨rfl, rfl, rfl⟩
  · rw [if_neg hc1] at h
    refine mm_aload_n d1_empty_8 rfl ?_
    refine mm_getR fl_X1_20 d1_empty_9 (mm_wtR hS 106 h0 rfl rfl) ?_
    refine mm_iload_n d1_empty_12 rfl ?_
    refine mm_iload_n d1_empty_13 rfl ?_
    obtain ⟨o6, hk6, h⟩ := mm_bd h
    refine mm_cSi (As := [.int v1, .int v2]) (ok10_cell l hS hk6) lk_X1_71 rfl d1_empty_14 (mm_room rfl rfl) rfl rfl ?_
    refine mm_iconst (v := 0) d1_empty_17 (by decide +kernel) ?_
    obtain ⟨o7, hk7, h⟩ := mm_bd h
    refine mm_cVv 6 (As := [.int o6, .int 0]) (ok6_put l hS (mm_wtT hS 1 6 h0 rfl) hk7) lk_X1_63 rfl d1_empty_18 (mm_room rfl rfl) rfl (mm_wtT hS 1 6 h0 rfl) rfl rfl ?_
    refine mm_aload_n d1_empty_21 rfl ?_
    refine mm_getR fl_X1_23 d1_empty_22 (mm_wtR hS 106 h0 rfl rfl) ?_
    refine mm_iload_n d1_empty_25 rfl ?_
    refine mm_iload_n d1_empty_26 rfl ?_
    obtain ⟨o8, hk8, h⟩ := mm_bd h
    refine mm_cSi (As := [.int v1, .int v2]) (ok10_cell l hS hk8) lk_X1_71 rfl d1_empty_27 (mm_room rfl rfl) rfl rfl ?_
    refine mm_iconst (v := (-1)) d1_empty_30 (by decide +kernel) ?_
    obtain ⟨o9, hk9, h⟩ := mm_bd h
    refine mm_cVv 6 (As := [.int o8, .int (-1)]) (ok6_put l hS (mm_wtT hS 2 6 h0 rfl) hk9) lk_X1_63 rfl d1_empty_31 (mm_room rfl rfl) rfl (mm_wtT hS 2 6 h0 rfl) rfl rfl ?_
    refine mm_iinc (v := v2 + 1) d1_empty_34 rfl rfl rfl rfl ?_
    refine mm_goto (tgt := 2) d1_empty_37 (by decide) ?_
    refine mm_sub [(0, .ref v0), (1, .int v1), (2, .int (v2 + 1))] ⟨rfl, rfl, rfl, trivial⟩ ?_
    exact hrec2 h0 h
set_option maxHeartbeats 4000000 in
set_option maxRecDepth 100000 in
theorem ok1_empty_2 (l : Launch) {S : mm_Sh} (hS : mm_WT S) {n : Nat}  : ∀ (k : Nat) {v0 : Nat} {v1 : Int32} {v2 : Int32} (h0 : mm_is S v0 1) {I : mm_I} {J : mm_J} {o : mm_I × mm_J}, f1_empty_2 S n k v0 v1 v2 I J = some o → mm_W l M1_empty (mm_rm (mm_rk M1_empty)) 0 0 S (mm_end S (mm_Qv o.1 o.2)) 2 [(0, .ref v0), (1, .int v1), (2, .int v2)] [] I J := by
  intro k
  induction k with
  | zero =>
    intros
    rename_i h
    cases h
  | succ k ih =>
    intro v0 v1 v2 h0 I J o h
    exact ok1_empty_2_b l hS (fun {v0 v1 v2} h0 {I J o} h => ih h0 h) h0 h
set_option maxHeartbeats 4000000 in
set_option maxRecDepth 100000 in
theorem ok1_empty (l : Launch) {S : mm_Sh} (hS : mm_WT S) {n : Nat}  {v0 : Nat} {v1 : Int32} (h0 : mm_is S v0 1) {I : mm_I} {J : mm_J} {o : mm_I × mm_J} (h : f1_empty S n v0 v1 I J = some o) : mm_C l M1_empty S [.ref v0, .int v1] I J (mm_Qv o.1 o.2) := by
  unfold f1_empty at h
  refine mm_enter rfl (by decide +kernel) rfl ?_
  refine mm_iconst (v := 0) d1_empty_0 (by decide +kernel) ?_
  refine mm_istore_n d1_empty_1 rfl rfl ?_
  refine mm_sub [(0, .ref v0), (1, .int v1), (2, .int 0)] ⟨rfl, rfl, rfl, trivial⟩ ?_
  exact ok1_empty_2 l hS  n h0 h
set_option maxHeartbeats 4000000 in
set_option maxRecDepth 100000 in
theorem ok1_knownBy_31 (l : Launch) {S : mm_Sh} (hS : mm_WT S) {n : Nat}  {rec4 : Nat → Int32 → Int32 → Int32 → mm_I → mm_J → Option (Int32)} (hrec4 : ∀ {v0 : Nat} {v1 : Int32} {v2 : Int32} {v3 : Int32} (_ : mm_is S v0 1) {I : mm_I} {J : mm_J} {o : Int32}, rec4 v0 v1 v2 v3 I J = some o → mm_W l M1_knownBy (mm_rm (mm_rk M1_knownBy)) 0 0 S (mm_end S (mm_Qi o I J)) 4 [(0, .ref v0), (1, .int v1), (2, .int v2), (3, .int v3)] [] I J) {v0 : Nat} {v1 : Int32} {v2 : Int32} {v3 : Int32} (h0 : mm_is S v0 1) {I : mm_I} {J : mm_J} {o : Int32} (h : f1_knownBy_31 S n rec4 v0 v1 v2 v3 I J = some o) : mm_W l M1_knownBy (mm_rm (mm_rk M1_knownBy)) 0 0 S (mm_end S (mm_Qi o I J)) 31 [(0, .ref v0), (1, .int v1), (2, .int v2), (3, .int v3)] [] I J := by
  unfold f1_knownBy_31 at h
  refine mm_iinc (v := v3 + 1) d1_knownBy_31 rfl rfl rfl rfl ?_
  refine mm_goto (tgt := 4) d1_knownBy_34 (by decide) ?_
  refine mm_sub [(0, .ref v0), (1, .int v1), (2, .int v2), (3, .int (v3 + 1))] ⟨rfl, rfl, rfl, rfl, trivial⟩ ?_
  exact hrec4 h0 h
set_option maxHeartbeats 4000000 in
set_option maxRecDepth 100000 in
theorem ok1_knownBy_4_b (l : Launch) {S : mm_Sh} (hS : mm_WT S) {n : Nat}  {rec4 : Nat → Int32 → Int32 → Int32 → mm_I → mm_J → Option (Int32)} (hrec4 : ∀ {v0 : Nat} {v1 : Int32} {v2 : Int32} {v3 : Int32} (_ : mm_is S v0 1) {I : mm_I} {J : mm_J} {o : Int32}, rec4 v0 v1 v2 v3 I J = some o → mm_W l M1_knownBy (mm_rm (mm_rk M1_knownBy)) 0 0 S (mm_end S (mm_Qi o I J)) 4 [(0, .ref v0), (1, .int v1), (2, .int v2), (3, .int v3)] [] I J) {v0 : Nat} {v1 : Int32} {v2 : Int32} {v3 : Int32} (h0 : mm_is S v0 1) {I : mm_I} {J : mm_J} {o : Int32} (h : f1_knownBy_4_b S n rec4 v0 v1 v2 v3 I J = some o) : mm_W l M1_knownBy (mm_rm (mm_rk M1_knownBy)) 0 0 S (mm_end S (mm_Qi o I J)) 4 [(0, .ref v0), (1, .int v1), (2, .int v2), (3, .int v3)] [] I J := by
  unfold f1_knownBy_4_b at h
  refine mm_iload_n d1_knownBy_4 rfl ?_
  refine mm_bipush (v := 6) d1_knownBy_5 (by decide +kernel) ?_
  refine mm_icmp_ge (tgt := 37) d1_knownBy_7 (by decide) (fun hc1 => ?_) (fun hc1 => ?_)
  · rw [if_pos hc1] at h
    refine mm_iload_n d1_knownBy_37 rfl ?_
    have h := Option.some.inj h
    subst h
    exact mm_iret rfl d1_knownBy_38 ⟨rfl, rfl, rfl⟩
  · rw [if_neg hc1] at h
    refine mm_aload_n d1_knownBy_10 rfl ?_
    refine mm_getR fl_X1_20 d1_knownBy_11 (mm_wtR hS 106 h0 rfl rfl) ?_
    refine mm_iload_n d1_knownBy_14 rfl ?_
    refine mm_iload_n d1_knownBy_15 rfl ?_
    obtain ⟨o2, hk2, h⟩ := mm_bd h
    refine mm_cSi (As := [.int v1, .int v3]) (ok10_cell l hS hk2) lk_X1_71 rfl d1_knownBy_16 (mm_room rfl rfl) rfl rfl ?_
    obtain ⟨o3, hk3, h⟩ := mm_bd h
    refine mm_cVi 6 (As := [.int o2]) (ok6_at l hS (mm_wtT hS 1 6 h0 rfl) hk3) lk_X1_79 rfl d1_knownBy_19 (mm_room rfl rfl) rfl (mm_wtT hS 1 6 h0 rfl) rfl rfl ?_
    refine mm_if_le (tgt := 31) d1_knownBy_22 (by decide) (fun hc4 => ?_) (fun hc4 => ?_)
    · rw [if_pos hc4] at h
      refine mm_sub [(0, .ref v0), (1, .int v1), (2, .int v2), (3, .int v3)] ⟨rfl, rfl, rfl, rfl, trivial⟩ ?_
      exact ok1_knownBy_31 l hS hrec4 h0 h
    · rw [if_neg hc4] at h
      refine mm_iload_n d1_knownBy_25 rfl ?_
      refine mm_iconst (v := 1) d1_knownBy_26 (by decide +kernel) ?_
      refine mm_iload_n d1_knownBy_27 rfl ?_
      refine mm_ishl d1_knownBy_28 ?_
      refine mm_ior d1_knownBy_29 ?_
      refine mm_istore_n d1_knownBy_30 rfl rfl ?_
      refine mm_sub [(0, .ref v0), (1, .int v1), (2, .int (v2 ||| ((1 : Int32) <<< (v3 &&& 31)))), (3, .int v3)] ⟨rfl, rfl, rfl, rfl, trivial⟩ ?_
      exact ok1_knownBy_31 l hS hrec4 h0 h
set_option maxHeartbeats 4000000 in
set_option maxRecDepth 100000 in
theorem ok1_knownBy_4 (l : Launch) {S : mm_Sh} (hS : mm_WT S) {n : Nat}  : ∀ (k : Nat) {v0 : Nat} {v1 : Int32} {v2 : Int32} {v3 : Int32} (h0 : mm_is S v0 1) {I : mm_I} {J : mm_J} {o : Int32}, f1_knownBy_4 S n k v0 v1 v2 v3 I J = some o → mm_W l M1_knownBy (mm_rm (mm_rk M1_knownBy)) 0 0 S (mm_end S (mm_Qi o I J)) 4 [(0, .ref v0), (1, .int v1), (2, .int v2), (3, .int v3)] [] I J := by
  intro k
  induction k with
  | zero =>
    intros
    rename_i h
    cases h
  | succ k ih =>
    intro v0 v1 v2 v3 h0 I J o h
    exact ok1_knownBy_4_b l hS (fun {v0 v1 v2 v3} h0 {I J o} h => ih h0 h) h0 h
set_option maxHeartbeats 4000000 in
set_option maxRecDepth 100000 in
theorem ok1_knownBy (l : Launch) {S : mm_Sh} (hS : mm_WT S) {n : Nat}  {v0 : Nat} {v1 : Int32} (h0 : mm_is S v0 1) {I : mm_I} {J : mm_J} {o : Int32} (h : f1_knownBy S n v0 v1 I J = some o) : mm_C l M1_knownBy S [.ref v0, .int v1] I J (mm_Qi o I J) := by
  unfold f1_knownBy at h
  refine mm_enter rfl (by decide +kernel) rfl ?_
  refine mm_iconst (v := 0) d1_knownBy_0 (by decide +kernel) ?_
  refine mm_istore_n d1_knownBy_1 rfl rfl ?_
  refine mm_iconst (v := 0) d1_knownBy_2 (by decide +kernel) ?_
  refine mm_istore_n d1_knownBy_3 rfl rfl ?_
  refine mm_sub [(0, .ref v0), (1, .int v1), (2, .int 0), (3, .int 0)] ⟨rfl, rfl, rfl, rfl, trivial⟩ ?_
  exact ok1_knownBy_4 l hS  n h0 h
set_option maxHeartbeats 4000000 in
set_option maxRecDepth 100000 in
theorem ok1_knows_20 (l : Launch) {S : mm_Sh} (hS : mm_WT S)  {s0 : Int32}  {I : mm_I} {J : mm_J} {o : Int32} (h : f1_knows_20 S s0 I J = some o) : mm_W l M1_knows (mm_rm (mm_rk M1_knows)) 0 0 S (mm_end S (mm_Qi o I J)) 20 [] [.int s0] I J := by
  unfold f1_knows_20 at h
  obtain ⟨hb1, h⟩ := mm_gd h
  have h := Option.some.inj h
  subst h
  exact mm_zret rfl d1_knows_20 (mm_bit_ok hb1) ⟨rfl, rfl, rfl⟩
set_option maxHeartbeats 4000000 in
set_option maxRecDepth 100000 in
theorem ok1_knows (l : Launch) {S : mm_Sh} (hS : mm_WT S)  {v0 : Nat} {v1 : Int32} {v2 : Int32} (h0 : mm_is S v0 1) {I : mm_I} {J : mm_J} {o : Int32} (h : f1_knows S v0 v1 v2 I J = some o) : mm_C l M1_knows S [.ref v0, .int v1, .int v2] I J (mm_Qi o I J) := by
  unfold f1_knows at h
  refine mm_enter rfl (by decide +kernel) rfl ?_
  refine mm_aload_n d1_knows_0 rfl ?_
  refine mm_getR fl_X1_20 d1_knows_1 (mm_wtR hS 106 h0 rfl rfl) ?_
  refine mm_iload_n d1_knows_4 rfl ?_
  refine mm_iload_n d1_knows_5 rfl ?_
  obtain ⟨o1, hk1, h⟩ := mm_bd h
  refine mm_cSi (As := [.int v1, .int v2]) (ok10_cell l hS hk1) lk_X1_71 rfl d1_knows_6 (mm_room rfl rfl) rfl rfl ?_
  obtain ⟨o2, hk2, h⟩ := mm_bd h
  refine mm_cVi 6 (As := [.int o1]) (ok6_at l hS (mm_wtT hS 1 6 h0 rfl) hk2) lk_X1_79 rfl d1_knows_9 (mm_room rfl rfl) rfl (mm_wtT hS 1 6 h0 rfl) rfl rfl ?_
  refine mm_if_le (tgt := 19) d1_knows_12 (by decide) (fun hc3 => ?_) (fun hc3 => ?_)
  · rw [if_pos hc3] at h
    refine mm_iconst (v := 0) d1_knows_19 (by decide +kernel) ?_
    refine mm_sub [] trivial ?_
    exact ok1_knows_20 l hS   h
  · rw [if_neg hc3] at h
    refine mm_iconst (v := 1) d1_knows_15 (by decide +kernel) ?_
    refine mm_goto (tgt := 20) d1_knows_16 (by decide) ?_
    refine mm_sub [] trivial ?_
    exact ok1_knows_20 l hS   h
set_option maxHeartbeats 4000000 in
set_option maxRecDepth 100000 in
theorem ok1_lives (l : Launch) {S : mm_Sh} (hS : mm_WT S)  {v0 : Nat} {v1 : Int32} (h0 : mm_is S v0 1) {I : mm_I} {J : mm_J} {o : Int32} (h : f1_lives S v0 v1 I J = some o) : mm_C l M1_lives S [.ref v0, .int v1] I J (mm_Qi o I J) := by
  unfold f1_lives at h
  refine mm_enter rfl (by decide +kernel) rfl ?_
  refine mm_aload_n d1_lives_0 rfl ?_
  refine mm_getI fl_X1_44 d1_lives_1 (mm_wtI hS h0 rfl) ?_
  refine mm_iload_n d1_lives_4 rfl ?_
  obtain ⟨o1, hk1, h⟩ := mm_bd h
  refine mm_cSi (As := [.int (I v0 8), .int v1]) (ok10_has l hS hk1) lk_X1_75 rfl d1_lives_5 (mm_room rfl rfl) rfl rfl ?_
  obtain ⟨hb2, h⟩ := mm_gd h
  have h := Option.some.inj h
  subst h
  exact mm_zret rfl d1_lives_8 (mm_bit_ok hb2) ⟨rfl, rfl, rfl⟩
set_option maxHeartbeats 4000000 in
set_option maxRecDepth 100000 in
theorem ok1_setSkill (l : Launch) {S : mm_Sh} (hS : mm_WT S)  {v0 : Nat} {v1 : Int32} {v2 : Int32} {v3 : Int32} (h0 : mm_is S v0 1) {I : mm_I} {J : mm_J} {o : mm_I × mm_J} (h : f1_setSkill S v0 v1 v2 v3 I J = some o) : mm_C l M1_setSkill S [.ref v0, .int v1, .int v2, .int v3] I J (mm_Qv o.1 o.2) := by
  unfold f1_setSkill at h
  refine mm_enter rfl (by decide +kernel) rfl ?_
  refine mm_aload_n d1_setSkill_0 rfl ?_
  refine mm_getR fl_X1_20 d1_setSkill_1 (mm_wtR hS 106 h0 rfl rfl) ?_
  refine mm_iload_n d1_setSkill_4 rfl ?_
  refine mm_iload_n d1_setSkill_5 rfl ?_
  obtain ⟨o1, hk1, h⟩ := mm_bd h
  refine mm_cSi (As := [.int v1, .int v2]) (ok10_cell l hS hk1) lk_X1_71 rfl d1_setSkill_6 (mm_room rfl rfl) rfl rfl ?_
  refine mm_iload_n d1_setSkill_9 rfl ?_
  obtain ⟨o2, hk2, h⟩ := mm_bd h
  refine mm_cVv 6 (As := [.int o1, .int v3]) (ok6_put l hS (mm_wtT hS 1 6 h0 rfl) hk2) lk_X1_63 rfl d1_setSkill_10 (mm_room rfl rfl) rfl (mm_wtT hS 1 6 h0 rfl) rfl rfl ?_
  have h := Option.some.inj h
  subst h
  exact mm_vret rfl d1_setSkill_13 ⟨rfl, rfl, rfl⟩
set_option maxHeartbeats 4000000 in
set_option maxRecDepth 100000 in
theorem ok1_skillOf (l : Launch) {S : mm_Sh} (hS : mm_WT S)  {v0 : Nat} {v1 : Int32} {v2 : Int32} (h0 : mm_is S v0 1) {I : mm_I} {J : mm_J} {o : Int32} (h : f1_skillOf S v0 v1 v2 I J = some o) : mm_C l M1_skillOf S [.ref v0, .int v1, .int v2] I J (mm_Qi o I J) := by
  unfold f1_skillOf at h
  refine mm_enter rfl (by decide +kernel) rfl ?_
  refine mm_aload_n d1_skillOf_0 rfl ?_
  refine mm_getR fl_X1_20 d1_skillOf_1 (mm_wtR hS 106 h0 rfl rfl) ?_
  refine mm_iload_n d1_skillOf_4 rfl ?_
  refine mm_iload_n d1_skillOf_5 rfl ?_
  obtain ⟨o1, hk1, h⟩ := mm_bd h
  refine mm_cSi (As := [.int v1, .int v2]) (ok10_cell l hS hk1) lk_X1_71 rfl d1_skillOf_6 (mm_room rfl rfl) rfl rfl ?_
  obtain ⟨o2, hk2, h⟩ := mm_bd h
  refine mm_cVi 6 (As := [.int o1]) (ok6_at l hS (mm_wtT hS 1 6 h0 rfl) hk2) lk_X1_79 rfl d1_skillOf_9 (mm_room rfl rfl) rfl (mm_wtT hS 1 6 h0 rfl) rfl rfl ?_
  have h := Option.some.inj h
  subst h
  exact mm_iret rfl d1_skillOf_12 ⟨rfl, rfl, rfl⟩
set_option maxHeartbeats 4000000 in
set_option maxRecDepth 100000 in
theorem ok2_isBackDue_55 (l : Launch) {S : mm_Sh} (hS : mm_WT S)  {s0 : Int32}  {I : mm_I} {J : mm_J} {o : Int32} (h : f2_isBackDue_55 S s0 I J = some o) : mm_W l M2_isBackDue (mm_rm (mm_rk M2_isBackDue)) 0 0 S (mm_end S (mm_Qi o I J)) 55 [] [.int s0] I J := by
  unfold f2_isBackDue_55 at h
  obtain ⟨hb1, h⟩ := mm_gd h
  have h := Option.some.inj h
  subst h
  exact mm_zret rfl d2_isBackDue_55 (mm_bit_ok hb1) ⟨rfl, rfl, rfl⟩
set_option maxHeartbeats 4000000 in
set_option maxRecDepth 100000 in
theorem ok2_isBackDue_54 (l : Launch) {S : mm_Sh} (hS : mm_WT S)    {I : mm_I} {J : mm_J} {o : Int32} (h : f2_isBackDue_54 S  I J = some o) : mm_W l M2_isBackDue (mm_rm (mm_rk M2_isBackDue)) 0 0 S (mm_end S (mm_Qi o I J)) 54 [] [] I J := by
  unfold f2_isBackDue_54 at h
  refine mm_iconst (v := 0) d2_isBackDue_54 (by decide +kernel) ?_
  refine mm_sub [] trivial ?_
  exact ok2_isBackDue_55 l hS   h
set_option maxHeartbeats 4000000 in
set_option maxRecDepth 100000 in
theorem ok2_isBackDue (l : Launch) {S : mm_Sh} (hS : mm_WT S)  {v0 : Nat} {v1 : Int32} {v2 : Int32} (h0 : mm_is S v0 2) {I : mm_I} {J : mm_J} {o : Int32} (h : f2_isBackDue S v0 v1 v2 I J = some o) : mm_C l M2_isBackDue S [.ref v0, .int v1, .int v2] I J (mm_Qi o I J) := by
  unfold f2_isBackDue at h
  refine mm_enter rfl (by decide +kernel) rfl ?_
  refine mm_aload_n d2_isBackDue_0 rfl ?_
  refine mm_getR fl_X2_19 d2_isBackDue_1 (mm_wtR hS 101 h0 rfl rfl) ?_
  refine mm_getR fl_X2_186 d2_isBackDue_4 (mm_wtR hS 106 (mm_wtT hS 2 1 h0 rfl) rfl rfl) ?_
  refine mm_iload_n d2_isBackDue_7 rfl ?_
  refine mm_iload_n d2_isBackDue_8 rfl ?_
  obtain ⟨o1, hk1, h⟩ := mm_bd h
  refine mm_cSi (As := [.int v1, .int v2]) (ok10_cell l hS hk1) lk_X2_189 rfl d2_isBackDue_9 (mm_room rfl rfl) rfl rfl ?_
  obtain ⟨o2, hk2, h⟩ := mm_bd h
  refine mm_cVi 6 (As := [.int o1]) (ok6_at l hS (mm_wtT hS 2 6 (mm_wtT hS 2 1 h0 rfl) rfl) hk2) lk_X2_96 rfl d2_isBackDue_12 (mm_room rfl rfl) rfl (mm_wtT hS 2 6 (mm_wtT hS 2 1 h0 rfl) rfl) rfl rfl ?_
  refine mm_istore_n d2_isBackDue_15 rfl rfl ?_
  refine mm_aload_n d2_isBackDue_16 rfl ?_
  refine mm_getR fl_X2_9 d2_isBackDue_17 (mm_wtR hS 100 h0 rfl rfl) ?_
  refine mm_getR fl_X2_180 d2_isBackDue_20 (mm_wtR hS 106 (mm_wtT hS 0 0 h0 rfl) rfl rfl) ?_
  refine mm_iload_n d2_isBackDue_23 rfl ?_
  obtain ⟨o3, hk3, h⟩ := mm_bd h
  refine mm_cVi 6 (As := [.int v2]) (ok6_at l hS (mm_wtT hS 0 6 (mm_wtT hS 0 0 h0 rfl) rfl) hk3) lk_X2_96 rfl d2_isBackDue_24 (mm_room rfl rfl) rfl (mm_wtT hS 0 6 (mm_wtT hS 0 0 h0 rfl) rfl) rfl rfl ?_
  refine mm_iconst (v := 1) d2_isBackDue_27 (by decide +kernel) ?_
  refine mm_icmp_ne (tgt := 54) d2_isBackDue_28 (by decide) (fun hc4 => ?_) (fun hc4 => ?_)
  · rw [if_neg hc4] at h
    refine mm_sub [] trivial ?_
    exact ok2_isBackDue_54 l hS   h
  · rw [if_pos hc4] at h
    refine mm_iload_n d2_isBackDue_31 rfl ?_
    refine mm_iconst (v := (-1)) d2_isBackDue_32 (by decide +kernel) ?_
    refine mm_icmp_eq (tgt := 54) d2_isBackDue_33 (by decide) (fun hc5 => ?_) (fun hc5 => ?_)
    · rw [if_pos hc5] at h
      refine mm_sub [] trivial ?_
      exact ok2_isBackDue_54 l hS   h
    · rw [if_neg hc5] at h
      refine mm_aload_n d2_isBackDue_36 rfl ?_
      refine mm_getR fl_X2_19 d2_isBackDue_37 (mm_wtR hS 101 h0 rfl rfl) ?_
      refine mm_getI fl_X2_144 d2_isBackDue_40 (mm_wtI hS (mm_wtT hS 2 1 h0 rfl) rfl) ?_
      refine mm_iload_n d2_isBackDue_43 rfl ?_
      refine mm_isub d2_isBackDue_44 ?_
      refine mm_bipush (v := 9) d2_isBackDue_45 (by decide +kernel) ?_
      refine mm_icmp_lt (tgt := 54) d2_isBackDue_47 (by decide) (fun hc6 => ?_) (fun hc6 => ?_)
      · rw [if_pos hc6] at h
        refine mm_sub [] trivial ?_
        exact ok2_isBackDue_54 l hS   h
      · rw [if_neg hc6] at h
        refine mm_iconst (v := 1) d2_isBackDue_50 (by decide +kernel) ?_
        refine mm_goto (tgt := 55) d2_isBackDue_51 (by decide) ?_
        refine mm_sub [] trivial ?_
        exact ok2_isBackDue_55 l hS   h
set_option maxHeartbeats 4000000 in
set_option maxRecDepth 100000 in
theorem ok2_startLearning (l : Launch) {S : mm_Sh} (hS : mm_WT S)  {v0 : Nat} {v1 : Int32} {v2 : Int32} (h0 : mm_is S v0 2) {I : mm_I} {J : mm_J} {o : mm_I × mm_J} (h : f2_startLearning S v0 v1 v2 I J = some o) : mm_C l M2_startLearning S [.ref v0, .int v1, .int v2] I J (mm_Qv o.1 o.2) := by
  unfold f2_startLearning at h
  refine mm_enter rfl (by decide +kernel) rfl ?_
  refine mm_aload_n d2_startLearning_0 rfl ?_
  refine mm_getR fl_X2_19 d2_startLearning_1 (mm_wtR hS 101 h0 rfl rfl) ?_
  refine mm_getR fl_X2_93 d2_startLearning_4 (mm_wtR hS 106 (mm_wtT hS 2 1 h0 rfl) rfl rfl) ?_
  refine mm_iload_n d2_startLearning_7 rfl ?_
  refine mm_iload_n d2_startLearning_8 rfl ?_
  obtain ⟨o1, hk1, h⟩ := mm_bd h
  refine mm_cVv 6 (As := [.int v1, .int v2]) (ok6_put l hS (mm_wtT hS 4 6 (mm_wtT hS 2 1 h0 rfl) rfl) hk1) lk_X2_85 rfl d2_startLearning_9 (mm_room rfl rfl) rfl (mm_wtT hS 4 6 (mm_wtT hS 2 1 h0 rfl) rfl) rfl rfl ?_
  refine mm_aload_n d2_startLearning_12 rfl ?_
  refine mm_getR fl_X2_19 d2_startLearning_13 (mm_wtR hS 101 h0 rfl rfl) ?_
  refine mm_getR fl_X2_116 d2_startLearning_16 (mm_wtR hS 106 (mm_wtT hS 2 1 h0 rfl) rfl rfl) ?_
  refine mm_iload_n d2_startLearning_19 rfl ?_
  refine mm_iconst (v := 0) d2_startLearning_20 (by decide +kernel) ?_
  obtain ⟨o2, hk2, h⟩ := mm_bd h
  refine mm_cVv 6 (As := [.int v1, .int 0]) (ok6_put l hS (mm_wtT hS 5 6 (mm_wtT hS 2 1 h0 rfl) rfl) hk2) lk_X2_85 rfl d2_startLearning_21 (mm_room rfl rfl) rfl (mm_wtT hS 5 6 (mm_wtT hS 2 1 h0 rfl) rfl) rfl rfl ?_
  have h := Option.some.inj h
  subst h
  exact mm_vret rfl d2_startLearning_24 ⟨rfl, rfl, rfl⟩
set_option maxHeartbeats 4000000 in
set_option maxRecDepth 100000 in
theorem ok3_countStates_7_b (l : Launch) {S : mm_Sh} (hS : mm_WT S) {n : Nat}  {rec7 : Nat → Int32 → mm_I → mm_J → Option (mm_I × mm_J)} (hrec7 : ∀ {v0 : Nat} {v1 : Int32} (_ : mm_is S v0 3) {I : mm_I} {J : mm_J} {o : mm_I × mm_J}, rec7 v0 v1 I J = some o → mm_W l M3_countStates (mm_rm (mm_rk M3_countStates)) 0 0 S (mm_end S (mm_Qv o.1 o.2)) 7 [(0, .ref v0), (1, .int v1)] [] I J) {v0 : Nat} {v1 : Int32} (h0 : mm_is S v0 3) {I : mm_I} {J : mm_J} {o : mm_I × mm_J} (h : f3_countStates_7_b S n rec7 v0 v1 I J = some o) : mm_W l M3_countStates (mm_rm (mm_rk M3_countStates)) 0 0 S (mm_end S (mm_Qv o.1 o.2)) 7 [(0, .ref v0), (1, .int v1)] [] I J := by
  unfold f3_countStates_7_b at h
  refine mm_iload_n d3_countStates_7 rfl ?_
  refine mm_aload_n d3_countStates_8 rfl ?_
  refine mm_getR fl_X3_33 d3_countStates_9 (mm_wtR hS 100 h0 rfl rfl) ?_
  refine mm_getI fl_X3_78 d3_countStates_12 (mm_wtI hS (mm_wtT hS 0 0 h0 rfl) rfl) ?_
  refine mm_icmp_ge (tgt := 55) d3_countStates_15 (by decide) (fun hc1 => ?_) (fun hc1 => ?_)
  · rw [if_pos hc1] at h
    have h := Option.some.inj h
    subst h
    exact mm_vret rfl d3_countStates_55 ⟨rfl, rfl, rfl⟩
  · rw [if_neg hc1] at h
    refine mm_aload_n d3_countStates_18 rfl ?_
    refine mm_getR fl_X3_14 d3_countStates_19 (mm_wtR hS 106 h0 rfl rfl) ?_
    refine mm_iload_n d3_countStates_22 rfl ?_
    refine mm_aload_n d3_countStates_23 rfl ?_
    refine mm_getI fl_X3_29 d3_countStates_24 (mm_wtI hS h0 rfl) ?_
    obtain ⟨o2, hk2, h⟩ := mm_bd h
    refine mm_cVv 6 (As := [.int v1, .int (I v0 7)]) (ok6_put l hS (mm_wtT hS 3 6 h0 rfl) hk2) lk_X3_83 rfl d3_countStates_27 (mm_room rfl rfl) rfl (mm_wtT hS 3 6 h0 rfl) rfl rfl ?_
    refine mm_aload_n d3_countStates_30 rfl ?_
    refine mm_dup d3_countStates_31 rfl ?_
    refine mm_getI fl_X3_29 d3_countStates_32 (mm_wtI hS h0 rfl) ?_
    refine mm_aload_n d3_countStates_35 rfl ?_
    refine mm_getR fl_X3_41 d3_countStates_36 (mm_wtR hS 106 h0 rfl rfl) ?_
    refine mm_iload_n d3_countStates_39 rfl ?_
    obtain ⟨o3, hk3, h⟩ := mm_bd h
    refine mm_cVi 6 (As := [.int v1]) (ok6_at l hS (mm_wtT hS 2 6 h0 rfl) hk3) lk_X3_71 rfl d3_countStates_40 (mm_room rfl rfl) rfl (mm_wtT hS 2 6 h0 rfl) rfl rfl ?_
    refine mm_iconst (v := 1) d3_countStates_43 (by decide +kernel) ?_
    refine mm_iadd d3_countStates_44 ?_
    refine mm_imul d3_countStates_45 ?_
    refine mm_putI fp_X3_29 d3_countStates_46 (mm_wtI hS h0 rfl) ?_
    refine mm_iinc (v := v1 + 1) d3_countStates_49 rfl rfl rfl rfl ?_
    refine mm_goto (tgt := 7) d3_countStates_52 (by decide) ?_
    refine mm_sub [(0, .ref v0), (1, .int (v1 + 1))] ⟨rfl, rfl, trivial⟩ ?_
    exact hrec7 h0 h
set_option maxHeartbeats 4000000 in
set_option maxRecDepth 100000 in
theorem ok3_countStates_7 (l : Launch) {S : mm_Sh} (hS : mm_WT S) {n : Nat}  : ∀ (k : Nat) {v0 : Nat} {v1 : Int32} (h0 : mm_is S v0 3) {I : mm_I} {J : mm_J} {o : mm_I × mm_J}, f3_countStates_7 S n k v0 v1 I J = some o → mm_W l M3_countStates (mm_rm (mm_rk M3_countStates)) 0 0 S (mm_end S (mm_Qv o.1 o.2)) 7 [(0, .ref v0), (1, .int v1)] [] I J := by
  intro k
  induction k with
  | zero =>
    intros
    rename_i h
    cases h
  | succ k ih =>
    intro v0 v1 h0 I J o h
    exact ok3_countStates_7_b l hS (fun {v0 v1} h0 {I J o} h => ih h0 h) h0 h
set_option maxHeartbeats 4000000 in
set_option maxRecDepth 100000 in
theorem ok3_countStates (l : Launch) {S : mm_Sh} (hS : mm_WT S) {n : Nat}  {v0 : Nat} (h0 : mm_is S v0 3) {I : mm_I} {J : mm_J} {o : mm_I × mm_J} (h : f3_countStates S n v0 I J = some o) : mm_C l M3_countStates S [.ref v0] I J (mm_Qv o.1 o.2) := by
  unfold f3_countStates at h
  refine mm_enter rfl (by decide +kernel) rfl ?_
  refine mm_aload_n d3_countStates_0 rfl ?_
  refine mm_iconst (v := 1) d3_countStates_1 (by decide +kernel) ?_
  refine mm_putI fp_X3_29 d3_countStates_2 (mm_wtI hS h0 rfl) ?_
  refine mm_iconst (v := 0) d3_countStates_5 (by decide +kernel) ?_
  refine mm_istore_n d3_countStates_6 rfl rfl ?_
  refine mm_sub [(0, .ref v0), (1, .int 0)] ⟨rfl, rfl, trivial⟩ ?_
  exact ok3_countStates_7 l hS  n h0 h
set_option maxHeartbeats 4000000 in
set_option maxRecDepth 100000 in
theorem ok3_stillWanted (l : Launch) {S : mm_Sh} (hS : mm_WT S)  {v0 : Nat} {v1 : Int32} {v2 : Int32} (h0 : mm_is S v0 3) {I : mm_I} {J : mm_J} {o : Int32} (h : f3_stillWanted S v0 v1 v2 I J = some o) : mm_C l M3_stillWanted S [.ref v0, .int v1, .int v2] I J (mm_Qi o I J) := by
  unfold f3_stillWanted at h
  refine mm_enter rfl (by decide +kernel) rfl ?_
  refine mm_iconst (v := 1) d3_stillWanted_0 (by decide +kernel) ?_
  refine mm_aload_n d3_stillWanted_1 rfl ?_
  refine mm_getR fl_X3_14 d3_stillWanted_2 (mm_wtR hS 106 h0 rfl rfl) ?_
  refine mm_iload_n d3_stillWanted_5 rfl ?_
  obtain ⟨o1, hk1, h⟩ := mm_bd h
  refine mm_cVi 6 (As := [.int v2]) (ok6_at l hS (mm_wtT hS 3 6 h0 rfl) hk1) lk_X3_71 rfl d3_stillWanted_6 (mm_room rfl rfl) rfl (mm_wtT hS 3 6 h0 rfl) rfl rfl ?_
  refine mm_mmax lm_X3_129 d3_stillWanted_9 (mm_roomM rfl rfl) ?_
  refine mm_istore_n d3_stillWanted_12 rfl rfl ?_
  refine mm_iload_n d3_stillWanted_13 rfl ?_
  refine mm_iload_n d3_stillWanted_14 rfl ?_
  obtain ⟨hz4, h⟩ := mm_gz h
  refine mm_idiv d3_stillWanted_15 hz4 ?_
  refine mm_iconst (v := 0) d3_stillWanted_16 (by decide +kernel) ?_
  refine mm_aload_n d3_stillWanted_17 rfl ?_
  refine mm_getR fl_X3_41 d3_stillWanted_18 (mm_wtR hS 106 h0 rfl rfl) ?_
  refine mm_iload_n d3_stillWanted_21 rfl ?_
  obtain ⟨o2, hk2, h⟩ := mm_bd h
  refine mm_cVi 6 (As := [.int v2]) (ok6_at l hS (mm_wtT hS 2 6 h0 rfl) hk2) lk_X3_71 rfl d3_stillWanted_22 (mm_room rfl rfl) rfl (mm_wtT hS 2 6 h0 rfl) rfl rfl ?_
  refine mm_mmax lm_X3_129 d3_stillWanted_25 (mm_roomM rfl rfl) ?_
  refine mm_iconst (v := 1) d3_stillWanted_28 (by decide +kernel) ?_
  refine mm_iadd d3_stillWanted_29 ?_
  obtain ⟨hz3, h⟩ := mm_gz h
  refine mm_irem d3_stillWanted_30 hz3 ?_
  have h := Option.some.inj h
  subst h
  exact mm_iret rfl d3_stillWanted_31 ⟨rfl, rfl, rfl⟩
set_option maxHeartbeats 4000000 in
set_option maxRecDepth 100000 in
theorem ok3_wantedInAll_4_b (l : Launch) {S : mm_Sh} (hS : mm_WT S) {n : Nat}  {rec4 : Nat → Int32 → Int32 → mm_I → mm_J → Option (Int32)} (hrec4 : ∀ {v0 : Nat} {v1 : Int32} {v2 : Int32} (_ : mm_is S v0 3) {I : mm_I} {J : mm_J} {o : Int32}, rec4 v0 v1 v2 I J = some o → mm_W l M3_wantedInAll (mm_rm (mm_rk M3_wantedInAll)) 0 0 S (mm_end S (mm_Qi o I J)) 4 [(0, .ref v0), (1, .int v1), (2, .int v2)] [] I J) {v0 : Nat} {v1 : Int32} {v2 : Int32} (h0 : mm_is S v0 3) {I : mm_I} {J : mm_J} {o : Int32} (h : f3_wantedInAll_4_b S n rec4 v0 v1 v2 I J = some o) : mm_W l M3_wantedInAll (mm_rm (mm_rk M3_wantedInAll)) 0 0 S (mm_end S (mm_Qi o I J)) 4 [(0, .ref v0), (1, .int v1), (2, .int v2)] [] I J := by
  unfold f3_wantedInAll_4_b at h
  refine mm_iload_n d3_wantedInAll_4 rfl ?_
  refine mm_aload_n d3_wantedInAll_5 rfl ?_
  refine mm_getR fl_X3_33 d3_wantedInAll_6 (mm_wtR hS 100 h0 rfl rfl) ?_
  refine mm_getI fl_X3_78 d3_wantedInAll_9 (mm_wtI hS (mm_wtT hS 0 0 h0 rfl) rfl) ?_
  refine mm_icmp_ge (tgt := 32) d3_wantedInAll_12 (by decide) (fun hc1 => ?_) (fun hc1 => ?_)
  · rw [if_pos hc1] at h
    refine mm_iload_n d3_wantedInAll_32 rfl ?_
    have h := Option.some.inj h
    subst h
    exact mm_iret rfl d3_wantedInAll_33 ⟨rfl, rfl, rfl⟩
  · rw [if_neg hc1] at h
    refine mm_iload_n d3_wantedInAll_15 rfl ?_
    refine mm_aload_n d3_wantedInAll_16 rfl ?_
    refine mm_getR fl_X3_41 d3_wantedInAll_17 (mm_wtR hS 106 h0 rfl rfl) ?_
    refine mm_iload_n d3_wantedInAll_20 rfl ?_
    obtain ⟨o2, hk2, h⟩ := mm_bd h
    refine mm_cVi 6 (As := [.int v2]) (ok6_at l hS (mm_wtT hS 2 6 h0 rfl) hk2) lk_X3_71 rfl d3_wantedInAll_21 (mm_room rfl rfl) rfl (mm_wtT hS 2 6 h0 rfl) rfl rfl ?_
    refine mm_iadd d3_wantedInAll_24 ?_
    refine mm_istore_n d3_wantedInAll_25 rfl rfl ?_
    refine mm_iinc (v := v2 + 1) d3_wantedInAll_26 rfl rfl rfl rfl ?_
    refine mm_goto (tgt := 4) d3_wantedInAll_29 (by decide) ?_
    refine mm_sub [(0, .ref v0), (1, .int (v1 + o2)), (2, .int (v2 + 1))] ⟨rfl, rfl, rfl, trivial⟩ ?_
    exact hrec4 h0 h
set_option maxHeartbeats 4000000 in
set_option maxRecDepth 100000 in
theorem ok3_wantedInAll_4 (l : Launch) {S : mm_Sh} (hS : mm_WT S) {n : Nat}  : ∀ (k : Nat) {v0 : Nat} {v1 : Int32} {v2 : Int32} (h0 : mm_is S v0 3) {I : mm_I} {J : mm_J} {o : Int32}, f3_wantedInAll_4 S n k v0 v1 v2 I J = some o → mm_W l M3_wantedInAll (mm_rm (mm_rk M3_wantedInAll)) 0 0 S (mm_end S (mm_Qi o I J)) 4 [(0, .ref v0), (1, .int v1), (2, .int v2)] [] I J := by
  intro k
  induction k with
  | zero =>
    intros
    rename_i h
    cases h
  | succ k ih =>
    intro v0 v1 v2 h0 I J o h
    exact ok3_wantedInAll_4_b l hS (fun {v0 v1 v2} h0 {I J o} h => ih h0 h) h0 h
set_option maxHeartbeats 4000000 in
set_option maxRecDepth 100000 in
theorem ok3_wantedInAll (l : Launch) {S : mm_Sh} (hS : mm_WT S) {n : Nat}  {v0 : Nat} (h0 : mm_is S v0 3) {I : mm_I} {J : mm_J} {o : Int32} (h : f3_wantedInAll S n v0 I J = some o) : mm_C l M3_wantedInAll S [.ref v0] I J (mm_Qi o I J) := by
  unfold f3_wantedInAll at h
  refine mm_enter rfl (by decide +kernel) rfl ?_
  refine mm_iconst (v := 0) d3_wantedInAll_0 (by decide +kernel) ?_
  refine mm_istore_n d3_wantedInAll_1 rfl rfl ?_
  refine mm_iconst (v := 0) d3_wantedInAll_2 (by decide +kernel) ?_
  refine mm_istore_n d3_wantedInAll_3 rfl rfl ?_
  refine mm_sub [(0, .ref v0), (1, .int 0), (2, .int 0)] ⟨rfl, rfl, rfl, trivial⟩ ?_
  exact ok3_wantedInAll_4 l hS  n h0 h
set_option maxHeartbeats 4000000 in
set_option maxRecDepth 100000 in
theorem ok4_advance_123 (l : Launch) {S : mm_Sh} (hS : mm_WT S) {n : Nat}  {v0 : Nat} {v1 : Int32} (h0 : mm_is S v0 4) {I : mm_I} {J : mm_J} {o : mm_I × mm_J} (h : f4_advance_123 S n v0 v1 I J = some o) : mm_W l M4_advance (mm_rm (mm_rk M4_advance)) 0 0 S (mm_end S (mm_Qv o.1 o.2)) 123 [(0, .ref v0), (1, .int v1)] [] I J := by
  unfold f4_advance_123 at h
  refine mm_aload_n d4_advance_123 rfl ?_
  refine mm_iload_n d4_advance_124 rfl ?_
  refine mm_putI fp_X4_30 d4_advance_125 (mm_wtI hS h0 rfl) ?_
  have h := Option.some.inj h
  subst h
  exact mm_vret rfl d4_advance_128 ⟨rfl, rfl, rfl⟩
set_option maxHeartbeats 4000000 in
set_option maxRecDepth 100000 in
theorem ok4_advance_99 (l : Launch) {S : mm_Sh} (hS : mm_WT S) {n : Nat}  {rec75 : Nat → Int32 → mm_I → mm_J → Option (mm_I × mm_J)} (hrec75 : ∀ {v0 : Nat} {v1 : Int32} (_ : mm_is S v0 4) {I : mm_I} {J : mm_J} {o : mm_I × mm_J}, rec75 v0 v1 I J = some o → mm_W l M4_advance (mm_rm (mm_rk M4_advance)) 0 0 S (mm_end S (mm_Qv o.1 o.2)) 75 [(0, .ref v0), (1, .int v1)] [] I J) {v0 : Nat} {v1 : Int32} (h0 : mm_is S v0 4) {I : mm_I} {J : mm_J} {o : mm_I × mm_J} (h : f4_advance_99 S n rec75 v0 v1 I J = some o) : mm_W l M4_advance (mm_rm (mm_rk M4_advance)) 0 0 S (mm_end S (mm_Qv o.1 o.2)) 99 [(0, .ref v0), (1, .int v1)] [] I J := by
  unfold f4_advance_99 at h
  refine mm_aload_n d4_advance_99 rfl ?_
  refine mm_getR fl_X4_14 d4_advance_100 (mm_wtR hS 106 h0 rfl rfl) ?_
  refine mm_iload_n d4_advance_103 rfl ?_
  obtain ⟨o1, hk1, h⟩ := mm_bd h
  refine mm_cVi 6 (As := [.int v1]) (ok6_at l hS (mm_wtT hS 0 6 h0 rfl) hk1) lk_X4_46 rfl d4_advance_104 (mm_room rfl rfl) rfl (mm_wtT hS 0 6 h0 rfl) rfl rfl ?_
  obtain ⟨o2, hk2, h⟩ := mm_bd h
  refine mm_cSi (As := [.int o1]) (ok4_tokenOf l hS hk2) lk_X4_50 rfl d4_advance_107 (mm_room rfl rfl) rfl rfl ?_
  refine mm_aload_n d4_advance_110 rfl ?_
  refine mm_getI fl_X4_24 d4_advance_111 (mm_wtI hS h0 rfl) ?_
  refine mm_icmp_ne (tgt := 123) d4_advance_114 (by decide) (fun hc3 => ?_) (fun hc3 => ?_)
  · rw [if_neg hc3] at h
    refine mm_sub [(0, .ref v0), (1, .int v1)] ⟨rfl, rfl, trivial⟩ ?_
    exact ok4_advance_123 l hS  h0 h
  · rw [if_pos hc3] at h
    refine mm_iinc (v := v1 + 1) d4_advance_117 rfl rfl rfl rfl ?_
    refine mm_goto (tgt := 75) d4_advance_120 (by decide) ?_
    refine mm_sub [(0, .ref v0), (1, .int (v1 + 1))] ⟨rfl, rfl, trivial⟩ ?_
    exact hrec75 h0 h
set_option maxHeartbeats 4000000 in
set_option maxRecDepth 100000 in
theorem ok4_advance_75_b (l : Launch) {S : mm_Sh} (hS : mm_WT S) {n : Nat}  {rec75 : Nat → Int32 → mm_I → mm_J → Option (mm_I × mm_J)} (hrec75 : ∀ {v0 : Nat} {v1 : Int32} (_ : mm_is S v0 4) {I : mm_I} {J : mm_J} {o : mm_I × mm_J}, rec75 v0 v1 I J = some o → mm_W l M4_advance (mm_rm (mm_rk M4_advance)) 0 0 S (mm_end S (mm_Qv o.1 o.2)) 75 [(0, .ref v0), (1, .int v1)] [] I J) {v0 : Nat} {v1 : Int32} (h0 : mm_is S v0 4) {I : mm_I} {J : mm_J} {o : mm_I × mm_J} (h : f4_advance_75_b S n rec75 v0 v1 I J = some o) : mm_W l M4_advance (mm_rm (mm_rk M4_advance)) 0 0 S (mm_end S (mm_Qv o.1 o.2)) 75 [(0, .ref v0), (1, .int v1)] [] I J := by
  unfold f4_advance_75_b at h
  refine mm_iload_n d4_advance_75 rfl ?_
  refine mm_aload_n d4_advance_76 rfl ?_
  refine mm_getI fl_X4_20 d4_advance_77 (mm_wtI hS h0 rfl) ?_
  refine mm_icmp_ge (tgt := 123) d4_advance_80 (by decide) (fun hc1 => ?_) (fun hc1 => ?_)
  · rw [if_pos hc1] at h
    refine mm_sub [(0, .ref v0), (1, .int v1)] ⟨rfl, rfl, trivial⟩ ?_
    exact ok4_advance_123 l hS  h0 h
  · rw [if_neg hc1] at h
    refine mm_aload_n d4_advance_83 rfl ?_
    refine mm_getI fl_X4_24 d4_advance_84 (mm_wtI hS h0 rfl) ?_
    refine mm_iconst (v := 1) d4_advance_87 (by decide +kernel) ?_
    refine mm_icmp_eq (tgt := 99) d4_advance_88 (by decide) (fun hc2 => ?_) (fun hc2 => ?_)
    · rw [if_pos hc2] at h
      refine mm_sub [(0, .ref v0), (1, .int v1)] ⟨rfl, rfl, trivial⟩ ?_
      exact ok4_advance_99 l hS hrec75 h0 h
    · rw [if_neg hc2] at h
      refine mm_aload_n d4_advance_91 rfl ?_
      refine mm_getI fl_X4_24 d4_advance_92 (mm_wtI hS h0 rfl) ?_
      refine mm_iconst (v := 2) d4_advance_95 (by decide +kernel) ?_
      refine mm_icmp_ne (tgt := 123) d4_advance_96 (by decide) (fun hc3 => ?_) (fun hc3 => ?_)
      · rw [if_neg hc3] at h
        refine mm_sub [(0, .ref v0), (1, .int v1)] ⟨rfl, rfl, trivial⟩ ?_
        exact ok4_advance_123 l hS  h0 h
      · rw [if_pos hc3] at h
        refine mm_sub [(0, .ref v0), (1, .int v1)] ⟨rfl, rfl, trivial⟩ ?_
        exact ok4_advance_99 l hS hrec75 h0 h
set_option maxHeartbeats 4000000 in
set_option maxRecDepth 100000 in
theorem ok4_advance_75 (l : Launch) {S : mm_Sh} (hS : mm_WT S) {n : Nat}  : ∀ (k : Nat) {v0 : Nat} {v1 : Int32} (h0 : mm_is S v0 4) {I : mm_I} {J : mm_J} {o : mm_I × mm_J}, f4_advance_75 S n k v0 v1 I J = some o → mm_W l M4_advance (mm_rm (mm_rk M4_advance)) 0 0 S (mm_end S (mm_Qv o.1 o.2)) 75 [(0, .ref v0), (1, .int v1)] [] I J := by
  intro k
  induction k with
  | zero =>
    intros
    rename_i h
    cases h
  | succ k ih =>
    intro v0 v1 h0 I J o h
    exact ok4_advance_75_b l hS (fun {v0 v1} h0 {I J o} h => ih h0 h) h0 h
set_option maxHeartbeats 4000000 in
set_option maxRecDepth 100000 in
theorem ok4_advance_61 (l : Launch) {S : mm_Sh} (hS : mm_WT S) {n : Nat}  {v0 : Nat} {v1 : Int32} {s0 : Nat} {s1 : Int32} (h0 : mm_is S v0 4) (g0 : mm_is S s0 4) {I : mm_I} {J : mm_J} {o : mm_I × mm_J} (h : f4_advance_61 S n v0 v1 s0 s1 I J = some o) : mm_W l M4_advance (mm_rm (mm_rk M4_advance)) 0 0 S (mm_end S (mm_Qv o.1 o.2)) 61 [(0, .ref v0), (1, .int v1)] [.int s1, .ref s0] I J := by
  unfold f4_advance_61 at h
  refine mm_putI fp_X4_24 d4_advance_61 (mm_wtI hS g0 rfl) ?_
  refine mm_iload_n d4_advance_64 rfl ?_
  refine mm_aload_n d4_advance_65 rfl ?_
  refine mm_getI fl_X4_20 d4_advance_66 (mm_wtI hS h0 rfl) ?_
  refine mm_icmp_ge (tgt := 75) d4_advance_69 (by decide) (fun hc1 => ?_) (fun hc1 => ?_)
  · rw [if_pos hc1] at h
    refine mm_sub [(0, .ref v0), (1, .int v1)] ⟨rfl, rfl, trivial⟩ ?_
    exact ok4_advance_75 l hS  n h0 h
  · rw [if_neg hc1] at h
    refine mm_iinc (v := v1 + 1) d4_advance_72 rfl rfl rfl rfl ?_
    refine mm_sub [(0, .ref v0), (1, .int (v1 + 1))] ⟨rfl, rfl, trivial⟩ ?_
    exact ok4_advance_75 l hS  n h0 h
set_option maxHeartbeats 4000000 in
set_option maxRecDepth 100000 in
theorem ok4_advance_32 (l : Launch) {S : mm_Sh} (hS : mm_WT S) {n : Nat}  {v0 : Nat} {v1 : Int32} (h0 : mm_is S v0 4) {I : mm_I} {J : mm_J} {o : mm_I × mm_J} (h : f4_advance_32 S n v0 v1 I J = some o) : mm_W l M4_advance (mm_rm (mm_rk M4_advance)) 0 0 S (mm_end S (mm_Qv o.1 o.2)) 32 [(0, .ref v0), (1, .int v1)] [] I J := by
  unfold f4_advance_32 at h
  refine mm_aload_n d4_advance_32 rfl ?_
  refine mm_iload_n d4_advance_33 rfl ?_
  refine mm_putI fp_X4_27 d4_advance_34 (mm_wtI hS h0 rfl) ?_
  refine mm_aload_n d4_advance_37 rfl ?_
  refine mm_iload_n d4_advance_38 rfl ?_
  refine mm_aload_n d4_advance_39 rfl ?_
  refine mm_getI fl_X4_20 d4_advance_40 (mm_wtI hS h0 rfl) ?_
  refine mm_icmp_ge (tgt := 60) d4_advance_43 (by decide) (fun hc1 => ?_) (fun hc1 => ?_)
  · rw [if_pos hc1] at h
    refine mm_iconst (v := 0) d4_advance_60 (by decide +kernel) ?_
    refine mm_sub [(0, .ref v0), (1, .int v1)] ⟨rfl, rfl, trivial⟩ ?_
    exact ok4_advance_61 l hS  h0 h0 h
  · rw [if_neg hc1] at h
    refine mm_aload_n d4_advance_46 rfl ?_
    refine mm_getR fl_X4_14 d4_advance_47 (mm_wtR hS 106 h0 rfl rfl) ?_
    refine mm_iload_n d4_advance_50 rfl ?_
    obtain ⟨o2, hk2, h⟩ := mm_bd h
    refine mm_cVi 6 (As := [.int v1]) (ok6_at l hS (mm_wtT hS 0 6 h0 rfl) hk2) lk_X4_46 rfl d4_advance_51 (mm_room rfl rfl) rfl (mm_wtT hS 0 6 h0 rfl) rfl rfl ?_
    obtain ⟨o3, hk3, h⟩ := mm_bd h
    refine mm_cSi (As := [.int o2]) (ok4_tokenOf l hS hk3) lk_X4_50 rfl d4_advance_54 (mm_room rfl rfl) rfl rfl ?_
    refine mm_goto (tgt := 61) d4_advance_57 (by decide) ?_
    refine mm_sub [(0, .ref v0), (1, .int v1)] ⟨rfl, rfl, trivial⟩ ?_
    exact ok4_advance_61 l hS  h0 h0 h
set_option maxHeartbeats 4000000 in
set_option maxRecDepth 100000 in
theorem ok4_advance_5_b (l : Launch) {S : mm_Sh} (hS : mm_WT S) {n : Nat}  {rec5 : Nat → Int32 → mm_I → mm_J → Option (mm_I × mm_J)} (hrec5 : ∀ {v0 : Nat} {v1 : Int32} (_ : mm_is S v0 4) {I : mm_I} {J : mm_J} {o : mm_I × mm_J}, rec5 v0 v1 I J = some o → mm_W l M4_advance (mm_rm (mm_rk M4_advance)) 0 0 S (mm_end S (mm_Qv o.1 o.2)) 5 [(0, .ref v0), (1, .int v1)] [] I J) {v0 : Nat} {v1 : Int32} (h0 : mm_is S v0 4) {I : mm_I} {J : mm_J} {o : mm_I × mm_J} (h : f4_advance_5_b S n rec5 v0 v1 I J = some o) : mm_W l M4_advance (mm_rm (mm_rk M4_advance)) 0 0 S (mm_end S (mm_Qv o.1 o.2)) 5 [(0, .ref v0), (1, .int v1)] [] I J := by
  unfold f4_advance_5_b at h
  refine mm_iload_n d4_advance_5 rfl ?_
  refine mm_aload_n d4_advance_6 rfl ?_
  refine mm_getI fl_X4_20 d4_advance_7 (mm_wtI hS h0 rfl) ?_
  refine mm_icmp_ge (tgt := 32) d4_advance_10 (by decide) (fun hc1 => ?_) (fun hc1 => ?_)
  · rw [if_pos hc1] at h
    refine mm_sub [(0, .ref v0), (1, .int v1)] ⟨rfl, rfl, trivial⟩ ?_
    exact ok4_advance_32 l hS  h0 h
  · rw [if_neg hc1] at h
    refine mm_aload_n d4_advance_13 rfl ?_
    refine mm_getR fl_X4_14 d4_advance_14 (mm_wtR hS 106 h0 rfl rfl) ?_
    refine mm_iload_n d4_advance_17 rfl ?_
    obtain ⟨o2, hk2, h⟩ := mm_bd h
    refine mm_cVi 6 (As := [.int v1]) (ok6_at l hS (mm_wtT hS 0 6 h0 rfl) hk2) lk_X4_46 rfl d4_advance_18 (mm_room rfl rfl) rfl (mm_wtT hS 0 6 h0 rfl) rfl rfl ?_
    refine mm_bipush (v := 32) d4_advance_21 (by decide +kernel) ?_
    refine mm_icmp_ne (tgt := 32) d4_advance_23 (by decide) (fun hc3 => ?_) (fun hc3 => ?_)
    · rw [if_neg hc3] at h
      refine mm_sub [(0, .ref v0), (1, .int v1)] ⟨rfl, rfl, trivial⟩ ?_
      exact ok4_advance_32 l hS  h0 h
    · rw [if_pos hc3] at h
      refine mm_iinc (v := v1 + 1) d4_advance_26 rfl rfl rfl rfl ?_
      refine mm_goto (tgt := 5) d4_advance_29 (by decide) ?_
      refine mm_sub [(0, .ref v0), (1, .int (v1 + 1))] ⟨rfl, rfl, trivial⟩ ?_
      exact hrec5 h0 h
set_option maxHeartbeats 4000000 in
set_option maxRecDepth 100000 in
theorem ok4_advance_5 (l : Launch) {S : mm_Sh} (hS : mm_WT S) {n : Nat}  : ∀ (k : Nat) {v0 : Nat} {v1 : Int32} (h0 : mm_is S v0 4) {I : mm_I} {J : mm_J} {o : mm_I × mm_J}, f4_advance_5 S n k v0 v1 I J = some o → mm_W l M4_advance (mm_rm (mm_rk M4_advance)) 0 0 S (mm_end S (mm_Qv o.1 o.2)) 5 [(0, .ref v0), (1, .int v1)] [] I J := by
  intro k
  induction k with
  | zero =>
    intros
    rename_i h
    cases h
  | succ k ih =>
    intro v0 v1 h0 I J o h
    exact ok4_advance_5_b l hS (fun {v0 v1} h0 {I J o} h => ih h0 h) h0 h
set_option maxHeartbeats 4000000 in
set_option maxRecDepth 100000 in
theorem ok4_advance (l : Launch) {S : mm_Sh} (hS : mm_WT S) {n : Nat}  {v0 : Nat} (h0 : mm_is S v0 4) {I : mm_I} {J : mm_J} {o : mm_I × mm_J} (h : f4_advance S n v0 I J = some o) : mm_C l M4_advance S [.ref v0] I J (mm_Qv o.1 o.2) := by
  unfold f4_advance at h
  refine mm_enter rfl (by decide +kernel) rfl ?_
  refine mm_aload_n d4_advance_0 rfl ?_
  refine mm_getI fl_X4_30 d4_advance_1 (mm_wtI hS h0 rfl) ?_
  refine mm_istore_n d4_advance_4 rfl rfl ?_
  refine mm_sub [(0, .ref v0), (1, .int (I v0 4))] ⟨rfl, rfl, trivial⟩ ?_
  exact ok4_advance_5 l hS  n h0 h
set_option maxHeartbeats 4000000 in
set_option maxRecDepth 100000 in
theorem ok4_append (l : Launch) {S : mm_Sh} (hS : mm_WT S)  {v0 : Nat} {v1 : Int32} (h0 : mm_is S v0 4) {I : mm_I} {J : mm_J} {o : mm_I × mm_J} (h : f4_append S v0 v1 I J = some o) : mm_C l M4_append S [.ref v0, .int v1] I J (mm_Qv o.1 o.2) := by
  unfold f4_append at h
  refine mm_enter rfl (by decide +kernel) rfl ?_
  refine mm_aload_n d4_append_0 rfl ?_
  refine mm_getR fl_X4_14 d4_append_1 (mm_wtR hS 106 h0 rfl rfl) ?_
  refine mm_aload_n d4_append_4 rfl ?_
  refine mm_getI fl_X4_20 d4_append_5 (mm_wtI hS h0 rfl) ?_
  refine mm_iload_n d4_append_8 rfl ?_
  obtain ⟨o1, hk1, h⟩ := mm_bd h
  refine mm_cVv 6 (As := [.int (I v0 1), .int v1]) (ok6_put l hS (mm_wtT hS 0 6 h0 rfl) hk1) lk_X4_39 rfl d4_append_9 (mm_room rfl rfl) rfl (mm_wtT hS 0 6 h0 rfl) rfl rfl ?_
  refine mm_aload_n d4_append_12 rfl ?_
  refine mm_dup d4_append_13 rfl ?_
  refine mm_getI fl_X4_20 d4_append_14 (mm_wtI hS h0 rfl) ?_
  refine mm_iconst (v := 1) d4_append_17 (by decide +kernel) ?_
  refine mm_iadd d4_append_18 ?_
  refine mm_putI fp_X4_20 d4_append_19 (mm_wtI hS h0 rfl) ?_
  have h := Option.some.inj h
  subst h
  exact mm_vret rfl d4_append_22 ⟨rfl, rfl, rfl⟩
set_option maxHeartbeats 4000000 in
set_option maxRecDepth 100000 in
theorem ok4_figures_7_b (l : Launch) {S : mm_Sh} (hS : mm_WT S) {n : Nat}  {rec7 : Nat → Int32 → Int32 → mm_I → mm_J → Option (Int32)} (hrec7 : ∀ {v0 : Nat} {v1 : Int32} {v2 : Int32} (_ : mm_is S v0 4) {I : mm_I} {J : mm_J} {o : Int32}, rec7 v0 v1 v2 I J = some o → mm_W l M4_figures (mm_rm (mm_rk M4_figures)) 0 0 S (mm_end S (mm_Qi o I J)) 7 [(0, .ref v0), (1, .int v1), (2, .int v2)] [] I J) {v0 : Nat} {v1 : Int32} {v2 : Int32} (h0 : mm_is S v0 4) {I : mm_I} {J : mm_J} {o : Int32} (h : f4_figures_7_b S n rec7 v0 v1 v2 I J = some o) : mm_W l M4_figures (mm_rm (mm_rk M4_figures)) 0 0 S (mm_end S (mm_Qi o I J)) 7 [(0, .ref v0), (1, .int v1), (2, .int v2)] [] I J := by
  unfold f4_figures_7_b at h
  refine mm_iload_n d4_figures_7 rfl ?_
  refine mm_aload_n d4_figures_8 rfl ?_
  refine mm_getI fl_X4_30 d4_figures_9 (mm_wtI hS h0 rfl) ?_
  refine mm_icmp_ge (tgt := 38) d4_figures_12 (by decide) (fun hc1 => ?_) (fun hc1 => ?_)
  · rw [if_pos hc1] at h
    refine mm_iload_n d4_figures_38 rfl ?_
    have h := Option.some.inj h
    subst h
    exact mm_iret rfl d4_figures_39 ⟨rfl, rfl, rfl⟩
  · rw [if_neg hc1] at h
    refine mm_iload_n d4_figures_15 rfl ?_
    refine mm_bipush (v := 10) d4_figures_16 (by decide +kernel) ?_
    refine mm_imul d4_figures_18 ?_
    refine mm_aload_n d4_figures_19 rfl ?_
    refine mm_getR fl_X4_14 d4_figures_20 (mm_wtR hS 106 h0 rfl rfl) ?_
    refine mm_iload_n d4_figures_23 rfl ?_
    obtain ⟨o2, hk2, h⟩ := mm_bd h
    refine mm_cVi 6 (As := [.int v2]) (ok6_at l hS (mm_wtT hS 0 6 h0 rfl) hk2) lk_X4_46 rfl d4_figures_24 (mm_room rfl rfl) rfl (mm_wtT hS 0 6 h0 rfl) rfl rfl ?_
    refine mm_iadd d4_figures_27 ?_
    refine mm_bipush (v := 48) d4_figures_28 (by decide +kernel) ?_
    refine mm_isub d4_figures_30 ?_
    refine mm_istore_n d4_figures_31 rfl rfl ?_
    refine mm_iinc (v := v2 + 1) d4_figures_32 rfl rfl rfl rfl ?_
    refine mm_goto (tgt := 7) d4_figures_35 (by decide) ?_
    refine mm_sub [(0, .ref v0), (1, .int (((v1 * 10) + o2) - 48)), (2, .int (v2 + 1))] ⟨rfl, rfl, rfl, trivial⟩ ?_
    exact hrec7 h0 h
set_option maxHeartbeats 4000000 in
set_option maxRecDepth 100000 in
theorem ok4_figures_7 (l : Launch) {S : mm_Sh} (hS : mm_WT S) {n : Nat}  : ∀ (k : Nat) {v0 : Nat} {v1 : Int32} {v2 : Int32} (h0 : mm_is S v0 4) {I : mm_I} {J : mm_J} {o : Int32}, f4_figures_7 S n k v0 v1 v2 I J = some o → mm_W l M4_figures (mm_rm (mm_rk M4_figures)) 0 0 S (mm_end S (mm_Qi o I J)) 7 [(0, .ref v0), (1, .int v1), (2, .int v2)] [] I J := by
  intro k
  induction k with
  | zero =>
    intros
    rename_i h
    cases h
  | succ k ih =>
    intro v0 v1 v2 h0 I J o h
    exact ok4_figures_7_b l hS (fun {v0 v1 v2} h0 {I J o} h => ih h0 h) h0 h
set_option maxHeartbeats 4000000 in
set_option maxRecDepth 100000 in
theorem ok4_figures (l : Launch) {S : mm_Sh} (hS : mm_WT S) {n : Nat}  {v0 : Nat} (h0 : mm_is S v0 4) {I : mm_I} {J : mm_J} {o : Int32} (h : f4_figures S n v0 I J = some o) : mm_C l M4_figures S [.ref v0] I J (mm_Qi o I J) := by
  unfold f4_figures at h
  refine mm_enter rfl (by decide +kernel) rfl ?_
  refine mm_iconst (v := 0) d4_figures_0 (by decide +kernel) ?_
  refine mm_istore_n d4_figures_1 rfl rfl ?_
  refine mm_aload_n d4_figures_2 rfl ?_
  refine mm_getI fl_X4_27 d4_figures_3 (mm_wtI hS h0 rfl) ?_
  refine mm_istore_n d4_figures_6 rfl rfl ?_
  refine mm_sub [(0, .ref v0), (1, .int 0), (2, .int (I v0 3))] ⟨rfl, rfl, rfl, trivial⟩ ?_
  exact ok4_figures_7 l hS  n h0 h
set_option maxHeartbeats 4000000 in
set_option maxRecDepth 100000 in
theorem ok5_closeRing_37 (l : Launch) {S : mm_Sh} (hS : mm_WT S) {n : Nat}    {I : mm_I} {J : mm_J} {o : mm_I × mm_J} (h : f5_closeRing_37 S n  I J = some o) : mm_W l M5_closeRing (mm_rm (mm_rk M5_closeRing)) 0 0 S (mm_end S (mm_Qv o.1 o.2)) 37 [] [] I J := by
  unfold f5_closeRing_37 at h
  have h := Option.some.inj h
  subst h
  exact mm_vret rfl d5_closeRing_37 ⟨rfl, rfl, rfl⟩
set_option maxHeartbeats 4000000 in
set_option maxRecDepth 100000 in
theorem ok5_closeRing (l : Launch) {S : mm_Sh} (hS : mm_WT S) {n : Nat}  {v0 : Nat} {v1 : Int32} {v2 : Int32} {v3 : Int32} (h0 : mm_is S v0 5) {I : mm_I} {J : mm_J} {o : mm_I × mm_J} (h : f5_closeRing S n v0 v1 v2 v3 I J = some o) : mm_C l M5_closeRing S [.ref v0, .int v1, .int v2, .int v3] I J (mm_Qv o.1 o.2) := by
  unfold f5_closeRing at h
  refine mm_enter rfl (by decide +kernel) rfl ?_
  refine mm_iload_n d5_closeRing_0 rfl ?_
  refine mm_if_le (tgt := 37) d5_closeRing_1 (by decide) (fun hc1 => ?_) (fun hc1 => ?_)
  · rw [if_pos hc1] at h
    refine mm_sub [] trivial ?_
    exact ok5_closeRing_37 l hS   h
  · rw [if_neg hc1] at h
    refine mm_iload_n d5_closeRing_4 rfl ?_
    refine mm_iload_n d5_closeRing_5 rfl ?_
    refine mm_iadd d5_closeRing_6 ?_
    refine mm_aload_n d5_closeRing_7 rfl ?_
    refine mm_getI fl_X5_29 d5_closeRing_8 (mm_wtI hS h0 rfl) ?_
    refine mm_icmp_le (tgt := 37) d5_closeRing_11 (by decide) (fun hc2 => ?_) (fun hc2 => ?_)
    · rw [if_pos hc2] at h
      refine mm_sub [] trivial ?_
      exact ok5_closeRing_37 l hS   h
    · rw [if_neg hc2] at h
      refine mm_aload_n d5_closeRing_14 rfl ?_
      refine mm_iload_n d5_closeRing_15 rfl ?_
      refine mm_iload_n d5_closeRing_16 rfl ?_
      refine mm_iadd d5_closeRing_17 ?_
      refine mm_putI fp_X5_29 d5_closeRing_18 (mm_wtI hS h0 rfl) ?_
      refine mm_aload_n d5_closeRing_21 rfl ?_
      refine mm_iload_n d5_closeRing_22 rfl ?_
      refine mm_putI fp_X5_33 d5_closeRing_23 (mm_wtI hS h0 rfl) ?_
      refine mm_aload_n d5_closeRing_26 rfl ?_
      refine mm_getR fl_X5_26 d5_closeRing_27 (mm_wtR hS 106 h0 rfl rfl) ?_
      refine mm_aload_n d5_closeRing_30 rfl ?_
      refine mm_getR fl_X5_23 d5_closeRing_31 (mm_wtR hS 106 h0 rfl rfl) ?_
      obtain ⟨o3, hk3, h⟩ := mm_bd h
      refine mm_cVv 6 (As := [.ref (mm_rf S v0 3)]) (ok6_copyFrom l hS (mm_wtT hS 4 6 h0 rfl) (mm_wtT hS 3 6 h0 rfl) hk3) lk_X5_112 rfl d5_closeRing_34 (mm_room rfl rfl) rfl (mm_wtT hS 4 6 h0 rfl) rfl rfl ?_
      refine mm_sub [] trivial ?_
      exact ok5_closeRing_37 l hS   h
set_option maxHeartbeats 4000000 in
set_option maxRecDepth 100000 in
theorem ok5_gainFrom (l : Launch) {S : mm_Sh} (hS : mm_WT S)  {v0 : Nat} {v1 : Int32} {v2 : Int32} (h0 : mm_is S v0 5) {I : mm_I} {J : mm_J} {o : Int32} (h : f5_gainFrom S v0 v1 v2 I J = some o) : mm_C l M5_gainFrom S [.ref v0, .int v1, .int v2] I J (mm_Qi o I J) := by
  unfold f5_gainFrom at h
  refine mm_enter rfl (by decide +kernel) rfl ?_
  refine mm_aload_n d5_gainFrom_0 rfl ?_
  refine mm_getR fl_X5_20 d5_gainFrom_1 (mm_wtR hS 106 h0 rfl rfl) ?_
  refine mm_iload_n d5_gainFrom_4 rfl ?_
  refine mm_bipush (v := 8) d5_gainFrom_5 (by decide +kernel) ?_
  refine mm_imul d5_gainFrom_7 ?_
  refine mm_iload_n d5_gainFrom_8 rfl ?_
  refine mm_iadd d5_gainFrom_9 ?_
  obtain ⟨o1, hk1, h⟩ := mm_bd h
  refine mm_cVi 6 (As := [.int ((v1 * 8) + v2)]) (ok6_at l hS (mm_wtT hS 2 6 h0 rfl) hk1) lk_X5_75 rfl d5_gainFrom_10 (mm_room rfl rfl) rfl (mm_wtT hS 2 6 h0 rfl) rfl rfl ?_
  have h := Option.some.inj h
  subst h
  exact mm_iret rfl d5_gainFrom_13 ⟨rfl, rfl, rfl⟩
set_option maxHeartbeats 4000000 in
set_option maxRecDepth 100000 in
theorem ok5_isOnPath_2_b (l : Launch) {S : mm_Sh} (hS : mm_WT S) {n : Nat}  {rec2 : Nat → Int32 → Int32 → Int32 → mm_I → mm_J → Option (Int32)} (hrec2 : ∀ {v0 : Nat} {v1 : Int32} {v2 : Int32} {v3 : Int32} (_ : mm_is S v0 5) {I : mm_I} {J : mm_J} {o : Int32}, rec2 v0 v1 v2 v3 I J = some o → mm_W l M5_isOnPath (mm_rm (mm_rk M5_isOnPath)) 0 0 S (mm_end S (mm_Qi o I J)) 2 [(0, .ref v0), (1, .int v1), (2, .int v2), (3, .int v3)] [] I J) {v0 : Nat} {v1 : Int32} {v2 : Int32} {v3 : Int32} (h0 : mm_is S v0 5) {I : mm_I} {J : mm_J} {o : Int32} (h : f5_isOnPath_2_b S n rec2 v0 v1 v2 v3 I J = some o) : mm_W l M5_isOnPath (mm_rm (mm_rk M5_isOnPath)) 0 0 S (mm_end S (mm_Qi o I J)) 2 [(0, .ref v0), (1, .int v1), (2, .int v2), (3, .int v3)] [] I J := by
  unfold f5_isOnPath_2_b at h
  refine mm_iload_n d5_isOnPath_2 rfl ?_
  refine mm_iload_n d5_isOnPath_3 rfl ?_
  refine mm_icmp_ge (tgt := 27) d5_isOnPath_4 (by decide) (fun hc1 => ?_) (fun hc1 => ?_)
  · rw [if_pos hc1] at h
    refine mm_iconst (v := 0) d5_isOnPath_27 (by decide +kernel) ?_
    have h := Option.some.inj h
    subst h
    exact mm_zret rfl d5_isOnPath_28 (by decide) ⟨rfl, rfl, rfl⟩
  · rw [if_neg hc1] at h
    refine mm_aload_n d5_isOnPath_7 rfl ?_
    refine mm_getR fl_X5_23 d5_isOnPath_8 (mm_wtR hS 106 h0 rfl rfl) ?_
    refine mm_iload_n d5_isOnPath_11 rfl ?_
    obtain ⟨o2, hk2, h⟩ := mm_bd h
    refine mm_cVi 6 (As := [.int v3]) (ok6_at l hS (mm_wtT hS 3 6 h0 rfl) hk2) lk_X5_75 rfl d5_isOnPath_12 (mm_room rfl rfl) rfl (mm_wtT hS 3 6 h0 rfl) rfl rfl ?_
    refine mm_iload_n d5_isOnPath_15 rfl ?_
    refine mm_icmp_ne (tgt := 21) d5_isOnPath_16 (by decide) (fun hc3 => ?_) (fun hc3 => ?_)
    · rw [if_neg hc3] at h
      refine mm_iinc (v := v3 + 1) d5_isOnPath_21 rfl rfl rfl rfl ?_
      refine mm_goto (tgt := 2) d5_isOnPath_24 (by decide) ?_
      refine mm_sub [(0, .ref v0), (1, .int v1), (2, .int v2), (3, .int (v3 + 1))] ⟨rfl, rfl, rfl, rfl, trivial⟩ ?_
      exact hrec2 h0 h
    · rw [if_pos hc3] at h
      refine mm_iconst (v := 1) d5_isOnPath_19 (by decide +kernel) ?_
      have h := Option.some.inj h
      subst h
      exact mm_zret rfl d5_isOnPath_20 (by decide) ⟨rfl, rfl, rfl⟩
set_option maxHeartbeats 4000000 in
set_option maxRecDepth 100000 in
theorem ok5_isOnPath_2 (l : Launch) {S : mm_Sh} (hS : mm_WT S) {n : Nat}  : ∀ (k : Nat) {v0 : Nat} {v1 : Int32} {v2 : Int32} {v3 : Int32} (h0 : mm_is S v0 5) {I : mm_I} {J : mm_J} {o : Int32}, f5_isOnPath_2 S n k v0 v1 v2 v3 I J = some o → mm_W l M5_isOnPath (mm_rm (mm_rk M5_isOnPath)) 0 0 S (mm_end S (mm_Qi o I J)) 2 [(0, .ref v0), (1, .int v1), (2, .int v2), (3, .int v3)] [] I J := by
  intro k
  induction k with
  | zero =>
    intros
    rename_i h
    cases h
  | succ k ih =>
    intro v0 v1 v2 v3 h0 I J o h
    exact ok5_isOnPath_2_b l hS (fun {v0 v1 v2 v3} h0 {I J o} h => ih h0 h) h0 h
set_option maxHeartbeats 4000000 in
set_option maxRecDepth 100000 in
theorem ok5_isOnPath (l : Launch) {S : mm_Sh} (hS : mm_WT S) {n : Nat}  {v0 : Nat} {v1 : Int32} {v2 : Int32} (h0 : mm_is S v0 5) {I : mm_I} {J : mm_J} {o : Int32} (h : f5_isOnPath S n v0 v1 v2 I J = some o) : mm_C l M5_isOnPath S [.ref v0, .int v1, .int v2] I J (mm_Qi o I J) := by
  unfold f5_isOnPath at h
  refine mm_enter rfl (by decide +kernel) rfl ?_
  refine mm_iconst (v := 0) d5_isOnPath_0 (by decide +kernel) ?_
  refine mm_istore_n d5_isOnPath_1 rfl rfl ?_
  refine mm_sub [(0, .ref v0), (1, .int v1), (2, .int v2), (3, .int 0)] ⟨rfl, rfl, rfl, rfl, trivial⟩ ?_
  exact ok5_isOnPath_2 l hS  n h0 h
set_option maxHeartbeats 4000000 in
set_option maxRecDepth 100000 in
theorem ok8_addEntry (l : Launch) {S : mm_Sh} (hS : mm_WT S)  {v0 : Nat} {v1 : Int32} {v2 : Int32} {v3 : Int32} (h0 : mm_is S v0 8) {I : mm_I} {J : mm_J} {o : Int32 × mm_I × mm_J} (h : f8_addEntry S v0 v1 v2 v3 I J = some o) : mm_C l M8_addEntry S [.ref v0, .int v1, .int v2, .int v3] I J (mm_Qi o.1 o.2.1 o.2.2) := by
  unfold f8_addEntry at h
  refine mm_enter rfl (by decide +kernel) rfl ?_
  refine mm_aload_n d8_addEntry_0 rfl ?_
  refine mm_getR fl_X8_26 d8_addEntry_1 (mm_wtR hS 106 h0 rfl rfl) ?_
  refine mm_aload_n d8_addEntry_4 rfl ?_
  refine mm_getI fl_X8_39 d8_addEntry_5 (mm_wtI hS h0 rfl) ?_
  refine mm_iload_n d8_addEntry_8 rfl ?_
  obtain ⟨o1, hk1, h⟩ := mm_bd h
  refine mm_cVv 6 (As := [.int (I v0 7), .int v1]) (ok6_put l hS (mm_wtT hS 3 6 h0 rfl) hk1) lk_X8_51 rfl d8_addEntry_9 (mm_room rfl rfl) rfl (mm_wtT hS 3 6 h0 rfl) rfl rfl ?_
  refine mm_aload_n d8_addEntry_12 rfl ?_
  refine mm_getR fl_X8_29 d8_addEntry_13 (mm_wtR hS 106 h0 rfl rfl) ?_
  refine mm_aload_n d8_addEntry_16 rfl ?_
  refine mm_getI fl_X8_39 d8_addEntry_17 (mm_wtI hS h0 rfl) ?_
  refine mm_iload_n d8_addEntry_20 rfl ?_
  obtain ⟨o2, hk2, h⟩ := mm_bd h
  refine mm_cVv 6 (As := [.int (o1.1 v0 7), .int v2]) (ok6_put l hS (mm_wtT hS 4 6 h0 rfl) hk2) lk_X8_51 rfl d8_addEntry_21 (mm_room rfl rfl) rfl (mm_wtT hS 4 6 h0 rfl) rfl rfl ?_
  refine mm_aload_n d8_addEntry_24 rfl ?_
  refine mm_getR fl_X8_32 d8_addEntry_25 (mm_wtR hS 106 h0 rfl rfl) ?_
  refine mm_aload_n d8_addEntry_28 rfl ?_
  refine mm_getI fl_X8_39 d8_addEntry_29 (mm_wtI hS h0 rfl) ?_
  refine mm_iload_n d8_addEntry_32 rfl ?_
  obtain ⟨o3, hk3, h⟩ := mm_bd h
  refine mm_cVv 6 (As := [.int (o2.1 v0 7), .int v3]) (ok6_put l hS (mm_wtT hS 5 6 h0 rfl) hk3) lk_X8_51 rfl d8_addEntry_33 (mm_room rfl rfl) rfl (mm_wtT hS 5 6 h0 rfl) rfl rfl ?_
  refine mm_aload_n d8_addEntry_36 rfl ?_
  refine mm_dup d8_addEntry_37 rfl ?_
  refine mm_getI fl_X8_39 d8_addEntry_38 (mm_wtI hS h0 rfl) ?_
  refine mm_iconst (v := 1) d8_addEntry_41 (by decide +kernel) ?_
  refine mm_iadd d8_addEntry_42 ?_
  refine mm_putI fp_X8_39 d8_addEntry_43 (mm_wtI hS h0 rfl) ?_
  refine mm_aload_n d8_addEntry_46 rfl ?_
  refine mm_getI fl_X8_39 d8_addEntry_47 (mm_wtI hS h0 rfl) ?_
  have h := Option.some.inj h
  subst h
  exact mm_iret rfl d8_addEntry_50 ⟨rfl, rfl, rfl⟩
set_option maxHeartbeats 4000000 in
set_option maxRecDepth 100000 in
theorem ok8_addThing (l : Launch) {S : mm_Sh} (hS : mm_WT S)  {v0 : Nat} {v1 : Int32} {v2 : Int32} (h0 : mm_is S v0 8) {I : mm_I} {J : mm_J} {o : Int32 × mm_I × mm_J} (h : f8_addThing S v0 v1 v2 I J = some o) : mm_C l M8_addThing S [.ref v0, .int v1, .int v2] I J (mm_Qi o.1 o.2.1 o.2.2) := by
  unfold f8_addThing at h
  refine mm_enter rfl (by decide +kernel) rfl ?_
  refine mm_aload_n d8_addThing_0 rfl ?_
  refine mm_getR fl_X8_14 d8_addThing_1 (mm_wtR hS 106 h0 rfl rfl) ?_
  refine mm_aload_n d8_addThing_4 rfl ?_
  refine mm_getI fl_X8_35 d8_addThing_5 (mm_wtI hS h0 rfl) ?_
  refine mm_iload_n d8_addThing_8 rfl ?_
  obtain ⟨o1, hk1, h⟩ := mm_bd h
  refine mm_cVv 6 (As := [.int (I v0 6), .int v1]) (ok6_put l hS (mm_wtT hS 0 6 h0 rfl) hk1) lk_X8_51 rfl d8_addThing_9 (mm_room rfl rfl) rfl (mm_wtT hS 0 6 h0 rfl) rfl rfl ?_
  refine mm_aload_n d8_addThing_12 rfl ?_
  refine mm_getR fl_X8_20 d8_addThing_13 (mm_wtR hS 106 h0 rfl rfl) ?_
  refine mm_aload_n d8_addThing_16 rfl ?_
  refine mm_getI fl_X8_35 d8_addThing_17 (mm_wtI hS h0 rfl) ?_
  refine mm_iload_n d8_addThing_20 rfl ?_
  obtain ⟨o2, hk2, h⟩ := mm_bd h
  refine mm_cVv 6 (As := [.int (o1.1 v0 6), .int v2]) (ok6_put l hS (mm_wtT hS 1 6 h0 rfl) hk2) lk_X8_51 rfl d8_addThing_21 (mm_room rfl rfl) rfl (mm_wtT hS 1 6 h0 rfl) rfl rfl ?_
  refine mm_aload_n d8_addThing_24 rfl ?_
  refine mm_dup d8_addThing_25 rfl ?_
  refine mm_getI fl_X8_35 d8_addThing_26 (mm_wtI hS h0 rfl) ?_
  refine mm_iconst (v := 1) d8_addThing_29 (by decide +kernel) ?_
  refine mm_iadd d8_addThing_30 ?_
  refine mm_putI fp_X8_35 d8_addThing_31 (mm_wtI hS h0 rfl) ?_
  refine mm_aload_n d8_addThing_34 rfl ?_
  refine mm_getI fl_X8_35 d8_addThing_35 (mm_wtI hS h0 rfl) ?_
  have h := Option.some.inj h
  subst h
  exact mm_iret rfl d8_addThing_38 ⟨rfl, rfl, rfl⟩
set_option maxHeartbeats 4000000 in
set_option maxRecDepth 100000 in
theorem ok8_countIfFit_2_b (l : Launch) {S : mm_Sh} (hS : mm_WT S) {n : Nat}  {rec2 : Nat → Int32 → Int32 → mm_I → mm_J → Option (mm_I × mm_J)} (hrec2 : ∀ {v0 : Nat} {v1 : Int32} {v2 : Int32} (_ : mm_is S v0 8) {I : mm_I} {J : mm_J} {o : mm_I × mm_J}, rec2 v0 v1 v2 I J = some o → mm_W l M8_countIfFit (mm_rm (mm_rk M8_countIfFit)) 0 0 S (mm_end S (mm_Qv o.1 o.2)) 2 [(0, .ref v0), (1, .int v1), (2, .int v2)] [] I J) {v0 : Nat} {v1 : Int32} {v2 : Int32} (h0 : mm_is S v0 8) {I : mm_I} {J : mm_J} {o : mm_I × mm_J} (h : f8_countIfFit_2_b S n rec2 v0 v1 v2 I J = some o) : mm_W l M8_countIfFit (mm_rm (mm_rk M8_countIfFit)) 0 0 S (mm_end S (mm_Qv o.1 o.2)) 2 [(0, .ref v0), (1, .int v1), (2, .int v2)] [] I J := by
  unfold f8_countIfFit_2_b at h
  refine mm_iload_n d8_countIfFit_2 rfl ?_
  refine mm_aload_n d8_countIfFit_3 rfl ?_
  refine mm_getI fl_X8_35 d8_countIfFit_4 (mm_wtI hS h0 rfl) ?_
  refine mm_icmp_ge (tgt := 30) d8_countIfFit_7 (by decide) (fun hc1 => ?_) (fun hc1 => ?_)
  · rw [if_pos hc1] at h
    refine mm_aload_n d8_countIfFit_30 rfl ?_
    refine mm_dup d8_countIfFit_31 rfl ?_
    refine mm_getI fl_X8_42 d8_countIfFit_32 (mm_wtI hS h0 rfl) ?_
    refine mm_iconst (v := 1) d8_countIfFit_35 (by decide +kernel) ?_
    refine mm_iadd d8_countIfFit_36 ?_
    refine mm_putI fp_X8_42 d8_countIfFit_37 (mm_wtI hS h0 rfl) ?_
    refine mm_aload_n d8_countIfFit_40 rfl ?_
    refine mm_dup d8_countIfFit_41 rfl ?_
    refine mm_getI fl_X8_48 d8_countIfFit_42 (mm_wtI hS h0 rfl) ?_
    refine mm_iload_n d8_countIfFit_45 rfl ?_
    refine mm_iand d8_countIfFit_46 ?_
    refine mm_putI fp_X8_48 d8_countIfFit_47 (mm_wtI hS h0 rfl) ?_
    have h := Option.some.inj h
    subst h
    exact mm_vret rfl d8_countIfFit_50 ⟨rfl, rfl, rfl⟩
  · rw [if_neg hc1] at h
    refine mm_aload_n d8_countIfFit_10 rfl ?_
    refine mm_getR fl_X8_23 d8_countIfFit_11 (mm_wtR hS 106 h0 rfl rfl) ?_
    refine mm_iload_n d8_countIfFit_14 rfl ?_
    obtain ⟨o2, hk2, h⟩ := mm_bd h
    refine mm_cVi 6 (As := [.int v2]) (ok6_at l hS (mm_wtT hS 2 6 h0 rfl) hk2) lk_X8_55 rfl d8_countIfFit_15 (mm_room rfl rfl) rfl (mm_wtT hS 2 6 h0 rfl) rfl rfl ?_
    refine mm_iload_n d8_countIfFit_18 rfl ?_
    refine mm_iand d8_countIfFit_19 ?_
    refine mm_if_ne (tgt := 24) d8_countIfFit_20 (by decide) (fun hc3 => ?_) (fun hc3 => ?_)
    · rw [if_neg hc3] at h
      refine mm_iinc (v := v2 + 1) d8_countIfFit_24 rfl rfl rfl rfl ?_
      refine mm_goto (tgt := 2) d8_countIfFit_27 (by decide) ?_
      refine mm_sub [(0, .ref v0), (1, .int v1), (2, .int (v2 + 1))] ⟨rfl, rfl, rfl, trivial⟩ ?_
      exact hrec2 h0 h
    · rw [if_pos hc3] at h
      have h := Option.some.inj h
      subst h
      exact mm_vret rfl d8_countIfFit_23 ⟨rfl, rfl, rfl⟩
set_option maxHeartbeats 4000000 in
set_option maxRecDepth 100000 in
theorem ok8_countIfFit_2 (l : Launch) {S : mm_Sh} (hS : mm_WT S) {n : Nat}  : ∀ (k : Nat) {v0 : Nat} {v1 : Int32} {v2 : Int32} (h0 : mm_is S v0 8) {I : mm_I} {J : mm_J} {o : mm_I × mm_J}, f8_countIfFit_2 S n k v0 v1 v2 I J = some o → mm_W l M8_countIfFit (mm_rm (mm_rk M8_countIfFit)) 0 0 S (mm_end S (mm_Qv o.1 o.2)) 2 [(0, .ref v0), (1, .int v1), (2, .int v2)] [] I J := by
  intro k
  induction k with
  | zero =>
    intros
    rename_i h
    cases h
  | succ k ih =>
    intro v0 v1 v2 h0 I J o h
    exact ok8_countIfFit_2_b l hS (fun {v0 v1 v2} h0 {I J o} h => ih h0 h) h0 h
set_option maxHeartbeats 4000000 in
set_option maxRecDepth 100000 in
theorem ok8_countIfFit (l : Launch) {S : mm_Sh} (hS : mm_WT S) {n : Nat}  {v0 : Nat} {v1 : Int32} (h0 : mm_is S v0 8) {I : mm_I} {J : mm_J} {o : mm_I × mm_J} (h : f8_countIfFit S n v0 v1 I J = some o) : mm_C l M8_countIfFit S [.ref v0, .int v1] I J (mm_Qv o.1 o.2) := by
  unfold f8_countIfFit at h
  refine mm_enter rfl (by decide +kernel) rfl ?_
  refine mm_iconst (v := 0) d8_countIfFit_0 (by decide +kernel) ?_
  refine mm_istore_n d8_countIfFit_1 rfl rfl ?_
  refine mm_sub [(0, .ref v0), (1, .int v1), (2, .int 0)] ⟨rfl, rfl, rfl, trivial⟩ ?_
  exact ok8_countIfFit_2 l hS  n h0 h
