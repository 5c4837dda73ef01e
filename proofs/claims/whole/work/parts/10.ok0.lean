/-! ===== the machine does what the functions say: written by wip/whole/gen.py ===== -/
set_option maxHeartbeats 4000000 in
set_option maxRecDepth 100000 in
theorem ok0_hasPerson_17 (l : Launch) {S : mm_Sh} (hS : mm_WT S)  {s0 : Int32}  {I : mm_I} {J : mm_J} {o : Int32} (h : f0_hasPerson_17 S s0 I J = some o) : mm_W l M0_hasPerson (mm_rm (mm_rk M0_hasPerson)) 0 0 S (mm_end S (mm_Qi o I J)) 17 [] [.int s0] I J := by
  unfold f0_hasPerson_17 at h
  obtain ⟨hb1, h⟩ := mm_gd h
  have h := Option.some.inj h
  subst h
  exact mm_zret rfl d0_hasPerson_17 (mm_bit_ok hb1) ⟨rfl, rfl, rfl⟩
set_option maxHeartbeats 4000000 in
set_option maxRecDepth 100000 in
theorem ok0_hasPerson_16 (l : Launch) {S : mm_Sh} (hS : mm_WT S)    {I : mm_I} {J : mm_J} {o : Int32} (h : f0_hasPerson_16 S  I J = some o) : mm_W l M0_hasPerson (mm_rm (mm_rk M0_hasPerson)) 0 0 S (mm_end S (mm_Qi o I J)) 16 [] [] I J := by
  unfold f0_hasPerson_16 at h
  refine mm_iconst (v := 0) d0_hasPerson_16 (by decide +kernel) ?_
  refine mm_sub [] trivial ?_
  exact ok0_hasPerson_17 l hS   h
set_option maxHeartbeats 4000000 in
set_option maxRecDepth 100000 in
theorem ok0_hasPerson (l : Launch) {S : mm_Sh} (hS : mm_WT S)  {v0 : Nat} {v1 : Int32} (h0 : mm_is S v0 0) {I : mm_I} {J : mm_J} {o : Int32} (h : f0_hasPerson S v0 v1 I J = some o) : mm_C l M0_hasPerson S [.ref v0, .int v1] I J (mm_Qi o I J) := by
  unfold f0_hasPerson at h
  refine mm_enter rfl (by decide +kernel) rfl ?_
  refine mm_iload_n d0_hasPerson_0 rfl ?_
  refine mm_if_lt (tgt := 16) d0_hasPerson_1 (by decide) (fun hc1 => ?_) (fun hc1 => ?_)
  · rw [if_pos hc1] at h
    refine mm_sub [] trivial ?_
    exact ok0_hasPerson_16 l hS   h
  · rw [if_neg hc1] at h
    refine mm_iload_n d0_hasPerson_4 rfl ?_
    refine mm_aload_n d0_hasPerson_5 rfl ?_
    refine mm_getI fl_X0_36 d0_hasPerson_6 (mm_wtI hS h0 rfl) ?_
    refine mm_icmp_ge (tgt := 16) d0_hasPerson_9 (by decide) (fun hc2 => ?_) (fun hc2 => ?_)
    · rw [if_pos hc2] at h
      refine mm_sub [] trivial ?_
      exact ok0_hasPerson_16 l hS   h
    · rw [if_neg hc2] at h
      refine mm_iconst (v := 1) d0_hasPerson_12 (by decide +kernel) ?_
      refine mm_goto (tgt := 17) d0_hasPerson_13 (by decide) ?_
      refine mm_sub [] trivial ?_
      exact ok0_hasPerson_17 l hS   h
set_option maxHeartbeats 4000000 in
set_option maxRecDepth 100000 in
theorem ok0_hasTrade_17 (l : Launch) {S : mm_Sh} (hS : mm_WT S)  {s0 : Int32}  {I : mm_I} {J : mm_J} {o : Int32} (h : f0_hasTrade_17 S s0 I J = some o) : mm_W l M0_hasTrade (mm_rm (mm_rk M0_hasTrade)) 0 0 S (mm_end S (mm_Qi o I J)) 17 [] [.int s0] I J := by
  unfold f0_hasTrade_17 at h
  obtain ⟨hb1, h⟩ := mm_gd h
  have h := Option.some.inj h
  subst h
  exact mm_zret rfl d0_hasTrade_17 (mm_bit_ok hb1) ⟨rfl, rfl, rfl⟩
set_option maxHeartbeats 4000000 in
set_option maxRecDepth 100000 in
theorem ok0_hasTrade_16 (l : Launch) {S : mm_Sh} (hS : mm_WT S)    {I : mm_I} {J : mm_J} {o : Int32} (h : f0_hasTrade_16 S  I J = some o) : mm_W l M0_hasTrade (mm_rm (mm_rk M0_hasTrade)) 0 0 S (mm_end S (mm_Qi o I J)) 16 [] [] I J := by
  unfold f0_hasTrade_16 at h
  refine mm_iconst (v := 0) d0_hasTrade_16 (by decide +kernel) ?_
  refine mm_sub [] trivial ?_
  exact ok0_hasTrade_17 l hS   h
set_option maxHeartbeats 4000000 in
set_option maxRecDepth 100000 in
theorem ok0_hasTrade (l : Launch) {S : mm_Sh} (hS : mm_WT S)  {v0 : Nat} {v1 : Int32} (h0 : mm_is S v0 0) {I : mm_I} {J : mm_J} {o : Int32} (h : f0_hasTrade S v0 v1 I J = some o) : mm_C l M0_hasTrade S [.ref v0, .int v1] I J (mm_Qi o I J) := by
  unfold f0_hasTrade at h
  refine mm_enter rfl (by decide +kernel) rfl ?_
  refine mm_iload_n d0_hasTrade_0 rfl ?_
  refine mm_if_lt (tgt := 16) d0_hasTrade_1 (by decide) (fun hc1 => ?_) (fun hc1 => ?_)
  · rw [if_pos hc1] at h
    refine mm_sub [] trivial ?_
    exact ok0_hasTrade_16 l hS   h
  · rw [if_neg hc1] at h
    refine mm_iload_n d0_hasTrade_4 rfl ?_
    refine mm_aload_n d0_hasTrade_5 rfl ?_
    refine mm_getI fl_X0_32 d0_hasTrade_6 (mm_wtI hS h0 rfl) ?_
    refine mm_icmp_ge (tgt := 16) d0_hasTrade_9 (by decide) (fun hc2 => ?_) (fun hc2 => ?_)
    · rw [if_pos hc2] at h
      refine mm_sub [] trivial ?_
      exact ok0_hasTrade_16 l hS   h
    · rw [if_neg hc2] at h
      refine mm_iconst (v := 1) d0_hasTrade_12 (by decide +kernel) ?_
      refine mm_goto (tgt := 17) d0_hasTrade_13 (by decide) ?_
      refine mm_sub [] trivial ?_
      exact ok0_hasTrade_17 l hS   h
set_option maxHeartbeats 4000000 in
set_option maxRecDepth 100000 in
theorem ok10_cell_40 (l : Launch) {S : mm_Sh} (hS : mm_WT S)  {s0 : Int32}  {I : mm_I} {J : mm_J} {o : Int32} (h : f10_cell_40 S s0 I J = some o) : mm_W l M10_cell (mm_rm (mm_rk M10_cell)) 0 0 S (mm_end S (mm_Qi o I J)) 40 [] [.int s0] I J := by
  unfold f10_cell_40 at h
  have h := Option.some.inj h
  subst h
  exact mm_iret rfl d10_cell_40 ⟨rfl, rfl, rfl⟩
set_option maxHeartbeats 4000000 in
set_option maxRecDepth 100000 in
theorem ok10_cell_25 (l : Launch) {S : mm_Sh} (hS : mm_WT S)  {v0 : Int32} {v1 : Int32} {s0 : Int32}  {I : mm_I} {J : mm_J} {o : Int32} (h : f10_cell_25 S v0 v1 s0 I J = some o) : mm_W l M10_cell (mm_rm (mm_rk M10_cell)) 0 0 S (mm_end S (mm_Qi o I J)) 25 [(0, .int v0), (1, .int v1)] [.int s0] I J := by
  unfold f10_cell_25 at h
  refine mm_istore_n d10_cell_25 rfl rfl ?_
  refine mm_iload_n d10_cell_26 rfl ?_
  refine mm_if_eq (tgt := 39) d10_cell_27 (by decide) (fun hc1 => ?_) (fun hc1 => ?_)
  · rw [if_pos hc1] at h
    refine mm_iconst (v := (-1)) d10_cell_39 (by decide +kernel) ?_
    refine mm_sub [] trivial ?_
    exact ok10_cell_40 l hS   h
  · rw [if_neg hc1] at h
    refine mm_iload_n d10_cell_30 rfl ?_
    refine mm_bipush (v := 6) d10_cell_31 (by decide +kernel) ?_
    refine mm_imul d10_cell_33 ?_
    refine mm_iload_n d10_cell_34 rfl ?_
    refine mm_iadd d10_cell_35 ?_
    refine mm_goto (tgt := 40) d10_cell_36 (by decide) ?_
    refine mm_sub [] trivial ?_
    exact ok10_cell_40 l hS   h
set_option maxHeartbeats 4000000 in
set_option maxRecDepth 100000 in
theorem ok10_cell_24 (l : Launch) {S : mm_Sh} (hS : mm_WT S)  {v0 : Int32} {v1 : Int32}  {I : mm_I} {J : mm_J} {o : Int32} (h : f10_cell_24 S v0 v1 I J = some o) : mm_W l M10_cell (mm_rm (mm_rk M10_cell)) 0 0 S (mm_end S (mm_Qi o I J)) 24 [(0, .int v0), (1, .int v1)] [] I J := by
  unfold f10_cell_24 at h
  refine mm_iconst (v := 0) d10_cell_24 (by decide +kernel) ?_
  refine mm_sub [(0, .int v0), (1, .int v1)] ⟨rfl, rfl, trivial⟩ ?_
  exact ok10_cell_25 l hS   h
set_option maxHeartbeats 4000000 in
set_option maxRecDepth 100000 in
theorem ok10_cell (l : Launch) {S : mm_Sh} (hS : mm_WT S)  {v0 : Int32} {v1 : Int32}  {I : mm_I} {J : mm_J} {o : Int32} (h : f10_cell S v0 v1 I J = some o) : mm_C l M10_cell S [.int v0, .int v1] I J (mm_Qi o I J) := by
  unfold f10_cell at h
  refine mm_enter rfl (by decide +kernel) rfl ?_
  refine mm_iload_n d10_cell_0 rfl ?_
  refine mm_if_lt (tgt := 24) d10_cell_1 (by decide) (fun hc1 => ?_) (fun hc1 => ?_)
  · rw [if_pos hc1] at h
    refine mm_sub [(0, .int v0), (1, .int v1)] ⟨rfl, rfl, trivial⟩ ?_
    exact ok10_cell_24 l hS   h
  · rw [if_neg hc1] at h
    refine mm_iload_n d10_cell_4 rfl ?_
    refine mm_bipush (v := 8) d10_cell_5 (by decide +kernel) ?_
    refine mm_icmp_ge (tgt := 24) d10_cell_7 (by decide) (fun hc2 => ?_) (fun hc2 => ?_)
    · rw [if_pos hc2] at h
      refine mm_sub [(0, .int v0), (1, .int v1)] ⟨rfl, rfl, trivial⟩ ?_
      exact ok10_cell_24 l hS   h
    · rw [if_neg hc2] at h
      refine mm_iload_n d10_cell_10 rfl ?_
      refine mm_if_lt (tgt := 24) d10_cell_11 (by decide) (fun hc3 => ?_) (fun hc3 => ?_)
      · rw [if_pos hc3] at h
        refine mm_sub [(0, .int v0), (1, .int v1)] ⟨rfl, rfl, trivial⟩ ?_
        exact ok10_cell_24 l hS   h
      · rw [if_neg hc3] at h
        refine mm_iload_n d10_cell_14 rfl ?_
        refine mm_bipush (v := 6) d10_cell_15 (by decide +kernel) ?_
        refine mm_icmp_ge (tgt := 24) d10_cell_17 (by decide) (fun hc4 => ?_) (fun hc4 => ?_)
        · rw [if_pos hc4] at h
          refine mm_sub [(0, .int v0), (1, .int v1)] ⟨rfl, rfl, trivial⟩ ?_
          exact ok10_cell_24 l hS   h
        · rw [if_neg hc4] at h
          refine mm_iconst (v := 1) d10_cell_20 (by decide +kernel) ?_
          refine mm_goto (tgt := 25) d10_cell_21 (by decide) ?_
          refine mm_sub [(0, .int v0), (1, .int v1)] ⟨rfl, rfl, trivial⟩ ?_
          exact ok10_cell_25 l hS   h
set_option maxHeartbeats 4000000 in
set_option maxRecDepth 100000 in
theorem ok10_fault (l : Launch) {S : mm_Sh} (hS : mm_WT S)  {v0 : Nat} (h0 : mm_is S v0 10) {I : mm_I} {J : mm_J} {o : Int32} (h : f10_fault S v0 I J = some o) : mm_C l M10_fault S [.ref v0] I J (mm_Qi o I J) := by
  unfold f10_fault at h
  refine mm_enter rfl (by decide +kernel) rfl ?_
  refine mm_aload_n d10_fault_0 rfl ?_
  refine mm_getR fl_X10_10 d10_fault_1 (mm_wtR hS 104 h0 rfl rfl) ?_
  refine mm_getI fl_X10_175 d10_fault_4 (mm_wtI hS (mm_wtT hS 0 4 h0 rfl) rfl) ?_
  have h := Option.some.inj h
  subst h
  exact mm_iret rfl d10_fault_7 ⟨rfl, rfl, rfl⟩
set_option maxHeartbeats 4000000 in
set_option maxRecDepth 100000 in
theorem ok10_has_23 (l : Launch) {S : mm_Sh} (hS : mm_WT S)  {s0 : Int32}  {I : mm_I} {J : mm_J} {o : Int32} (h : f10_has_23 S s0 I J = some o) : mm_W l M10_has (mm_rm (mm_rk M10_has)) 0 0 S (mm_end S (mm_Qi o I J)) 23 [] [.int s0] I J := by
  unfold f10_has_23 at h
  obtain ⟨hb1, h⟩ := mm_gd h
  have h := Option.some.inj h
  subst h
  exact mm_zret rfl d10_has_23 (mm_bit_ok hb1) ⟨rfl, rfl, rfl⟩
set_option maxHeartbeats 4000000 in
set_option maxRecDepth 100000 in
theorem ok10_has_22 (l : Launch) {S : mm_Sh} (hS : mm_WT S)    {I : mm_I} {J : mm_J} {o : Int32} (h : f10_has_22 S  I J = some o) : mm_W l M10_has (mm_rm (mm_rk M10_has)) 0 0 S (mm_end S (mm_Qi o I J)) 22 [] [] I J := by
  unfold f10_has_22 at h
  refine mm_iconst (v := 0) d10_has_22 (by decide +kernel) ?_
  refine mm_sub [] trivial ?_
  exact ok10_has_23 l hS   h
set_option maxHeartbeats 4000000 in
set_option maxRecDepth 100000 in
theorem ok10_has (l : Launch) {S : mm_Sh} (hS : mm_WT S)  {v0 : Int32} {v1 : Int32}  {I : mm_I} {J : mm_J} {o : Int32} (h : f10_has S v0 v1 I J = some o) : mm_C l M10_has S [.int v0, .int v1] I J (mm_Qi o I J) := by
  unfold f10_has at h
  refine mm_enter rfl (by decide +kernel) rfl ?_
  refine mm_iload_n d10_has_0 rfl ?_
  refine mm_if_lt (tgt := 22) d10_has_1 (by decide) (fun hc1 => ?_) (fun hc1 => ?_)
  · rw [if_pos hc1] at h
    refine mm_sub [] trivial ?_
    exact ok10_has_22 l hS   h
  · rw [if_neg hc1] at h
    refine mm_iload_n d10_has_4 rfl ?_
    refine mm_bipush (v := 32) d10_has_5 (by decide +kernel) ?_
    refine mm_icmp_ge (tgt := 22) d10_has_7 (by decide) (fun hc2 => ?_) (fun hc2 => ?_)
    · rw [if_pos hc2] at h
      refine mm_sub [] trivial ?_
      exact ok10_has_22 l hS   h
    · rw [if_neg hc2] at h
      refine mm_iload_n d10_has_10 rfl ?_
      refine mm_iload_n d10_has_11 rfl ?_
      refine mm_iushr d10_has_12 ?_
      refine mm_iconst (v := 1) d10_has_13 (by decide +kernel) ?_
      refine mm_iand d10_has_14 ?_
      refine mm_if_eq (tgt := 22) d10_has_15 (by decide) (fun hc3 => ?_) (fun hc3 => ?_)
      · rw [if_pos hc3] at h
        refine mm_sub [] trivial ?_
        exact ok10_has_22 l hS   h
      · rw [if_neg hc3] at h
        refine mm_iconst (v := 1) d10_has_18 (by decide +kernel) ?_
        refine mm_goto (tgt := 23) d10_has_19 (by decide) ?_
        refine mm_sub [] trivial ?_
        exact ok10_has_23 l hS   h
set_option maxHeartbeats 4000000 in
set_option maxRecDepth 100000 in
theorem ok10_image_15 (l : Launch) {S : mm_Sh} (hS : mm_WT S)  {s0 : Nat} (g0 : mm_is S s0 1) {I : mm_I} {J : mm_J} {o : Nat} (h : f10_image_15 S s0 I J = some o) : mm_W l M10_image (mm_rm (mm_rk M10_image)) 0 0 S (mm_end S (mm_Qr o I J)) 15 [] [.ref s0] I J := by
  unfold f10_image_15 at h
  have h := Option.some.inj h
  subst h
  exact mm_aret rfl d10_image_15 ⟨rfl, rfl, rfl⟩
set_option maxHeartbeats 4000000 in
set_option maxRecDepth 100000 in
theorem ok10_image (l : Launch) {S : mm_Sh} (hS : mm_WT S)  {v0 : Nat} {v1 : Int32} (h0 : mm_is S v0 10) {I : mm_I} {J : mm_J} {o : Nat} (h : f10_image S v0 v1 I J = some o) : mm_C l M10_image S [.ref v0, .int v1] I J (mm_Qr o I J) := by
  unfold f10_image at h
  refine mm_enter rfl (by decide +kernel) rfl ?_
  refine mm_iload_n d10_image_0 rfl ?_
  refine mm_if_ne (tgt := 11) d10_image_1 (by decide) (fun hc1 => ?_) (fun hc1 => ?_)
  · rw [if_neg hc1] at h
    refine mm_aload_n d10_image_11 rfl ?_
    refine mm_getR fl_X10_58 d10_image_12 (mm_wtR hS 101 h0 rfl rfl) ?_
    refine mm_sub [] trivial ?_
    exact ok10_image_15 l hS  (mm_wtT hS 11 1 h0 rfl) h
  · rw [if_pos hc1] at h
    refine mm_aload_n d10_image_4 rfl ?_
    refine mm_getR fl_X10_55 d10_image_5 (mm_wtR hS 101 h0 rfl rfl) ?_
    refine mm_goto (tgt := 15) d10_image_8 (by decide) ?_
    refine mm_sub [] trivial ?_
    exact ok10_image_15 l hS  (mm_wtT hS 10 1 h0 rfl) h
set_option maxHeartbeats 4000000 in
set_option maxRecDepth 100000 in
theorem ty10_image {S : mm_Sh} (hS : mm_WT S) {v0 : Nat} {v1 : Int32} (h0 : mm_is S v0 10) {I : mm_I} {J : mm_J} {o : Nat} (h : f10_image S v0 v1 I J = some o) : mm_is S o 1 := by
  unfold f10_image at h
  split at h <;> (unfold f10_image_15 at h; cases h)
  · exact mm_wtT hS 10 1 h0 rfl
  · exact mm_wtT hS 11 1 h0 rfl
set_option maxHeartbeats 4000000 in
set_option maxRecDepth 100000 in
theorem ok10_seed (l : Launch) {S : mm_Sh} (hS : mm_WT S)  {v0 : Nat} {v1 : Int32} (h0 : mm_is S v0 10) {I : mm_I} {J : mm_J} {o : Int32 × mm_I × mm_J} (h : f10_seed S v0 v1 I J = some o) : mm_C l M10_seed S [.ref v0, .int v1] I J (mm_Qi o.1 o.2.1 o.2.2) := by
  unfold f10_seed at h
  refine mm_enter rfl (by decide +kernel) rfl ?_
  refine mm_iload_n d10_seed_0 rfl ?_
  refine mm_if_ge (tgt := 7) d10_seed_1 (by decide) (fun hc1 => ?_) (fun hc1 => ?_)
  · rw [if_pos hc1] at h
    refine mm_aload_n d10_seed_7 rfl ?_
    refine mm_getR fl_X10_42 d10_seed_8 (mm_wtR hS 101 h0 rfl rfl) ?_
    refine mm_getI fl_X10_359 d10_seed_11 (mm_wtI hS (mm_wtT hS 6 1 h0 rfl) rfl) ?_
    refine mm_istore_n d10_seed_14 rfl rfl ?_
    refine mm_aload_n d10_seed_15 rfl ?_
    refine mm_getR fl_X10_42 d10_seed_16 (mm_wtR hS 101 h0 rfl rfl) ?_
    refine mm_iload_n d10_seed_19 rfl ?_
    refine mm_putI fp_X10_359 d10_seed_20 (mm_wtI hS (mm_wtT hS 6 1 h0 rfl) rfl) ?_
    refine mm_iload_n d10_seed_23 rfl ?_
    have h := Option.some.inj h
    subst h
    exact mm_iret rfl d10_seed_24 ⟨rfl, rfl, rfl⟩
  · rw [if_neg hc1] at h
    refine mm_ldc (v := (-1000000002)) d10_seed_4 kX10_124 ?_
    have h := Option.some.inj h
    subst h
    exact mm_iret rfl d10_seed_6 ⟨rfl, rfl, rfl⟩
set_option maxHeartbeats 4000000 in
set_option maxRecDepth 100000 in
theorem ok10_within_15 (l : Launch) {S : mm_Sh} (hS : mm_WT S)  {s0 : Int32}  {I : mm_I} {J : mm_J} {o : Int32} (h : f10_within_15 S s0 I J = some o) : mm_W l M10_within (mm_rm (mm_rk M10_within)) 0 0 S (mm_end S (mm_Qi o I J)) 15 [] [.int s0] I J := by
  unfold f10_within_15 at h
  obtain ⟨hb1, h⟩ := mm_gd h
  have h := Option.some.inj h
  subst h
  exact mm_zret rfl d10_within_15 (mm_bit_ok hb1) ⟨rfl, rfl, rfl⟩
set_option maxHeartbeats 4000000 in
set_option maxRecDepth 100000 in
theorem ok10_within_14 (l : Launch) {S : mm_Sh} (hS : mm_WT S)    {I : mm_I} {J : mm_J} {o : Int32} (h : f10_within_14 S  I J = some o) : mm_W l M10_within (mm_rm (mm_rk M10_within)) 0 0 S (mm_end S (mm_Qi o I J)) 14 [] [] I J := by
  unfold f10_within_14 at h
  refine mm_iconst (v := 0) d10_within_14 (by decide +kernel) ?_
  refine mm_sub [] trivial ?_
  exact ok10_within_15 l hS   h
set_option maxHeartbeats 4000000 in
set_option maxRecDepth 100000 in
theorem ok10_within (l : Launch) {S : mm_Sh} (hS : mm_WT S)  {v0 : Int32} {v1 : Int32} {v2 : Int32}  {I : mm_I} {J : mm_J} {o : Int32} (h : f10_within S v0 v1 v2 I J = some o) : mm_C l M10_within S [.int v0, .int v1, .int v2] I J (mm_Qi o I J) := by
  unfold f10_within at h
  refine mm_enter rfl (by decide +kernel) rfl ?_
  refine mm_iload_n d10_within_0 rfl ?_
  refine mm_iload_n d10_within_1 rfl ?_
  refine mm_icmp_lt (tgt := 14) d10_within_2 (by decide) (fun hc1 => ?_) (fun hc1 => ?_)
  · rw [if_pos hc1] at h
    refine mm_sub [] trivial ?_
    exact ok10_within_14 l hS   h
  · rw [if_neg hc1] at h
    refine mm_iload_n d10_within_5 rfl ?_
    refine mm_iload_n d10_within_6 rfl ?_
    refine mm_icmp_gt (tgt := 14) d10_within_7 (by decide) (fun hc2 => ?_) (fun hc2 => ?_)
    · rw [if_pos hc2] at h
      refine mm_sub [] trivial ?_
      exact ok10_within_14 l hS   h
    · rw [if_neg hc2] at h
      refine mm_iconst (v := 1) d10_within_10 (by decide +kernel) ?_
      refine mm_goto (tgt := 15) d10_within_11 (by decide) ?_
      refine mm_sub [] trivial ?_
      exact ok10_within_15 l hS   h
set_option maxHeartbeats 4000000 in
set_option maxRecDepth 100000 in
theorem ok1_draw_39 (l : Launch) {S : mm_Sh} (hS : mm_WT S)  {s0 : Int32}  {I : mm_I} {J : mm_J} {o : Int32 × mm_I × mm_J} (h : f1_draw_39 S s0 I J = some o) : mm_W l M1_draw (mm_rm (mm_rk M1_draw)) 0 0 S (mm_end S (mm_Qi o.1 o.2.1 o.2.2)) 39 [] [.int s0] I J := by
  unfold f1_draw_39 at h
  have h := Option.some.inj h
  subst h
  exact mm_iret rfl d1_draw_39 ⟨rfl, rfl, rfl⟩
set_option maxHeartbeats 4000000 in
set_option maxRecDepth 100000 in
theorem ok1_draw (l : Launch) {S : mm_Sh} (hS : mm_WT S)  {v0 : Nat} {v1 : Int32} (h0 : mm_is S v0 1) {I : mm_I} {J : mm_J} {o : Int32 × mm_I × mm_J} (h : f1_draw S v0 v1 I J = some o) : mm_C l M1_draw S [.ref v0, .int v1] I J (mm_Qi o.1 o.2.1 o.2.2) := by
  unfold f1_draw at h
  refine mm_enter rfl (by decide +kernel) rfl ?_
  refine mm_aload_n d1_draw_0 rfl ?_
  refine mm_aload_n d1_draw_1 rfl ?_
  refine mm_getI fl_X1_57 d1_draw_2 (mm_wtI hS h0 rfl) ?_
  refine mm_i2l d1_draw_5 ?_
  refine mm_ldc2 (v := 1103515245) d1_draw_6 kX1_86 ?_
  refine mm_lmul d1_draw_9 ?_
  refine mm_ldc2 (v := 12345) d1_draw_10 kX1_88 ?_
  refine mm_ladd d1_draw_13 ?_
  refine mm_ldc2 (v := 2147483647) d1_draw_14 kX1_90 ?_
  refine mm_land d1_draw_17 ?_
  refine mm_l2i d1_draw_18 ?_
  refine mm_putI fp_X1_57 d1_draw_19 (mm_wtI hS h0 rfl) ?_
  refine mm_iload_n d1_draw_22 rfl ?_
  refine mm_if_le (tgt := 38) d1_draw_23 (by decide) (fun hc1 => ?_) (fun hc1 => ?_)
  · rw [if_pos hc1] at h
    refine mm_iconst (v := 0) d1_draw_38 (by decide +kernel) ?_
    refine mm_sub [] trivial ?_
    exact ok1_draw_39 l hS   h
  · rw [if_neg hc1] at h
    refine mm_aload_n d1_draw_26 rfl ?_
    refine mm_getI fl_X1_57 d1_draw_27 (mm_wtI hS h0 rfl) ?_
    refine mm_ldc (v := 65536) d1_draw_30 kX1_92 ?_
    refine mm_idiv d1_draw_32 (by decide) ?_
    refine mm_iload_n d1_draw_33 rfl ?_
    obtain ⟨hz2, h⟩ := mm_gz h
    refine mm_irem d1_draw_34 hz2 ?_
    refine mm_goto (tgt := 39) d1_draw_35 (by decide) ?_
    refine mm_sub [] trivial ?_
    exact ok1_draw_39 l hS   h
set_option maxHeartbeats 4000000 in
set_option maxRecDepth 100000 in
theorem ok4_blame_17 (l : Launch) {S : mm_Sh} (hS : mm_WT S)    {I : mm_I} {J : mm_J} {o : mm_I × mm_J} (h : f4_blame_17 S  I J = some o) : mm_W l M4_blame (mm_rm (mm_rk M4_blame)) 0 0 S (mm_end S (mm_Qv o.1 o.2)) 17 [] [] I J := by
  unfold f4_blame_17 at h
  have h := Option.some.inj h
  subst h
  exact mm_vret rfl d4_blame_17 ⟨rfl, rfl, rfl⟩
set_option maxHeartbeats 4000000 in
set_option maxRecDepth 100000 in
theorem ok4_blame (l : Launch) {S : mm_Sh} (hS : mm_WT S)  {v0 : Nat} {v1 : Int32} {v2 : Int32} (h0 : mm_is S v0 4) {I : mm_I} {J : mm_J} {o : mm_I × mm_J} (h : f4_blame S v0 v1 v2 I J = some o) : mm_C l M4_blame S [.ref v0, .int v1, .int v2] I J (mm_Qv o.1 o.2) := by
  unfold f4_blame at h
  refine mm_enter rfl (by decide +kernel) rfl ?_
  refine mm_aload_n d4_blame_0 rfl ?_
  refine mm_getI fl_X4_33 d4_blame_1 (mm_wtI hS h0 rfl) ?_
  refine mm_if_ne (tgt := 17) d4_blame_4 (by decide) (fun hc1 => ?_) (fun hc1 => ?_)
  · rw [if_neg hc1] at h
    refine mm_sub [] trivial ?_
    exact ok4_blame_17 l hS   h
  · rw [if_pos hc1] at h
    refine mm_aload_n d4_blame_7 rfl ?_
    refine mm_iload_n d4_blame_8 rfl ?_
    refine mm_putI fp_X4_33 d4_blame_9 (mm_wtI hS h0 rfl) ?_
    refine mm_aload_n d4_blame_12 rfl ?_
    refine mm_iload_n d4_blame_13 rfl ?_
    refine mm_putI fp_X4_36 d4_blame_14 (mm_wtI hS h0 rfl) ?_
    refine mm_sub [] trivial ?_
    exact ok4_blame_17 l hS   h
set_option maxHeartbeats 4000000 in
set_option maxRecDepth 100000 in
theorem ok4_clear (l : Launch) {S : mm_Sh} (hS : mm_WT S)  {v0 : Nat} (h0 : mm_is S v0 4) {I : mm_I} {J : mm_J} {o : mm_I × mm_J} (h : f4_clear S v0 I J = some o) : mm_C l M4_clear S [.ref v0] I J (mm_Qv o.1 o.2) := by
  unfold f4_clear at h
  refine mm_enter rfl (by decide +kernel) rfl ?_
  refine mm_aload_n d4_clear_0 rfl ?_
  refine mm_iconst (v := 0) d4_clear_1 (by decide +kernel) ?_
  refine mm_putI fp_X4_20 d4_clear_2 (mm_wtI hS h0 rfl) ?_
  have h := Option.some.inj h
  subst h
  exact mm_vret rfl d4_clear_5 ⟨rfl, rfl, rfl⟩
set_option maxHeartbeats 4000000 in
set_option maxRecDepth 100000 in
theorem ok4_isSound_12 (l : Launch) {S : mm_Sh} (hS : mm_WT S)  {s0 : Int32}  {I : mm_I} {J : mm_J} {o : Int32} (h : f4_isSound_12 S s0 I J = some o) : mm_W l M4_isSound (mm_rm (mm_rk M4_isSound)) 0 0 S (mm_end S (mm_Qi o I J)) 12 [] [.int s0] I J := by
  unfold f4_isSound_12 at h
  obtain ⟨hb1, h⟩ := mm_gd h
  have h := Option.some.inj h
  subst h
  exact mm_zret rfl d4_isSound_12 (mm_bit_ok hb1) ⟨rfl, rfl, rfl⟩
set_option maxHeartbeats 4000000 in
set_option maxRecDepth 100000 in
theorem ok4_isSound (l : Launch) {S : mm_Sh} (hS : mm_WT S)  {v0 : Nat} (h0 : mm_is S v0 4) {I : mm_I} {J : mm_J} {o : Int32} (h : f4_isSound S v0 I J = some o) : mm_C l M4_isSound S [.ref v0] I J (mm_Qi o I J) := by
  unfold f4_isSound at h
  refine mm_enter rfl (by decide +kernel) rfl ?_
  refine mm_aload_n d4_isSound_0 rfl ?_
  refine mm_getI fl_X4_33 d4_isSound_1 (mm_wtI hS h0 rfl) ?_
  refine mm_if_ne (tgt := 11) d4_isSound_4 (by decide) (fun hc1 => ?_) (fun hc1 => ?_)
  · rw [if_neg hc1] at h
    refine mm_iconst (v := 0) d4_isSound_11 (by decide +kernel) ?_
    refine mm_sub [] trivial ?_
    exact ok4_isSound_12 l hS   h
  · rw [if_pos hc1] at h
    refine mm_iconst (v := 1) d4_isSound_7 (by decide +kernel) ?_
    refine mm_goto (tgt := 12) d4_isSound_8 (by decide) ?_
    refine mm_sub [] trivial ?_
    exact ok4_isSound_12 l hS   h
set_option maxHeartbeats 4000000 in
set_option maxRecDepth 100000 in
theorem ok4_tokenOf_39 (l : Launch) {S : mm_Sh} (hS : mm_WT S)  {s0 : Int32}  {I : mm_I} {J : mm_J} {o : Int32} (h : f4_tokenOf_39 S s0 I J = some o) : mm_W l M4_tokenOf (mm_rm (mm_rk M4_tokenOf)) 0 0 S (mm_end S (mm_Qi o I J)) 39 [] [.int s0] I J := by
  unfold f4_tokenOf_39 at h
  have h := Option.some.inj h
  subst h
  exact mm_iret rfl d4_tokenOf_39 ⟨rfl, rfl, rfl⟩
set_option maxHeartbeats 4000000 in
set_option maxRecDepth 100000 in
theorem ok4_tokenOf_28 (l : Launch) {S : mm_Sh} (hS : mm_WT S)  {v0 : Int32}  {I : mm_I} {J : mm_J} {o : Int32} (h : f4_tokenOf_28 S v0 I J = some o) : mm_W l M4_tokenOf (mm_rm (mm_rk M4_tokenOf)) 0 0 S (mm_end S (mm_Qi o I J)) 28 [(0, .int v0)] [] I J := by
  unfold f4_tokenOf_28 at h
  refine mm_iload_n d4_tokenOf_28 rfl ?_
  refine mm_bipush (v := 59) d4_tokenOf_29 (by decide +kernel) ?_
  refine mm_icmp_ne (tgt := 38) d4_tokenOf_31 (by decide) (fun hc1 => ?_) (fun hc1 => ?_)
  · rw [if_neg hc1] at h
    refine mm_iconst (v := 4) d4_tokenOf_38 (by decide +kernel) ?_
    refine mm_sub [] trivial ?_
    exact ok4_tokenOf_39 l hS   h
  · rw [if_pos hc1] at h
    refine mm_iconst (v := 3) d4_tokenOf_34 (by decide +kernel) ?_
    refine mm_goto (tgt := 39) d4_tokenOf_35 (by decide) ?_
    refine mm_sub [] trivial ?_
    exact ok4_tokenOf_39 l hS   h
set_option maxHeartbeats 4000000 in
set_option maxRecDepth 100000 in
theorem ok4_tokenOf_14 (l : Launch) {S : mm_Sh} (hS : mm_WT S)  {v0 : Int32}  {I : mm_I} {J : mm_J} {o : Int32} (h : f4_tokenOf_14 S v0 I J = some o) : mm_W l M4_tokenOf (mm_rm (mm_rk M4_tokenOf)) 0 0 S (mm_end S (mm_Qi o I J)) 14 [(0, .int v0)] [] I J := by
  unfold f4_tokenOf_14 at h
  refine mm_iload_n d4_tokenOf_14 rfl ?_
  refine mm_bipush (v := 48) d4_tokenOf_15 (by decide +kernel) ?_
  refine mm_icmp_lt (tgt := 28) d4_tokenOf_17 (by decide) (fun hc1 => ?_) (fun hc1 => ?_)
  · rw [if_pos hc1] at h
    refine mm_sub [(0, .int v0)] ⟨rfl, trivial⟩ ?_
    exact ok4_tokenOf_28 l hS   h
  · rw [if_neg hc1] at h
    refine mm_iload_n d4_tokenOf_20 rfl ?_
    refine mm_bipush (v := 57) d4_tokenOf_21 (by decide +kernel) ?_
    refine mm_icmp_gt (tgt := 28) d4_tokenOf_23 (by decide) (fun hc2 => ?_) (fun hc2 => ?_)
    · rw [if_pos hc2] at h
      refine mm_sub [(0, .int v0)] ⟨rfl, trivial⟩ ?_
      exact ok4_tokenOf_28 l hS   h
    · rw [if_neg hc2] at h
      refine mm_iconst (v := 2) d4_tokenOf_26 (by decide +kernel) ?_
      have h := Option.some.inj h
      subst h
      exact mm_iret rfl d4_tokenOf_27 ⟨rfl, rfl, rfl⟩
set_option maxHeartbeats 4000000 in
set_option maxRecDepth 100000 in
theorem ok4_tokenOf (l : Launch) {S : mm_Sh} (hS : mm_WT S)  {v0 : Int32}  {I : mm_I} {J : mm_J} {o : Int32} (h : f4_tokenOf S v0 I J = some o) : mm_C l M4_tokenOf S [.int v0] I J (mm_Qi o I J) := by
  unfold f4_tokenOf at h
  refine mm_enter rfl (by decide +kernel) rfl ?_
  refine mm_iload_n d4_tokenOf_0 rfl ?_
  refine mm_bipush (v := 97) d4_tokenOf_1 (by decide +kernel) ?_
  refine mm_icmp_lt (tgt := 14) d4_tokenOf_3 (by decide) (fun hc1 => ?_) (fun hc1 => ?_)
  · rw [if_pos hc1] at h
    refine mm_sub [(0, .int v0)] ⟨rfl, trivial⟩ ?_
    exact ok4_tokenOf_14 l hS   h
  · rw [if_neg hc1] at h
    refine mm_iload_n d4_tokenOf_6 rfl ?_
    refine mm_bipush (v := 122) d4_tokenOf_7 (by decide +kernel) ?_
    refine mm_icmp_gt (tgt := 14) d4_tokenOf_9 (by decide) (fun hc2 => ?_) (fun hc2 => ?_)
    · rw [if_pos hc2] at h
      refine mm_sub [(0, .int v0)] ⟨rfl, trivial⟩ ?_
      exact ok4_tokenOf_14 l hS   h
    · rw [if_neg hc2] at h
      refine mm_iconst (v := 1) d4_tokenOf_12 (by decide +kernel) ?_
      have h := Option.some.inj h
      subst h
      exact mm_iret rfl d4_tokenOf_13 ⟨rfl, rfl, rfl⟩
set_option maxHeartbeats 4000000 in
set_option maxRecDepth 100000 in
theorem ok6_at_23 (l : Launch) {S : mm_Sh} (hS : mm_WT S)  {s0 : Int32}  {I : mm_I} {J : mm_J} {o : Int32} (h : f6_at_23 S s0 I J = some o) : mm_W l M6_at (mm_rm (mm_rk M6_at)) 0 0 S (mm_end S (mm_Qi o I J)) 23 [] [.int s0] I J := by
  unfold f6_at_23 at h
  have h := Option.some.inj h
  subst h
  exact mm_iret rfl d6_at_23 ⟨rfl, rfl, rfl⟩
set_option maxHeartbeats 4000000 in
set_option maxRecDepth 100000 in
theorem ok6_at_22 (l : Launch) {S : mm_Sh} (hS : mm_WT S)    {I : mm_I} {J : mm_J} {o : Int32} (h : f6_at_22 S  I J = some o) : mm_W l M6_at (mm_rm (mm_rk M6_at)) 0 0 S (mm_end S (mm_Qi o I J)) 22 [] [] I J := by
  unfold f6_at_22 at h
  refine mm_iconst (v := 0) d6_at_22 (by decide +kernel) ?_
  refine mm_sub [] trivial ?_
  exact ok6_at_23 l hS   h
set_option maxHeartbeats 4000000 in
set_option maxRecDepth 100000 in
theorem ok6_at (l : Launch) {S : mm_Sh} (hS : mm_WT S)  {v0 : Nat} {v1 : Int32} (h0 : mm_is S v0 6) {I : mm_I} {J : mm_J} {o : Int32} (h : f6_at S v0 v1 I J = some o) : mm_C l M6_at S [.ref v0, .int v1] I J (mm_Qi o I J) := by
  unfold f6_at at h
  refine mm_enter rfl (by decide +kernel) rfl ?_
  refine mm_iload_n d6_at_0 rfl ?_
  refine mm_if_lt (tgt := 22) d6_at_1 (by decide) (fun hc1 => ?_) (fun hc1 => ?_)
  · rw [if_pos hc1] at h
    refine mm_sub [] trivial ?_
    exact ok6_at_22 l hS   h
  · rw [if_neg hc1] at h
    refine mm_iload_n d6_at_4 rfl ?_
    refine mm_aload_n d6_at_5 rfl ?_
    refine mm_getR fl_X6_13 d6_at_6 (mm_wtR hS 50 h0 rfl rfl) ?_
    refine mm_alen d6_at_9 (mm_wtA hS 0 0 h0 rfl rfl) rfl ?_
    refine mm_icmp_ge (tgt := 22) d6_at_10 (by decide) (fun hc2 => ?_) (fun hc2 => ?_)
    · rw [if_pos hc2] at h
      refine mm_sub [] trivial ?_
      exact ok6_at_22 l hS   h
    · rw [if_neg hc2] at h
      refine mm_aload_n d6_at_13 rfl ?_
      refine mm_getR fl_X6_13 d6_at_14 (mm_wtR hS 50 h0 rfl rfl) ?_
      refine mm_iload_n d6_at_17 rfl ?_
      obtain ⟨hb3, h⟩ := mm_gd h
      refine mm_iald d6_at_18 (mm_wtA hS 0 0 h0 rfl rfl) (mm_inb_ok hb3) ?_
      refine mm_goto (tgt := 23) d6_at_19 (by decide) ?_
      refine mm_sub [] trivial ?_
      exact ok6_at_23 l hS   h
set_option maxHeartbeats 4000000 in
set_option maxRecDepth 100000 in
theorem ok6_copyFrom_38 (l : Launch) {S : mm_Sh} (hS : mm_WT S) {n : Nat}    {I : mm_I} {J : mm_J} {o : mm_I × mm_J} (h : f6_copyFrom_38 S n  I J = some o) : mm_W l M6_copyFrom (mm_rm (mm_rk M6_copyFrom)) 0 0 S (mm_end S (mm_Qv o.1 o.2)) 38 [] [] I J := by
  unfold f6_copyFrom_38 at h
  have h := Option.some.inj h
  subst h
  exact mm_vret rfl d6_copyFrom_38 ⟨rfl, rfl, rfl⟩
set_option maxHeartbeats 4000000 in
set_option maxRecDepth 100000 in
theorem ok6_copyFrom_2_b (l : Launch) {S : mm_Sh} (hS : mm_WT S) {n : Nat}  {rec2 : Nat → Nat → Int32 → mm_I → mm_J → Option (mm_I × mm_J)} (hrec2 : ∀ {v0 : Nat} {v1 : Nat} {v2 : Int32} (_ : mm_is S v0 6) (_ : mm_is S v1 6) {I : mm_I} {J : mm_J} {o : mm_I × mm_J}, rec2 v0 v1 v2 I J = some o → mm_W l M6_copyFrom (mm_rm (mm_rk M6_copyFrom)) 0 0 S (mm_end S (mm_Qv o.1 o.2)) 2 [(0, .ref v0), (1, .ref v1), (2, .int v2)] [] I J) {v0 : Nat} {v1 : Nat} {v2 : Int32} (h0 : mm_is S v0 6) (h1 : mm_is S v1 6) {I : mm_I} {J : mm_J} {o : mm_I × mm_J} (h : f6_copyFrom_2_b S n rec2 v0 v1 v2 I J = some o) : mm_W l M6_copyFrom (mm_rm (mm_rk M6_copyFrom)) 0 0 S (mm_end S (mm_Qv o.1 o.2)) 2 [(0, .ref v0), (1, .ref v1), (2, .int v2)] [] I J := by
  unfold f6_copyFrom_2_b at h
  refine mm_iload_n d6_copyFrom_2 rfl ?_
  refine mm_aload_n d6_copyFrom_3 rfl ?_
  refine mm_getR fl_X6_13 d6_copyFrom_4 (mm_wtR hS 50 h0 rfl rfl) ?_
  refine mm_alen d6_copyFrom_7 (mm_wtA hS 0 0 h0 rfl rfl) rfl ?_
  refine mm_icmp_ge (tgt := 38) d6_copyFrom_8 (by decide) (fun hc1 => ?_) (fun hc1 => ?_)
  · rw [if_pos hc1] at h
    refine mm_sub [] trivial ?_
    exact ok6_copyFrom_38 l hS   h
  · rw [if_neg hc1] at h
    refine mm_iload_n d6_copyFrom_11 rfl ?_
    refine mm_aload_n d6_copyFrom_12 rfl ?_
    refine mm_getR fl_X6_13 d6_copyFrom_13 (mm_wtR hS 50 h1 rfl rfl) ?_
    refine mm_alen d6_copyFrom_16 (mm_wtA hS 0 0 h1 rfl rfl) rfl ?_
    refine mm_icmp_ge (tgt := 38) d6_copyFrom_17 (by decide) (fun hc2 => ?_) (fun hc2 => ?_)
    · rw [if_pos hc2] at h
      refine mm_sub [] trivial ?_
      exact ok6_copyFrom_38 l hS   h
    · rw [if_neg hc2] at h
      refine mm_aload_n d6_copyFrom_20 rfl ?_
      refine mm_getR fl_X6_13 d6_copyFrom_21 (mm_wtR hS 50 h0 rfl rfl) ?_
      refine mm_iload_n d6_copyFrom_24 rfl ?_
      refine mm_aload_n d6_copyFrom_25 rfl ?_
      refine mm_getR fl_X6_13 d6_copyFrom_26 (mm_wtR hS 50 h1 rfl rfl) ?_
      refine mm_iload_n d6_copyFrom_29 rfl ?_
      obtain ⟨hb3, h⟩ := mm_gd h
      refine mm_iald d6_copyFrom_30 (mm_wtA hS 0 0 h1 rfl rfl) (mm_inb_ok hb3) ?_
      obtain ⟨hb4, h⟩ := mm_gd h
      refine mm_iast d6_copyFrom_31 (mm_wtA hS 0 0 h0 rfl rfl) (mm_inb_ok hb4) ?_
      refine mm_iinc (v := v2 + 1) d6_copyFrom_32 rfl rfl rfl rfl ?_
      refine mm_goto (tgt := 2) d6_copyFrom_35 (by decide) ?_
      refine mm_sub [(0, .ref v0), (1, .ref v1), (2, .int (v2 + 1))] ⟨rfl, rfl, rfl, trivial⟩ ?_
      exact hrec2 h0 h1 h
set_option maxHeartbeats 4000000 in
set_option maxRecDepth 100000 in
theorem ok6_copyFrom_2 (l : Launch) {S : mm_Sh} (hS : mm_WT S) {n : Nat}  : ∀ (k : Nat) {v0 : Nat} {v1 : Nat} {v2 : Int32} (h0 : mm_is S v0 6) (h1 : mm_is S v1 6) {I : mm_I} {J : mm_J} {o : mm_I × mm_J}, f6_copyFrom_2 S n k v0 v1 v2 I J = some o → mm_W l M6_copyFrom (mm_rm (mm_rk M6_copyFrom)) 0 0 S (mm_end S (mm_Qv o.1 o.2)) 2 [(0, .ref v0), (1, .ref v1), (2, .int v2)] [] I J := by
  intro k
  induction k with
  | zero =>
    intros
    rename_i h
    cases h
  | succ k ih =>
    intro v0 v1 v2 h0 h1 I J o h
    exact ok6_copyFrom_2_b l hS (fun {v0 v1 v2} h0 h1 {I J o} h => ih h0 h1 h) h0 h1 h
set_option maxHeartbeats 4000000 in
set_option maxRecDepth 100000 in
theorem ok6_copyFrom (l : Launch) {S : mm_Sh} (hS : mm_WT S) {n : Nat}  {v0 : Nat} {v1 : Nat} (h0 : mm_is S v0 6) (h1 : mm_is S v1 6) {I : mm_I} {J : mm_J} {o : mm_I × mm_J} (h : f6_copyFrom S n v0 v1 I J = some o) : mm_C l M6_copyFrom S [.ref v0, .ref v1] I J (mm_Qv o.1 o.2) := by
  unfold f6_copyFrom at h
  refine mm_enter rfl (by decide +kernel) rfl ?_
  refine mm_iconst (v := 0) d6_copyFrom_0 (by decide +kernel) ?_
  refine mm_istore_n d6_copyFrom_1 rfl rfl ?_
  refine mm_sub [(0, .ref v0), (1, .ref v1), (2, .int 0)] ⟨rfl, rfl, rfl, trivial⟩ ?_
  exact ok6_copyFrom_2 l hS  n h0 h1 h
set_option maxHeartbeats 4000000 in
set_option maxRecDepth 100000 in
theorem ok6_fill_2_b (l : Launch) {S : mm_Sh} (hS : mm_WT S) {n : Nat}  {rec2 : Nat → Int32 → Int32 → mm_I → mm_J → Option (mm_I × mm_J)} (hrec2 : ∀ {v0 : Nat} {v1 : Int32} {v2 : Int32} (_ : mm_is S v0 6) {I : mm_I} {J : mm_J} {o : mm_I × mm_J}, rec2 v0 v1 v2 I J = some o → mm_W l M6_fill (mm_rm (mm_rk M6_fill)) 0 0 S (mm_end S (mm_Qv o.1 o.2)) 2 [(0, .ref v0), (1, .int v1), (2, .int v2)] [] I J) {v0 : Nat} {v1 : Int32} {v2 : Int32} (h0 : mm_is S v0 6) {I : mm_I} {J : mm_J} {o : mm_I × mm_J} (h : f6_fill_2_b S n rec2 v0 v1 v2 I J = some o) : mm_W l M6_fill (mm_rm (mm_rk M6_fill)) 0 0 S (mm_end S (mm_Qv o.1 o.2)) 2 [(0, .ref v0), (1, .int v1), (2, .int v2)] [] I J := by
  unfold f6_fill_2_b at h
  refine mm_iload_n d6_fill_2 rfl ?_
  refine mm_aload_n d6_fill_3 rfl ?_
  refine mm_getR fl_X6_13 d6_fill_4 (mm_wtR hS 50 h0 rfl rfl) ?_
  refine mm_alen d6_fill_7 (mm_wtA hS 0 0 h0 rfl rfl) rfl ?_
  refine mm_icmp_ge (tgt := 24) d6_fill_8 (by decide) (fun hc1 => ?_) (fun hc1 => ?_)
  · rw [if_pos hc1] at h
    have h := Option.some.inj h
    subst h
    exact mm_vret rfl d6_fill_24 ⟨rfl, rfl, rfl⟩
  · rw [if_neg hc1] at h
    refine mm_aload_n d6_fill_11 rfl ?_
    refine mm_getR fl_X6_13 d6_fill_12 (mm_wtR hS 50 h0 rfl rfl) ?_
    refine mm_iload_n d6_fill_15 rfl ?_
    refine mm_iload_n d6_fill_16 rfl ?_
    obtain ⟨hb2, h⟩ := mm_gd h
    refine mm_iast d6_fill_17 (mm_wtA hS 0 0 h0 rfl rfl) (mm_inb_ok hb2) ?_
    refine mm_iinc (v := v2 + 1) d6_fill_18 rfl rfl rfl rfl ?_
    refine mm_goto (tgt := 2) d6_fill_21 (by decide) ?_
    refine mm_sub [(0, .ref v0), (1, .int v1), (2, .int (v2 + 1))] ⟨rfl, rfl, rfl, trivial⟩ ?_
    exact hrec2 h0 h
set_option maxHeartbeats 4000000 in
set_option maxRecDepth 100000 in
theorem ok6_fill_2 (l : Launch) {S : mm_Sh} (hS : mm_WT S) {n : Nat}  : ∀ (k : Nat) {v0 : Nat} {v1 : Int32} {v2 : Int32} (h0 : mm_is S v0 6) {I : mm_I} {J : mm_J} {o : mm_I × mm_J}, f6_fill_2 S n k v0 v1 v2 I J = some o → mm_W l M6_fill (mm_rm (mm_rk M6_fill)) 0 0 S (mm_end S (mm_Qv o.1 o.2)) 2 [(0, .ref v0), (1, .int v1), (2, .int v2)] [] I J := by
  intro k
  induction k with
  | zero =>
    intros
    rename_i h
    cases h
  | succ k ih =>
    intro v0 v1 v2 h0 I J o h
    exact ok6_fill_2_b l hS (fun {v0 v1 v2} h0 {I J o} h => ih h0 h) h0 h
set_option maxHeartbeats 4000000 in
set_option maxRecDepth 100000 in
theorem ok6_fill (l : Launch) {S : mm_Sh} (hS : mm_WT S) {n : Nat}  {v0 : Nat} {v1 : Int32} (h0 : mm_is S v0 6) {I : mm_I} {J : mm_J} {o : mm_I × mm_J} (h : f6_fill S n v0 v1 I J = some o) : mm_C l M6_fill S [.ref v0, .int v1] I J (mm_Qv o.1 o.2) := by
  unfold f6_fill at h
  refine mm_enter rfl (by decide +kernel) rfl ?_
  refine mm_iconst (v := 0) d6_fill_0 (by decide +kernel) ?_
  refine mm_istore_n d6_fill_1 rfl rfl ?_
  refine mm_sub [(0, .ref v0), (1, .int v1), (2, .int 0)] ⟨rfl, rfl, rfl, trivial⟩ ?_
  exact ok6_fill_2 l hS  n h0 h
set_option maxHeartbeats 4000000 in
set_option maxRecDepth 100000 in
theorem ok6_put_20 (l : Launch) {S : mm_Sh} (hS : mm_WT S)    {I : mm_I} {J : mm_J} {o : mm_I × mm_J} (h : f6_put_20 S  I J = some o) : mm_W l M6_put (mm_rm (mm_rk M6_put)) 0 0 S (mm_end S (mm_Qv o.1 o.2)) 20 [] [] I J := by
  unfold f6_put_20 at h
  have h := Option.some.inj h
  subst h
  exact mm_vret rfl d6_put_20 ⟨rfl, rfl, rfl⟩
set_option maxHeartbeats 4000000 in
set_option maxRecDepth 100000 in
theorem ok6_put (l : Launch) {S : mm_Sh} (hS : mm_WT S)  {v0 : Nat} {v1 : Int32} {v2 : Int32} (h0 : mm_is S v0 6) {I : mm_I} {J : mm_J} {o : mm_I × mm_J} (h : f6_put S v0 v1 v2 I J = some o) : mm_C l M6_put S [.ref v0, .int v1, .int v2] I J (mm_Qv o.1 o.2) := by
  unfold f6_put at h
  refine mm_enter rfl (by decide +kernel) rfl ?_
  refine mm_iload_n d6_put_0 rfl ?_
  refine mm_if_lt (tgt := 20) d6_put_1 (by decide) (fun hc1 => ?_) (fun hc1 => ?_)
  · rw [if_pos hc1] at h
    refine mm_sub [] trivial ?_
    exact ok6_put_20 l hS   h
  · rw [if_neg hc1] at h
    refine mm_iload_n d6_put_4 rfl ?_
    refine mm_aload_n d6_put_5 rfl ?_
    refine mm_getR fl_X6_13 d6_put_6 (mm_wtR hS 50 h0 rfl rfl) ?_
    refine mm_alen d6_put_9 (mm_wtA hS 0 0 h0 rfl rfl) rfl ?_
    refine mm_icmp_ge (tgt := 20) d6_put_10 (by decide) (fun hc2 => ?_) (fun hc2 => ?_)
    · rw [if_pos hc2] at h
      refine mm_sub [] trivial ?_
      exact ok6_put_20 l hS   h
    · rw [if_neg hc2] at h
      refine mm_aload_n d6_put_13 rfl ?_
      refine mm_getR fl_X6_13 d6_put_14 (mm_wtR hS 50 h0 rfl rfl) ?_
      refine mm_iload_n d6_put_17 rfl ?_
      refine mm_iload_n d6_put_18 rfl ?_
      obtain ⟨hb3, h⟩ := mm_gd h
      refine mm_iast d6_put_19 (mm_wtA hS 0 0 h0 rfl rfl) (mm_inb_ok hb3) ?_
      refine mm_sub [] trivial ?_
      exact ok6_put_20 l hS   h
set_option maxHeartbeats 4000000 in
set_option maxRecDepth 100000 in
theorem ok7_clear (l : Launch) {S : mm_Sh} (hS : mm_WT S)  {v0 : Nat} (h0 : mm_is S v0 7) {I : mm_I} {J : mm_J} {o : mm_I × mm_J} (h : f7_clear S v0 I J = some o) : mm_C l M7_clear S [.ref v0] I J (mm_Qv o.1 o.2) := by
  unfold f7_clear at h
  refine mm_enter rfl (by decide +kernel) rfl ?_
  refine mm_aload_n d7_clear_0 rfl ?_
  refine mm_iconst (v := 2) d7_clear_1 (by decide +kernel) ?_
  refine mm_putI fp_X7_14 d7_clear_2 (mm_wtI hS h0 rfl) ?_
  refine mm_aload_n d7_clear_5 rfl ?_
  refine mm_iconst (v := 2) d7_clear_6 (by decide +kernel) ?_
  refine mm_putI fp_X7_18 d7_clear_7 (mm_wtI hS h0 rfl) ?_
  refine mm_aload_n d7_clear_10 rfl ?_
  refine mm_bipush (v := 25) d7_clear_11 (by decide +kernel) ?_
  refine mm_putI fp_X7_21 d7_clear_13 (mm_wtI hS h0 rfl) ?_
  refine mm_aload_n d7_clear_16 rfl ?_
  refine mm_iconst (v := 5) d7_clear_17 (by decide +kernel) ?_
  refine mm_putI fp_X7_24 d7_clear_18 (mm_wtI hS h0 rfl) ?_
  refine mm_aload_n d7_clear_21 rfl ?_
  refine mm_bipush (v := 70) d7_clear_22 (by decide +kernel) ?_
  refine mm_putI fp_X7_27 d7_clear_24 (mm_wtI hS h0 rfl) ?_
  refine mm_aload_n d7_clear_27 rfl ?_
  refine mm_iconst (v := 0) d7_clear_28 (by decide +kernel) ?_
  refine mm_putZ fp_X7_30 d7_clear_29 (mm_wtI hS h0 rfl) (by decide) ?_
  refine mm_aload_n d7_clear_32 rfl ?_
  refine mm_iconst (v := 0) d7_clear_33 (by decide +kernel) ?_
  refine mm_putI fp_X7_34 d7_clear_34 (mm_wtI hS h0 rfl) ?_
  have h := Option.some.inj h
  subst h
  exact mm_vret rfl d7_clear_37 ⟨rfl, rfl, rfl⟩
set_option maxHeartbeats 4000000 in
set_option maxRecDepth 100000 in
theorem ok7_copyFrom (l : Launch) {S : mm_Sh} (hS : mm_WT S)  {v0 : Nat} {v1 : Nat} (h0 : mm_is S v0 7) (h1 : mm_is S v1 7) {I : mm_I} {J : mm_J} {o : mm_I × mm_J} (h : f7_copyFrom S v0 v1 I J = some o) : mm_C l M7_copyFrom S [.ref v0, .ref v1] I J (mm_Qv o.1 o.2) := by
  unfold f7_copyFrom at h
  refine mm_enter rfl (by decide +kernel) rfl ?_
  refine mm_aload_n d7_copyFrom_0 rfl ?_
  refine mm_aload_n d7_copyFrom_1 rfl ?_
  refine mm_getI fl_X7_14 d7_copyFrom_2 (mm_wtI hS h1 rfl) ?_
  refine mm_putI fp_X7_14 d7_copyFrom_5 (mm_wtI hS h0 rfl) ?_
  refine mm_aload_n d7_copyFrom_8 rfl ?_
  refine mm_aload_n d7_copyFrom_9 rfl ?_
  refine mm_getI fl_X7_18 d7_copyFrom_10 (mm_wtI hS h1 rfl) ?_
  refine mm_putI fp_X7_18 d7_copyFrom_13 (mm_wtI hS h0 rfl) ?_
  refine mm_aload_n d7_copyFrom_16 rfl ?_
  refine mm_aload_n d7_copyFrom_17 rfl ?_
  refine mm_getI fl_X7_21 d7_copyFrom_18 (mm_wtI hS h1 rfl) ?_
  refine mm_putI fp_X7_21 d7_copyFrom_21 (mm_wtI hS h0 rfl) ?_
  refine mm_aload_n d7_copyFrom_24 rfl ?_
  refine mm_aload_n d7_copyFrom_25 rfl ?_
  refine mm_getI fl_X7_24 d7_copyFrom_26 (mm_wtI hS h1 rfl) ?_
  refine mm_putI fp_X7_24 d7_copyFrom_29 (mm_wtI hS h0 rfl) ?_
  refine mm_aload_n d7_copyFrom_32 rfl ?_
  refine mm_aload_n d7_copyFrom_33 rfl ?_
  refine mm_getI fl_X7_27 d7_copyFrom_34 (mm_wtI hS h1 rfl) ?_
  refine mm_putI fp_X7_27 d7_copyFrom_37 (mm_wtI hS h0 rfl) ?_
  refine mm_aload_n d7_copyFrom_40 rfl ?_
  refine mm_aload_n d7_copyFrom_41 rfl ?_
  refine mm_getI fl_X7_30 d7_copyFrom_42 (mm_wtI hS h1 rfl) ?_
  obtain ⟨hb1, h⟩ := mm_gd h
  refine mm_putZ fp_X7_30 d7_copyFrom_45 (mm_wtI hS h0 rfl) (mm_bit_ok hb1) ?_
  have h := Option.some.inj h
  subst h
  exact mm_vret rfl d7_copyFrom_48 ⟨rfl, rfl, rfl⟩
set_option maxHeartbeats 4000000 in
set_option maxRecDepth 100000 in
theorem ok8_clear (l : Launch) {S : mm_Sh} (hS : mm_WT S)  {v0 : Nat} (h0 : mm_is S v0 8) {I : mm_I} {J : mm_J} {o : mm_I × mm_J} (h : f8_clear S v0 I J = some o) : mm_C l M8_clear S [.ref v0] I J (mm_Qv o.1 o.2) := by
  unfold f8_clear at h
  refine mm_enter rfl (by decide +kernel) rfl ?_
  refine mm_aload_n d8_clear_0 rfl ?_
  refine mm_iconst (v := 0) d8_clear_1 (by decide +kernel) ?_
  refine mm_putI fp_X8_35 d8_clear_2 (mm_wtI hS h0 rfl) ?_
  refine mm_aload_n d8_clear_5 rfl ?_
  refine mm_iconst (v := 0) d8_clear_6 (by decide +kernel) ?_
  refine mm_putI fp_X8_39 d8_clear_7 (mm_wtI hS h0 rfl) ?_
  have h := Option.some.inj h
  subst h
  exact mm_vret rfl d8_clear_10 ⟨rfl, rfl, rfl⟩
set_option maxHeartbeats 4000000 in
set_option maxRecDepth 100000 in
theorem okJ6_bitCount (l : Launch) {S : mm_Sh} (hS : mm_WT S)  {v0 : Int32}  {I : mm_I} {J : mm_J} {o : Int32} (h : fJ6_bitCount S v0 I J = some o) : mm_C l MJ6_bitCount S [.int v0] I J (mm_Qi o I J) := by
  unfold fJ6_bitCount at h
  refine mm_enter rfl (by decide +kernel) rfl ?_
  refine mm_iload_n dJ6_bitCount_0 rfl ?_
  refine mm_iload_n dJ6_bitCount_1 rfl ?_
  refine mm_iconst (v := 1) dJ6_bitCount_2 (by decide +kernel) ?_
  refine mm_iushr dJ6_bitCount_3 ?_
  refine mm_ldcw (v := 1431655765) dJ6_bitCount_4 kJ6_265 ?_
  refine mm_iand dJ6_bitCount_7 ?_
  refine mm_isub dJ6_bitCount_8 ?_
  refine mm_istore_n dJ6_bitCount_9 rfl rfl ?_
  refine mm_iload_n dJ6_bitCount_10 rfl ?_
  refine mm_ldcw (v := 858993459) dJ6_bitCount_11 kJ6_266 ?_
  refine mm_iand dJ6_bitCount_14 ?_
  refine mm_iload_n dJ6_bitCount_15 rfl ?_
  refine mm_iconst (v := 2) dJ6_bitCount_16 (by decide +kernel) ?_
  refine mm_iushr dJ6_bitCount_17 ?_
  refine mm_ldcw (v := 858993459) dJ6_bitCount_18 kJ6_266 ?_
  refine mm_iand dJ6_bitCount_21 ?_
  refine mm_iadd dJ6_bitCount_22 ?_
  refine mm_istore_n dJ6_bitCount_23 rfl rfl ?_
  refine mm_iload_n dJ6_bitCount_24 rfl ?_
  refine mm_iload_n dJ6_bitCount_25 rfl ?_
  refine mm_iconst (v := 4) dJ6_bitCount_26 (by decide +kernel) ?_
  refine mm_iushr dJ6_bitCount_27 ?_
  refine mm_iadd dJ6_bitCount_28 ?_
  refine mm_ldcw (v := 252645135) dJ6_bitCount_29 kJ6_267 ?_
  refine mm_iand dJ6_bitCount_32 ?_
  refine mm_istore_n dJ6_bitCount_33 rfl rfl ?_
  refine mm_iload_n dJ6_bitCount_34 rfl ?_
  refine mm_iload_n dJ6_bitCount_35 rfl ?_
  refine mm_bipush (v := 8) dJ6_bitCount_36 (by decide +kernel) ?_
  refine mm_iushr dJ6_bitCount_38 ?_
  refine mm_iadd dJ6_bitCount_39 ?_
  refine mm_istore_n dJ6_bitCount_40 rfl rfl ?_
  refine mm_iload_n dJ6_bitCount_41 rfl ?_
  refine mm_iload_n dJ6_bitCount_42 rfl ?_
  refine mm_bipush (v := 16) dJ6_bitCount_43 (by decide +kernel) ?_
  refine mm_iushr dJ6_bitCount_45 ?_
  refine mm_iadd dJ6_bitCount_46 ?_
  refine mm_istore_n dJ6_bitCount_47 rfl rfl ?_
  refine mm_iload_n dJ6_bitCount_48 rfl ?_
  refine mm_bipush (v := 63) dJ6_bitCount_49 (by decide +kernel) ?_
  refine mm_iand dJ6_bitCount_51 ?_
  have h := Option.some.inj h
  subst h
  exact mm_iret rfl dJ6_bitCount_52 ⟨rfl, rfl, rfl⟩
