/-! ===== the machine does what the functions say: written by wip/whole/gen.py ===== -/
set_option maxHeartbeats 4000000 in
set_option maxRecDepth 100000 in
theorem ok11_bits_4_b (l : Launch) {S : mm_Sh} (hS : mm_WT S) {n : Nat}  {rec4 : Int32 → Int32 → Int32 → mm_I → mm_J → Option (Int32)} (hrec4 : ∀ {v0 : Int32} {v1 : Int32} {v2 : Int32}  {I : mm_I} {J : mm_J} {o : Int32}, rec4 v0 v1 v2 I J = some o → mm_W l M11_bits (mm_rm (mm_rk M11_bits)) 0 0 S (mm_end S (mm_Qi o I J)) 4 [(0, .int v0), (1, .int v1), (2, .int v2)] [] I J) {v0 : Int32} {v1 : Int32} {v2 : Int32}  {I : mm_I} {J : mm_J} {o : Int32} (h : f11_bits_4_b S n rec4 v0 v1 v2 I J = some o) : mm_W l M11_bits (mm_rm (mm_rk M11_bits)) 0 0 S (mm_end S (mm_Qi o I J)) 4 [(0, .int v0), (1, .int v1), (2, .int v2)] [] I J := by
  unfold f11_bits_4_b at h
  refine mm_iload_n d11_bits_4 rfl ?_
  refine mm_bipush (v := 8) d11_bits_5 (by decide +kernel) ?_
  refine mm_icmp_ge (tgt := 24) d11_bits_7 (by decide) (fun hc1 => ?_) (fun hc1 => ?_)
  · rw [if_pos hc1] at h
    refine mm_iload_n d11_bits_24 rfl ?_
    have h := Option.some.inj h
    subst h
    exact mm_iret rfl d11_bits_25 ⟨rfl, rfl, rfl⟩
  · rw [if_neg hc1] at h
    refine mm_iload_n d11_bits_10 rfl ?_
    refine mm_iload_n d11_bits_11 rfl ?_
    refine mm_iload_n d11_bits_12 rfl ?_
    refine mm_ishr d11_bits_13 ?_
    refine mm_iconst (v := 1) d11_bits_14 (by decide +kernel) ?_
    refine mm_iand d11_bits_15 ?_
    refine mm_iadd d11_bits_16 ?_
    refine mm_istore_n d11_bits_17 rfl rfl ?_
    refine mm_iinc (v := v2 + 1) d11_bits_18 rfl rfl rfl rfl ?_
    refine mm_goto (tgt := 4) d11_bits_21 (by decide) ?_
    refine mm_sub [(0, .int v0), (1, .int (v1 + ((v0 >>> (v2 &&& 31)) &&& 1))), (2, .int (v2 + 1))] ⟨rfl, rfl, rfl, trivial⟩ ?_
    exact hrec4  h
set_option maxHeartbeats 4000000 in
set_option maxRecDepth 100000 in
theorem ok11_bits_4 (l : Launch) {S : mm_Sh} (hS : mm_WT S) {n : Nat}  : ∀ (k : Nat) {v0 : Int32} {v1 : Int32} {v2 : Int32}  {I : mm_I} {J : mm_J} {o : Int32}, f11_bits_4 S n k v0 v1 v2 I J = some o → mm_W l M11_bits (mm_rm (mm_rk M11_bits)) 0 0 S (mm_end S (mm_Qi o I J)) 4 [(0, .int v0), (1, .int v1), (2, .int v2)] [] I J := by
  intro k
  induction k with
  | zero =>
    intros
    rename_i h
    cases h
  | succ k ih =>
    intro v0 v1 v2  I J o h
    exact ok11_bits_4_b l hS (fun {v0 v1 v2}  {I J o} h => ih  h)  h
set_option maxHeartbeats 4000000 in
set_option maxRecDepth 100000 in
theorem ok11_bits (l : Launch) {S : mm_Sh} (hS : mm_WT S) {n : Nat}  {v0 : Int32}  {I : mm_I} {J : mm_J} {o : Int32} (h : f11_bits S n v0 I J = some o) : mm_C l M11_bits S [.int v0] I J (mm_Qi o I J) := by
  unfold f11_bits at h
  refine mm_enter rfl (by decide +kernel) rfl ?_
  refine mm_iconst (v := 0) d11_bits_0 (by decide +kernel) ?_
  refine mm_istore_n d11_bits_1 rfl rfl ?_
  refine mm_iconst (v := 0) d11_bits_2 (by decide +kernel) ?_
  refine mm_istore_n d11_bits_3 rfl rfl ?_
  refine mm_sub [(0, .int v0), (1, .int 0), (2, .int 0)] ⟨rfl, rfl, rfl, trivial⟩ ?_
  exact ok11_bits_4 l hS  n  h
set_option maxHeartbeats 4000000 in
set_option maxRecDepth 100000 in
theorem ok11_code (l : Launch) {S : mm_Sh} (hS : mm_WT S)  {v0 : Int32} {v1 : Int32} {v2 : Int32} {v3 : Int32}  {I : mm_I} {J : mm_J} {o : Int64} (h : f11_code S v0 v1 v2 v3 I J = some o) : mm_C l M11_code S [.int v0, .int v1, .int v2, .int v3] I J (mm_Ql o I J) := by
  unfold f11_code at h
  refine mm_enter rfl (by decide +kernel) rfl ?_
  refine mm_ldc2 (v := 27) d11_code_0 kX11_184 ?_
  refine mm_ldc2 (v := 27) d11_code_3 kX11_184 ?_
  refine mm_ldc2 (v := 27) d11_code_6 kX11_184 ?_
  refine mm_iload_n d11_code_9 rfl ?_
  refine mm_i2l d11_code_10 ?_
  refine mm_ldc2 (v := 96) d11_code_11 kX11_186 ?_
  refine mm_lsub d11_code_14 ?_
  refine mm_lmul d11_code_15 ?_
  refine mm_iload_n d11_code_16 rfl ?_
  refine mm_i2l d11_code_17 ?_
  refine mm_ladd d11_code_18 ?_
  refine mm_ldc2 (v := 96) d11_code_19 kX11_186 ?_
  refine mm_lsub d11_code_22 ?_
  refine mm_lmul d11_code_23 ?_
  refine mm_iload_n d11_code_24 rfl ?_
  refine mm_i2l d11_code_25 ?_
  refine mm_ladd d11_code_26 ?_
  refine mm_ldc2 (v := 96) d11_code_27 kX11_186 ?_
  refine mm_lsub d11_code_30 ?_
  refine mm_lmul d11_code_31 ?_
  refine mm_iload_n d11_code_32 rfl ?_
  refine mm_i2l d11_code_33 ?_
  refine mm_ladd d11_code_34 ?_
  refine mm_ldc2 (v := 96) d11_code_35 kX11_186 ?_
  refine mm_lsub d11_code_38 ?_
  have h := Option.some.inj h
  subst h
  exact mm_lret rfl d11_code_39 ⟨rfl, rfl, rfl⟩
set_option maxHeartbeats 4000000 in
set_option maxRecDepth 100000 in
theorem ok11_die_9_b (l : Launch) {S : mm_Sh} (hS : mm_WT S) {n : Nat}  {rec9 : Nat → Int32 → Int32 → mm_I → mm_J → Option (mm_I × mm_J)} (hrec9 : ∀ {v0 : Nat} {v1 : Int32} {v2 : Int32} (_ : mm_is S v0 11) {I : mm_I} {J : mm_J} {o : mm_I × mm_J}, rec9 v0 v1 v2 I J = some o → mm_W l M11_die (mm_rm (mm_rk M11_die)) 0 0 S (mm_end S (mm_Qv o.1 o.2)) 9 [(0, .ref v0), (1, .int v1), (2, .int v2)] [] I J) {v0 : Nat} {v1 : Int32} {v2 : Int32} (h0 : mm_is S v0 11) {I : mm_I} {J : mm_J} {o : mm_I × mm_J} (h : f11_die_9_b S n rec9 v0 v1 v2 I J = some o) : mm_W l M11_die (mm_rm (mm_rk M11_die)) 0 0 S (mm_end S (mm_Qv o.1 o.2)) 9 [(0, .ref v0), (1, .int v1), (2, .int v2)] [] I J := by
  unfold f11_die_9_b at h
  refine mm_iload_n d11_die_9 rfl ?_
  refine mm_bipush (v := 6) d11_die_10 (by decide +kernel) ?_
  refine mm_icmp_ge (tgt := 45) d11_die_12 (by decide) (fun hc1 => ?_) (fun hc1 => ?_)
  · rw [if_pos hc1] at h
    refine mm_aload_n d11_die_45 rfl ?_
    refine mm_getR fl_X11_54 d11_die_46 (mm_wtR hS 50 h0 rfl rfl) ?_
    refine mm_iload_n d11_die_49 rfl ?_
    refine mm_iconst (v := (-1)) d11_die_50 (by decide +kernel) ?_
    obtain ⟨hb2, h⟩ := mm_gd h
    refine mm_iast d11_die_51 (mm_wtA hS 17 0 h0 rfl rfl) (mm_inb_ok hb2) ?_
    refine mm_aload_n d11_die_52 rfl ?_
    refine mm_getR fl_X11_60 d11_die_53 (mm_wtR hS 50 h0 rfl rfl) ?_
    refine mm_iload_n d11_die_56 rfl ?_
    refine mm_iconst (v := (-1)) d11_die_57 (by decide +kernel) ?_
    obtain ⟨hb3, h⟩ := mm_gd h
    refine mm_iast d11_die_58 (mm_wtA hS 19 0 h0 rfl rfl) (mm_inb_ok hb3) ?_
    refine mm_aload_n d11_die_59 rfl ?_
    refine mm_getR fl_X11_51 d11_die_60 (mm_wtR hS 50 h0 rfl rfl) ?_
    refine mm_iload_n d11_die_63 rfl ?_
    refine mm_iconst (v := (-1)) d11_die_64 (by decide +kernel) ?_
    obtain ⟨hb4, h⟩ := mm_gd h
    refine mm_iast d11_die_65 (mm_wtA hS 16 0 h0 rfl rfl) (mm_inb_ok hb4) ?_
    have h := Option.some.inj h
    subst h
    exact mm_vret rfl d11_die_66 ⟨rfl, rfl, rfl⟩
  · rw [if_neg hc1] at h
    refine mm_aload_n d11_die_15 rfl ?_
    refine mm_getR fl_X11_45 d11_die_16 (mm_wtR hS 50 h0 rfl rfl) ?_
    refine mm_bipush (v := 6) d11_die_19 (by decide +kernel) ?_
    refine mm_iload_n d11_die_21 rfl ?_
    refine mm_imul d11_die_22 ?_
    refine mm_iload_n d11_die_23 rfl ?_
    refine mm_iadd d11_die_24 ?_
    refine mm_iconst (v := 0) d11_die_25 (by decide +kernel) ?_
    obtain ⟨hb5, h⟩ := mm_gd h
    refine mm_iast d11_die_26 (mm_wtA hS 14 0 h0 rfl rfl) (mm_inb_ok hb5) ?_
    refine mm_aload_n d11_die_27 rfl ?_
    refine mm_getR fl_X11_48 d11_die_28 (mm_wtR hS 50 h0 rfl rfl) ?_
    refine mm_bipush (v := 6) d11_die_31 (by decide +kernel) ?_
    refine mm_iload_n d11_die_33 rfl ?_
    refine mm_imul d11_die_34 ?_
    refine mm_iload_n d11_die_35 rfl ?_
    refine mm_iadd d11_die_36 ?_
    refine mm_iconst (v := (-1)) d11_die_37 (by decide +kernel) ?_
    obtain ⟨hb6, h⟩ := mm_gd h
    refine mm_iast d11_die_38 (mm_wtA hS 15 0 h0 rfl rfl) (mm_inb_ok hb6) ?_
    refine mm_iinc (v := v2 + 1) d11_die_39 rfl rfl rfl rfl ?_
    refine mm_goto (tgt := 9) d11_die_42 (by decide) ?_
    refine mm_sub [(0, .ref v0), (1, .int v1), (2, .int (v2 + 1))] ⟨rfl, rfl, rfl, trivial⟩ ?_
    exact hrec9 h0 h
set_option maxHeartbeats 4000000 in
set_option maxRecDepth 100000 in
theorem ok11_die_9 (l : Launch) {S : mm_Sh} (hS : mm_WT S) {n : Nat}  : ∀ (k : Nat) {v0 : Nat} {v1 : Int32} {v2 : Int32} (h0 : mm_is S v0 11) {I : mm_I} {J : mm_J} {o : mm_I × mm_J}, f11_die_9 S n k v0 v1 v2 I J = some o → mm_W l M11_die (mm_rm (mm_rk M11_die)) 0 0 S (mm_end S (mm_Qv o.1 o.2)) 9 [(0, .ref v0), (1, .int v1), (2, .int v2)] [] I J := by
  intro k
  induction k with
  | zero =>
    intros
    rename_i h
    cases h
  | succ k ih =>
    intro v0 v1 v2 h0 I J o h
    exact ok11_die_9_b l hS (fun {v0 v1 v2} h0 {I J o} h => ih h0 h) h0 h
set_option maxHeartbeats 4000000 in
set_option maxRecDepth 100000 in
theorem ok11_die (l : Launch) {S : mm_Sh} (hS : mm_WT S) {n : Nat}  {v0 : Nat} {v1 : Int32} (h0 : mm_is S v0 11) {I : mm_I} {J : mm_J} {o : mm_I × mm_J} (h : f11_die S n v0 v1 I J = some o) : mm_C l M11_die S [.ref v0, .int v1] I J (mm_Qv o.1 o.2) := by
  unfold f11_die at h
  refine mm_enter rfl (by decide +kernel) rfl ?_
  refine mm_aload_n d11_die_0 rfl ?_
  refine mm_getR fl_X11_41 d11_die_1 (mm_wtR hS 51 h0 rfl rfl) ?_
  refine mm_iload_n d11_die_4 rfl ?_
  refine mm_iconst (v := 0) d11_die_5 (by decide +kernel) ?_
  obtain ⟨hb1, h⟩ := mm_gd h
  refine mm_zast d11_die_6 (mm_wtA hS 13 1 h0 rfl rfl) (mm_inb_ok hb1) (by decide) ?_
  refine mm_iconst (v := 0) d11_die_7 (by decide +kernel) ?_
  refine mm_istore_n d11_die_8 rfl rfl ?_
  refine mm_sub [(0, .ref v0), (1, .int v1), (2, .int 0)] ⟨rfl, rfl, rfl, trivial⟩ ?_
  exact ok11_die_9 l hS  n h0 h
set_option maxHeartbeats 4000000 in
set_option maxRecDepth 100000 in
theorem ok11_draw (l : Launch) {S : mm_Sh} (hS : mm_WT S)  {v0 : Nat} {v1 : Int32} (h0 : mm_is S v0 11) {I : mm_I} {J : mm_J} {o : Int32 × mm_I × mm_J} (h : f11_draw S v0 v1 I J = some o) : mm_C l M11_draw S [.ref v0, .int v1] I J (mm_Qi o.1 o.2.1 o.2.2) := by
  unfold f11_draw at h
  refine mm_enter rfl (by decide +kernel) rfl ?_
  refine mm_aload_n d11_draw_0 rfl ?_
  refine mm_aload_n d11_draw_1 rfl ?_
  refine mm_getI fl_X11_301 d11_draw_2 (mm_wtI hS h0 rfl) ?_
  refine mm_i2l d11_draw_5 ?_
  refine mm_ldc2 (v := 1103515245) d11_draw_6 kX11_304 ?_
  refine mm_lmul d11_draw_9 ?_
  refine mm_ldc2 (v := 12345) d11_draw_10 kX11_306 ?_
  refine mm_ladd d11_draw_13 ?_
  refine mm_ldc2 (v := 2147483648) d11_draw_14 kX11_308 ?_
  refine mm_lrem d11_draw_17 (by decide) ?_
  refine mm_l2i d11_draw_18 ?_
  refine mm_putI fp_X11_301 d11_draw_19 (mm_wtI hS h0 rfl) ?_
  refine mm_aload_n d11_draw_22 rfl ?_
  refine mm_getI fl_X11_301 d11_draw_23 (mm_wtI hS h0 rfl) ?_
  refine mm_ldcw (v := 65536) d11_draw_26 kX11_310 ?_
  refine mm_idiv d11_draw_29 (by decide) ?_
  refine mm_iload_n d11_draw_30 rfl ?_
  obtain ⟨hz1, h⟩ := mm_gz h
  refine mm_irem d11_draw_31 hz1 ?_
  have h := Option.some.inj h
  subst h
  exact mm_iret rfl d11_draw_32 ⟨rfl, rfl, rfl⟩
set_option maxHeartbeats 4000000 in
set_option maxRecDepth 100000 in
theorem ok11_fails (l : Launch) {S : mm_Sh} (hS : mm_WT S)  {v0 : Nat} {v1 : Int32} {v2 : Int32} (h0 : mm_is S v0 11) {I : mm_I} {J : mm_J} {o : Int32 × mm_I × mm_J} (h : f11_fails S v0 v1 v2 I J = some o) : mm_C l M11_fails S [.ref v0, .int v1, .int v2] I J (mm_Qi o.1 o.2.1 o.2.2) := by
  unfold f11_fails at h
  refine mm_enter rfl (by decide +kernel) rfl ?_
  refine mm_aload_n d11_fails_0 rfl ?_
  refine mm_iload_n d11_fails_1 rfl ?_
  refine mm_putI fp_X11_78 d11_fails_2 (mm_wtI hS h0 rfl) ?_
  refine mm_iload_n d11_fails_5 rfl ?_
  have h := Option.some.inj h
  subst h
  exact mm_iret rfl d11_fails_6 ⟨rfl, rfl, rfl⟩
set_option maxHeartbeats 4000000 in
set_option maxRecDepth 100000 in
theorem ok11_fault (l : Launch) {S : mm_Sh} (hS : mm_WT S)  {v0 : Nat} (h0 : mm_is S v0 11) {I : mm_I} {J : mm_J} {o : Int32} (h : f11_fault S v0 I J = some o) : mm_C l M11_fault S [.ref v0] I J (mm_Qi o I J) := by
  unfold f11_fault at h
  refine mm_enter rfl (by decide +kernel) rfl ?_
  refine mm_aload_n d11_fault_0 rfl ?_
  refine mm_getI fl_X11_78 d11_fault_1 (mm_wtI hS h0 rfl) ?_
  have h := Option.some.inj h
  subst h
  exact mm_iret rfl d11_fault_4 ⟨rfl, rfl, rfl⟩
set_option maxHeartbeats 4000000 in
set_option maxRecDepth 100000 in
theorem ok11_forgetOn_108 (l : Launch) {S : mm_Sh} (hS : mm_WT S)    {I : mm_I} {J : mm_J} {o : mm_I × mm_J} (h : f11_forgetOn_108 S  I J = some o) : mm_W l M11_forgetOn (mm_rm (mm_rk M11_forgetOn)) 0 0 S (mm_end S (mm_Qv o.1 o.2)) 108 [] [] I J := by
  unfold f11_forgetOn_108 at h
  have h := Option.some.inj h
  subst h
  exact mm_vret rfl d11_forgetOn_108 ⟨rfl, rfl, rfl⟩
set_option maxHeartbeats 4000000 in
set_option maxRecDepth 100000 in
theorem ok11_forgetOn_68 (l : Launch) {S : mm_Sh} (hS : mm_WT S)  {v0 : Nat} {v1 : Int32} {v3 : Int32} {v5 : Int32} (h0 : mm_is S v0 11) {I : mm_I} {J : mm_J} {o : mm_I × mm_J} (h : f11_forgetOn_68 S v0 v1 v3 v5 I J = some o) : mm_W l M11_forgetOn (mm_rm (mm_rk M11_forgetOn)) 0 0 S (mm_end S (mm_Qv o.1 o.2)) 68 [(0, .ref v0), (1, .int v1), (3, .int v3), (5, .int v5)] [] I J := by
  unfold f11_forgetOn_68 at h
  refine mm_iload d11_forgetOn_68 rfl ?_
  refine mm_if_gt (tgt := 100) d11_forgetOn_70 (by decide) (fun hc1 => ?_) (fun hc1 => ?_)
  · rw [if_pos hc1] at h
    refine mm_aload_n d11_forgetOn_100 rfl ?_
    refine mm_getR fl_X11_45 d11_forgetOn_101 (mm_wtR hS 50 h0 rfl rfl) ?_
    refine mm_iload_n d11_forgetOn_104 rfl ?_
    refine mm_iload d11_forgetOn_105 rfl ?_
    obtain ⟨hb2, h⟩ := mm_gd h
    refine mm_iast d11_forgetOn_107 (mm_wtA hS 14 0 h0 rfl rfl) (mm_inb_ok hb2) ?_
    refine mm_sub [] trivial ?_
    exact ok11_forgetOn_108 l hS   h
  · rw [if_neg hc1] at h
    refine mm_aload_n d11_forgetOn_73 rfl ?_
    refine mm_getR fl_X11_45 d11_forgetOn_74 (mm_wtR hS 50 h0 rfl rfl) ?_
    refine mm_iload_n d11_forgetOn_77 rfl ?_
    refine mm_iconst (v := 0) d11_forgetOn_78 (by decide +kernel) ?_
    obtain ⟨hb3, h⟩ := mm_gd h
    refine mm_iast d11_forgetOn_79 (mm_wtA hS 14 0 h0 rfl rfl) (mm_inb_ok hb3) ?_
    refine mm_aload_n d11_forgetOn_80 rfl ?_
    refine mm_getR fl_X11_60 d11_forgetOn_81 (mm_wtR hS 50 h0 rfl rfl) ?_
    refine mm_iload_n d11_forgetOn_84 rfl ?_
    refine mm_iconst (v := (-1)) d11_forgetOn_85 (by decide +kernel) ?_
    obtain ⟨hb4, h⟩ := mm_gd h
    refine mm_iast d11_forgetOn_86 (mm_wtA hS 19 0 h0 rfl rfl) (mm_inb_ok hb4) ?_
    refine mm_aload_n d11_forgetOn_87 rfl ?_
    refine mm_getR fl_X11_48 d11_forgetOn_88 (mm_wtR hS 50 h0 rfl rfl) ?_
    refine mm_iload_n d11_forgetOn_91 rfl ?_
    refine mm_aload_n d11_forgetOn_92 rfl ?_
    refine mm_getI fl_X11_147 d11_forgetOn_93 (mm_wtI hS h0 rfl) ?_
    obtain ⟨hb5, h⟩ := mm_gd h
    refine mm_iast d11_forgetOn_96 (mm_wtA hS 15 0 h0 rfl rfl) (mm_inb_ok hb5) ?_
    refine mm_goto (tgt := 108) d11_forgetOn_97 (by decide) ?_
    refine mm_sub [] trivial ?_
    exact ok11_forgetOn_108 l hS   h
set_option maxHeartbeats 4000000 in
set_option maxRecDepth 100000 in
theorem ok11_forgetOn (l : Launch) {S : mm_Sh} (hS : mm_WT S)  {v0 : Nat} {v1 : Int32} {v2 : Int32} (h0 : mm_is S v0 11) {I : mm_I} {J : mm_J} {o : mm_I × mm_J} (h : f11_forgetOn S v0 v1 v2 I J = some o) : mm_C l M11_forgetOn S [.ref v0, .int v1, .int v2] I J (mm_Qv o.1 o.2) := by
  unfold f11_forgetOn at h
  refine mm_enter rfl (by decide +kernel) rfl ?_
  refine mm_bipush (v := 6) d11_forgetOn_0 (by decide +kernel) ?_
  refine mm_iload_n d11_forgetOn_2 rfl ?_
  refine mm_imul d11_forgetOn_3 ?_
  refine mm_iload_n d11_forgetOn_4 rfl ?_
  refine mm_iadd d11_forgetOn_5 ?_
  refine mm_istore_n d11_forgetOn_6 rfl rfl ?_
  refine mm_aload_n d11_forgetOn_7 rfl ?_
  refine mm_getR fl_X11_45 d11_forgetOn_8 (mm_wtR hS 50 h0 rfl rfl) ?_
  refine mm_iload_n d11_forgetOn_11 rfl ?_
  obtain ⟨hb1, h⟩ := mm_gd h
  refine mm_iald d11_forgetOn_12 (mm_wtA hS 14 0 h0 rfl rfl) (mm_inb_ok hb1) ?_
  refine mm_istore d11_forgetOn_13 rfl rfl ?_
  refine mm_iload d11_forgetOn_15 rfl ?_
  refine mm_aload_n d11_forgetOn_17 rfl ?_
  refine mm_getI fl_X11_29 d11_forgetOn_18 (mm_wtI hS h0 rfl) ?_
  refine mm_isub d11_forgetOn_21 ?_
  refine mm_istore d11_forgetOn_22 rfl rfl ?_
  refine mm_aload_n d11_forgetOn_24 rfl ?_
  refine mm_getR fl_X11_7 d11_forgetOn_25 (mm_wtR hS 50 h0 rfl rfl) ?_
  refine mm_iconst (v := 4) d11_forgetOn_28 (by decide +kernel) ?_
  refine mm_iload_n d11_forgetOn_29 rfl ?_
  refine mm_imul d11_forgetOn_30 ?_
  obtain ⟨hb2, h⟩ := mm_gd h
  refine mm_iald d11_forgetOn_31 (mm_wtA hS 1 0 h0 rfl rfl) (mm_inb_ok hb2) ?_
  refine mm_iconst (v := 2) d11_forgetOn_32 (by decide +kernel) ?_
  refine mm_icmp_ne (tgt := 68) d11_forgetOn_33 (by decide) (fun hc3 => ?_) (fun hc3 => ?_)
  · rw [if_neg hc3] at h
    refine mm_sub [(0, .ref v0), (1, .int v1), (3, .int ((6 * v1) + v2)), (5, .int ((I (mm_rf S v0 14) ((6 * v1) + v2).toNatClampNeg) - (I v0 8)))] ⟨rfl, rfl, rfl, rfl, trivial⟩ ?_
    exact ok11_forgetOn_68 l hS  h0 h
  · rw [if_pos hc3] at h
    refine mm_iload d11_forgetOn_36 rfl ?_
    refine mm_bipush (v := 50) d11_forgetOn_38 (by decide +kernel) ?_
    refine mm_icmp_lt (tgt := 68) d11_forgetOn_40 (by decide) (fun hc4 => ?_) (fun hc4 => ?_)
    · rw [if_pos hc4] at h
      refine mm_sub [(0, .ref v0), (1, .int v1), (3, .int ((6 * v1) + v2)), (5, .int ((I (mm_rf S v0 14) ((6 * v1) + v2).toNatClampNeg) - (I v0 8)))] ⟨rfl, rfl, rfl, rfl, trivial⟩ ?_
      exact ok11_forgetOn_68 l hS  h0 h
    · rw [if_neg hc4] at h
      refine mm_iload d11_forgetOn_43 rfl ?_
      refine mm_bipush (v := 50) d11_forgetOn_45 (by decide +kernel) ?_
      refine mm_icmp_gt (tgt := 68) d11_forgetOn_47 (by decide) (fun hc5 => ?_) (fun hc5 => ?_)
      · rw [if_pos hc5] at h
        refine mm_sub [(0, .ref v0), (1, .int v1), (3, .int ((6 * v1) + v2)), (5, .int ((I (mm_rf S v0 14) ((6 * v1) + v2).toNatClampNeg) - (I v0 8)))] ⟨rfl, rfl, rfl, rfl, trivial⟩ ?_
        exact ok11_forgetOn_68 l hS  h0 h
      · rw [if_neg hc5] at h
        refine mm_aload_n d11_forgetOn_50 rfl ?_
        refine mm_getR fl_X11_45 d11_forgetOn_51 (mm_wtR hS 50 h0 rfl rfl) ?_
        refine mm_iload_n d11_forgetOn_54 rfl ?_
        refine mm_bipush (v := 50) d11_forgetOn_55 (by decide +kernel) ?_
        obtain ⟨hb6, h⟩ := mm_gd h
        refine mm_iast d11_forgetOn_57 (mm_wtA hS 14 0 h0 rfl rfl) (mm_inb_ok hb6) ?_
        refine mm_aload_n d11_forgetOn_58 rfl ?_
        refine mm_getR fl_X11_60 d11_forgetOn_59 (mm_wtR hS 50 h0 rfl rfl) ?_
        refine mm_iload_n d11_forgetOn_62 rfl ?_
        refine mm_iconst (v := (-1)) d11_forgetOn_63 (by decide +kernel) ?_
        obtain ⟨hb7, h⟩ := mm_gd h
        refine mm_iast d11_forgetOn_64 (mm_wtA hS 19 0 h0 rfl rfl) (mm_inb_ok hb7) ?_
        refine mm_goto (tgt := 108) d11_forgetOn_65 (by decide) ?_
        refine mm_sub [] trivial ?_
        exact ok11_forgetOn_108 l hS   h
set_option maxHeartbeats 4000000 in
set_option maxRecDepth 100000 in
theorem ok11_has_14 (l : Launch) {S : mm_Sh} (hS : mm_WT S)  {s0 : Int32}  {I : mm_I} {J : mm_J} {o : Int32} (h : f11_has_14 S s0 I J = some o) : mm_W l M11_has (mm_rm (mm_rk M11_has)) 0 0 S (mm_end S (mm_Qi o I J)) 14 [] [.int s0] I J := by
  unfold f11_has_14 at h
  obtain ⟨hb1, h⟩ := mm_gd h
  have h := Option.some.inj h
  subst h
  exact mm_zret rfl d11_has_14 (mm_bit_ok hb1) ⟨rfl, rfl, rfl⟩
set_option maxHeartbeats 4000000 in
set_option maxRecDepth 100000 in
theorem ok11_has (l : Launch) {S : mm_Sh} (hS : mm_WT S)  {v0 : Int32} {v1 : Int32}  {I : mm_I} {J : mm_J} {o : Int32} (h : f11_has S v0 v1 I J = some o) : mm_C l M11_has S [.int v0, .int v1] I J (mm_Qi o I J) := by
  unfold f11_has at h
  refine mm_enter rfl (by decide +kernel) rfl ?_
  refine mm_iload_n d11_has_0 rfl ?_
  refine mm_iload_n d11_has_1 rfl ?_
  refine mm_ishr d11_has_2 ?_
  refine mm_iconst (v := 1) d11_has_3 (by decide +kernel) ?_
  refine mm_iand d11_has_4 ?_
  refine mm_iconst (v := 1) d11_has_5 (by decide +kernel) ?_
  refine mm_icmp_ne (tgt := 13) d11_has_6 (by decide) (fun hc1 => ?_) (fun hc1 => ?_)
  · rw [if_neg hc1] at h
    refine mm_iconst (v := 0) d11_has_13 (by decide +kernel) ?_
    refine mm_sub [] trivial ?_
    exact ok11_has_14 l hS   h
  · rw [if_pos hc1] at h
    refine mm_iconst (v := 1) d11_has_9 (by decide +kernel) ?_
    refine mm_goto (tgt := 14) d11_has_10 (by decide) ?_
    refine mm_sub [] trivial ?_
    exact ok11_has_14 l hS   h
set_option maxHeartbeats 4000000 in
set_option maxRecDepth 100000 in
theorem ok11_here_62 (l : Launch) {S : mm_Sh} (hS : mm_WT S) {n : Nat}  {s0 : Int32}  {I : mm_I} {J : mm_J} {o : Int32 × mm_I × mm_J} (h : f11_here_62 S n s0 I J = some o) : mm_W l M11_here (mm_rm (mm_rk M11_here)) 0 0 S (mm_end S (mm_Qi o.1 o.2.1 o.2.2)) 62 [] [.int s0] I J := by
  unfold f11_here_62 at h
  have h := Option.some.inj h
  subst h
  exact mm_iret rfl d11_here_62 ⟨rfl, rfl, rfl⟩
set_option maxHeartbeats 4000000 in
set_option maxRecDepth 100000 in
theorem ok11_here_38 (l : Launch) {S : mm_Sh} (hS : mm_WT S) {n : Nat}  {v0 : Nat} (h0 : mm_is S v0 11) {I : mm_I} {J : mm_J} {o : Int32 × mm_I × mm_J} (h : f11_here_38 S n v0 I J = some o) : mm_W l M11_here (mm_rm (mm_rk M11_here)) 0 0 S (mm_end S (mm_Qi o.1 o.2.1 o.2.2)) 38 [(0, .ref v0)] [] I J := by
  unfold f11_here_38 at h
  refine mm_aload_n d11_here_38 rfl ?_
  refine mm_getI fl_X11_163 d11_here_39 (mm_wtI hS h0 rfl) ?_
  refine mm_aload_n d11_here_42 rfl ?_
  refine mm_getI fl_X11_157 d11_here_43 (mm_wtI hS h0 rfl) ?_
  refine mm_icmp_ge (tgt := 61) d11_here_46 (by decide) (fun hc1 => ?_) (fun hc1 => ?_)
  · rw [if_pos hc1] at h
    refine mm_iconst (v := (-1)) d11_here_61 (by decide +kernel) ?_
    refine mm_sub [] trivial ?_
    exact ok11_here_62 l hS   h
  · rw [if_neg hc1] at h
    refine mm_aload_n d11_here_49 rfl ?_
    refine mm_getR fl_X11_75 d11_here_50 (mm_wtR hS 50 h0 rfl rfl) ?_
    refine mm_aload_n d11_here_53 rfl ?_
    refine mm_getI fl_X11_163 d11_here_54 (mm_wtI hS h0 rfl) ?_
    obtain ⟨hb2, h⟩ := mm_gd h
    refine mm_iald d11_here_57 (mm_wtA hS 26 0 h0 rfl rfl) (mm_inb_ok hb2) ?_
    refine mm_goto (tgt := 62) d11_here_58 (by decide) ?_
    refine mm_sub [] trivial ?_
    exact ok11_here_62 l hS   h
set_option maxHeartbeats 4000000 in
set_option maxRecDepth 100000 in
theorem ok11_here_0_b (l : Launch) {S : mm_Sh} (hS : mm_WT S) {n : Nat}  {rec0 : Nat → mm_I → mm_J → Option (Int32 × mm_I × mm_J)} (hrec0 : ∀ {v0 : Nat} (_ : mm_is S v0 11) {I : mm_I} {J : mm_J} {o : Int32 × mm_I × mm_J}, rec0 v0 I J = some o → mm_W l M11_here (mm_rm (mm_rk M11_here)) 0 0 S (mm_end S (mm_Qi o.1 o.2.1 o.2.2)) 0 [(0, .ref v0)] [] I J) {v0 : Nat} (h0 : mm_is S v0 11) {I : mm_I} {J : mm_J} {o : Int32 × mm_I × mm_J} (h : f11_here_0_b S n rec0 v0 I J = some o) : mm_W l M11_here (mm_rm (mm_rk M11_here)) 0 0 S (mm_end S (mm_Qi o.1 o.2.1 o.2.2)) 0 [(0, .ref v0)] [] I J := by
  unfold f11_here_0_b at h
  refine mm_aload_n d11_here_0 rfl ?_
  refine mm_getI fl_X11_163 d11_here_1 (mm_wtI hS h0 rfl) ?_
  refine mm_aload_n d11_here_4 rfl ?_
  refine mm_getI fl_X11_157 d11_here_5 (mm_wtI hS h0 rfl) ?_
  refine mm_icmp_ge (tgt := 38) d11_here_8 (by decide) (fun hc1 => ?_) (fun hc1 => ?_)
  · rw [if_pos hc1] at h
    refine mm_sub [(0, .ref v0)] ⟨rfl, trivial⟩ ?_
    exact ok11_here_38 l hS  h0 h
  · rw [if_neg hc1] at h
    refine mm_aload_n d11_here_11 rfl ?_
    refine mm_getR fl_X11_75 d11_here_12 (mm_wtR hS 50 h0 rfl rfl) ?_
    refine mm_aload_n d11_here_15 rfl ?_
    refine mm_getI fl_X11_163 d11_here_16 (mm_wtI hS h0 rfl) ?_
    obtain ⟨hb2, h⟩ := mm_gd h
    refine mm_iald d11_here_19 (mm_wtA hS 26 0 h0 rfl rfl) (mm_inb_ok hb2) ?_
    refine mm_bipush (v := 32) d11_here_20 (by decide +kernel) ?_
    refine mm_icmp_ne (tgt := 38) d11_here_22 (by decide) (fun hc3 => ?_) (fun hc3 => ?_)
    · rw [if_neg hc3] at h
      refine mm_sub [(0, .ref v0)] ⟨rfl, trivial⟩ ?_
      exact ok11_here_38 l hS  h0 h
    · rw [if_pos hc3] at h
      refine mm_aload_n d11_here_25 rfl ?_
      refine mm_dup d11_here_26 rfl ?_
      refine mm_getI fl_X11_163 d11_here_27 (mm_wtI hS h0 rfl) ?_
      refine mm_iconst (v := 1) d11_here_30 (by decide +kernel) ?_
      refine mm_iadd d11_here_31 ?_
      refine mm_putI fp_X11_163 d11_here_32 (mm_wtI hS h0 rfl) ?_
      refine mm_goto (tgt := 0) d11_here_35 (by decide) ?_
      refine mm_sub [(0, .ref v0)] ⟨rfl, trivial⟩ ?_
      exact hrec0 h0 h
set_option maxHeartbeats 4000000 in
set_option maxRecDepth 100000 in
theorem ok11_here_0 (l : Launch) {S : mm_Sh} (hS : mm_WT S) {n : Nat}  : ∀ (k : Nat) {v0 : Nat} (h0 : mm_is S v0 11) {I : mm_I} {J : mm_J} {o : Int32 × mm_I × mm_J}, f11_here_0 S n k v0 I J = some o → mm_W l M11_here (mm_rm (mm_rk M11_here)) 0 0 S (mm_end S (mm_Qi o.1 o.2.1 o.2.2)) 0 [(0, .ref v0)] [] I J := by
  intro k
  induction k with
  | zero =>
    intros
    rename_i h
    cases h
  | succ k ih =>
    intro v0 h0 I J o h
    exact ok11_here_0_b l hS (fun {v0} h0 {I J o} h => ih h0 h) h0 h
set_option maxHeartbeats 4000000 in
set_option maxRecDepth 100000 in
theorem ok11_here (l : Launch) {S : mm_Sh} (hS : mm_WT S) {n : Nat}  {v0 : Nat} (h0 : mm_is S v0 11) {I : mm_I} {J : mm_J} {o : Int32 × mm_I × mm_J} (h : f11_here S n v0 I J = some o) : mm_C l M11_here S [.ref v0] I J (mm_Qi o.1 o.2.1 o.2.2) := by
  unfold f11_here at h
  refine mm_enter rfl (by decide +kernel) rfl ?_
  refine mm_sub [(0, .ref v0)] ⟨rfl, trivial⟩ ?_
  exact ok11_here_0 l hS  n h0 h
set_option maxHeartbeats 4000000 in
set_option maxRecDepth 100000 in
theorem ok11_in_18 (l : Launch) {S : mm_Sh} (hS : mm_WT S)  {s0 : Int32}  {I : mm_I} {J : mm_J} {o : Int32} (h : f11_in_18 S s0 I J = some o) : mm_W l M11_in (mm_rm (mm_rk M11_in)) 0 0 S (mm_end S (mm_Qi o I J)) 18 [] [.int s0] I J := by
  unfold f11_in_18 at h
  obtain ⟨hb1, h⟩ := mm_gd h
  have h := Option.some.inj h
  subst h
  exact mm_zret rfl d11_in_18 (mm_bit_ok hb1) ⟨rfl, rfl, rfl⟩
set_option maxHeartbeats 4000000 in
set_option maxRecDepth 100000 in
theorem ok11_in_17 (l : Launch) {S : mm_Sh} (hS : mm_WT S)    {I : mm_I} {J : mm_J} {o : Int32} (h : f11_in_17 S  I J = some o) : mm_W l M11_in (mm_rm (mm_rk M11_in)) 0 0 S (mm_end S (mm_Qi o I J)) 17 [] [] I J := by
  unfold f11_in_17 at h
  refine mm_iconst (v := 0) d11_in_17 (by decide +kernel) ?_
  refine mm_sub [] trivial ?_
  exact ok11_in_18 l hS   h
set_option maxHeartbeats 4000000 in
set_option maxRecDepth 100000 in
theorem ok11_in (l : Launch) {S : mm_Sh} (hS : mm_WT S)  {v0 : Int64} {v2 : Int64} {v4 : Int64}  {I : mm_I} {J : mm_J} {o : Int32} (h : f11_in S v0 v2 v4 I J = some o) : mm_C l M11_in S [.long v0, .long v2, .long v4] I J (mm_Qi o I J) := by
  unfold f11_in at h
  refine mm_enter rfl (by decide +kernel) rfl ?_
  refine mm_lload_n d11_in_0 rfl ?_
  refine mm_lload_n d11_in_1 rfl ?_
  refine mm_lcmp d11_in_2 ?_
  refine mm_if_lt (tgt := 17) d11_in_3 (by decide) (fun hc1 => ?_) (fun hc1 => ?_)
  · rw [if_pos hc1] at h
    refine mm_sub [] trivial ?_
    exact ok11_in_17 l hS   h
  · rw [if_neg hc1] at h
    refine mm_lload_n d11_in_6 rfl ?_
    refine mm_lload d11_in_7 rfl ?_
    refine mm_lcmp d11_in_9 ?_
    refine mm_if_gt (tgt := 17) d11_in_10 (by decide) (fun hc2 => ?_) (fun hc2 => ?_)
    · rw [if_pos hc2] at h
      refine mm_sub [] trivial ?_
      exact ok11_in_17 l hS   h
    · rw [if_neg hc2] at h
      refine mm_iconst (v := 1) d11_in_13 (by decide +kernel) ?_
      refine mm_goto (tgt := 18) d11_in_14 (by decide) ?_
      refine mm_sub [] trivial ?_
      exact ok11_in_18 l hS   h
set_option maxHeartbeats 4000000 in
set_option maxRecDepth 100000 in
theorem ok11_judge_2_b (l : Launch) {S : mm_Sh} (hS : mm_WT S) {n : Nat}  {rec2 : Nat → Int32 → mm_I → mm_J → Option (Int32)} (hrec2 : ∀ {v0 : Nat} {v1 : Int32} (_ : mm_is S v0 11) {I : mm_I} {J : mm_J} {o : Int32}, rec2 v0 v1 I J = some o → mm_W l M11_judge (mm_rm (mm_rk M11_judge)) 0 0 S (mm_end S (mm_Qi o I J)) 2 [(0, .ref v0), (1, .int v1)] [] I J) {v0 : Nat} {v1 : Int32} (h0 : mm_is S v0 11) {I : mm_I} {J : mm_J} {o : Int32} (h : f11_judge_2_b S n rec2 v0 v1 I J = some o) : mm_W l M11_judge (mm_rm (mm_rk M11_judge)) 0 0 S (mm_end S (mm_Qi o I J)) 2 [(0, .ref v0), (1, .int v1)] [] I J := by
  unfold f11_judge_2_b at h
  refine mm_iload_n d11_judge_2 rfl ?_
  refine mm_aload_n d11_judge_3 rfl ?_
  refine mm_getI fl_X11_247 d11_judge_4 (mm_wtI hS h0 rfl) ?_
  refine mm_icmp_ge (tgt := 48) d11_judge_7 (by decide) (fun hc1 => ?_) (fun hc1 => ?_)
  · rw [if_pos hc1] at h
    refine mm_iconst (v := (-1)) d11_judge_48 (by decide +kernel) ?_
    have h := Option.some.inj h
    subst h
    exact mm_iret rfl d11_judge_49 ⟨rfl, rfl, rfl⟩
  · rw [if_neg hc1] at h
    refine mm_aload_n d11_judge_10 rfl ?_
    refine mm_getR fl_X11_45 d11_judge_11 (mm_wtR hS 50 h0 rfl rfl) ?_
    refine mm_bipush (v := 6) d11_judge_14 (by decide +kernel) ?_
    refine mm_aload_n d11_judge_16 rfl ?_
    refine mm_getR fl_X11_114 d11_judge_17 (mm_wtR hS 50 h0 rfl rfl) ?_
    refine mm_iload_n d11_judge_20 rfl ?_
    obtain ⟨hb2, h⟩ := mm_gd h
    refine mm_iald d11_judge_21 (mm_wtA hS 52 0 h0 rfl rfl) (mm_inb_ok hb2) ?_
    refine mm_imul d11_judge_22 ?_
    refine mm_aload_n d11_judge_23 rfl ?_
    refine mm_getR fl_X11_117 d11_judge_24 (mm_wtR hS 50 h0 rfl rfl) ?_
    refine mm_iload_n d11_judge_27 rfl ?_
    obtain ⟨hb3, h⟩ := mm_gd h
    refine mm_iald d11_judge_28 (mm_wtA hS 53 0 h0 rfl rfl) (mm_inb_ok hb3) ?_
    refine mm_iadd d11_judge_29 ?_
    obtain ⟨hb4, h⟩ := mm_gd h
    refine mm_iald d11_judge_30 (mm_wtA hS 14 0 h0 rfl rfl) (mm_inb_ok hb4) ?_
    refine mm_aload_n d11_judge_31 rfl ?_
    refine mm_getR fl_X11_120 d11_judge_32 (mm_wtR hS 50 h0 rfl rfl) ?_
    refine mm_iload_n d11_judge_35 rfl ?_
    obtain ⟨hb5, h⟩ := mm_gd h
    refine mm_iald d11_judge_36 (mm_wtA hS 54 0 h0 rfl rfl) (mm_inb_ok hb5) ?_
    refine mm_icmp_eq (tgt := 42) d11_judge_37 (by decide) (fun hc6 => ?_) (fun hc6 => ?_)
    · rw [if_pos hc6] at h
      refine mm_iinc (v := v1 + 1) d11_judge_42 rfl rfl rfl rfl ?_
      refine mm_goto (tgt := 2) d11_judge_45 (by decide) ?_
      refine mm_sub [(0, .ref v0), (1, .int (v1 + 1))] ⟨rfl, rfl, trivial⟩ ?_
      exact hrec2 h0 h
    · rw [if_neg hc6] at h
      refine mm_iload_n d11_judge_40 rfl ?_
      have h := Option.some.inj h
      subst h
      exact mm_iret rfl d11_judge_41 ⟨rfl, rfl, rfl⟩
set_option maxHeartbeats 4000000 in
set_option maxRecDepth 100000 in
theorem ok11_judge_2 (l : Launch) {S : mm_Sh} (hS : mm_WT S) {n : Nat}  : ∀ (k : Nat) {v0 : Nat} {v1 : Int32} (h0 : mm_is S v0 11) {I : mm_I} {J : mm_J} {o : Int32}, f11_judge_2 S n k v0 v1 I J = some o → mm_W l M11_judge (mm_rm (mm_rk M11_judge)) 0 0 S (mm_end S (mm_Qi o I J)) 2 [(0, .ref v0), (1, .int v1)] [] I J := by
  intro k
  induction k with
  | zero =>
    intros
    rename_i h
    cases h
  | succ k ih =>
    intro v0 v1 h0 I J o h
    exact ok11_judge_2_b l hS (fun {v0 v1} h0 {I J o} h => ih h0 h) h0 h
set_option maxHeartbeats 4000000 in
set_option maxRecDepth 100000 in
theorem ok11_judge (l : Launch) {S : mm_Sh} (hS : mm_WT S) {n : Nat}  {v0 : Nat} (h0 : mm_is S v0 11) {I : mm_I} {J : mm_J} {o : Int32} (h : f11_judge S n v0 I J = some o) : mm_C l M11_judge S [.ref v0] I J (mm_Qi o I J) := by
  unfold f11_judge at h
  refine mm_enter rfl (by decide +kernel) rfl ?_
  refine mm_iconst (v := 0) d11_judge_0 (by decide +kernel) ?_
  refine mm_istore_n d11_judge_1 rfl rfl ?_
  refine mm_sub [(0, .ref v0), (1, .int 0)] ⟨rfl, rfl, trivial⟩ ?_
  exact ok11_judge_2 l hS  n h0 h
set_option maxHeartbeats 4000000 in
set_option maxRecDepth 100000 in
theorem ok11_knowers_49 (l : Launch) {S : mm_Sh} (hS : mm_WT S) {n : Nat}  {rec5 : Nat → Int32 → Int32 → Int32 → Int32 → mm_I → mm_J → Option (Int32)} (hrec5 : ∀ {v0 : Nat} {v1 : Int32} {v2 : Int32} {v3 : Int32} {v4 : Int32} (_ : mm_is S v0 11) {I : mm_I} {J : mm_J} {o : Int32}, rec5 v0 v1 v2 v3 v4 I J = some o → mm_W l M11_knowers (mm_rm (mm_rk M11_knowers)) 0 0 S (mm_end S (mm_Qi o I J)) 5 [(0, .ref v0), (1, .int v1), (2, .int v2), (3, .int v3), (4, .int v4)] [] I J) {v0 : Nat} {v1 : Int32} {v2 : Int32} {v4 : Int32} {s0 : Int32} {s1 : Int32} (h0 : mm_is S v0 11) {I : mm_I} {J : mm_J} {o : Int32} (h : f11_knowers_49 S n rec5 v0 v1 v2 v4 s0 s1 I J = some o) : mm_W l M11_knowers (mm_rm (mm_rk M11_knowers)) 0 0 S (mm_end S (mm_Qi o I J)) 49 [(0, .ref v0), (1, .int v1), (2, .int v2), (4, .int v4)] [.int s1, .int s0] I J := by
  unfold f11_knowers_49 at h
  refine mm_ior d11_knowers_49 ?_
  refine mm_istore_n d11_knowers_50 rfl rfl ?_
  refine mm_iinc (v := v4 + 1) d11_knowers_51 rfl rfl rfl rfl ?_
  refine mm_goto (tgt := 5) d11_knowers_54 (by decide) ?_
  refine mm_sub [(0, .ref v0), (1, .int v1), (2, .int v2), (3, .int (s0 ||| s1)), (4, .int (v4 + 1))] ⟨rfl, rfl, rfl, rfl, rfl, trivial⟩ ?_
  exact hrec5 h0 h
set_option maxHeartbeats 4000000 in
set_option maxRecDepth 100000 in
theorem ok11_knowers_48 (l : Launch) {S : mm_Sh} (hS : mm_WT S) {n : Nat}  {rec5 : Nat → Int32 → Int32 → Int32 → Int32 → mm_I → mm_J → Option (Int32)} (hrec5 : ∀ {v0 : Nat} {v1 : Int32} {v2 : Int32} {v3 : Int32} {v4 : Int32} (_ : mm_is S v0 11) {I : mm_I} {J : mm_J} {o : Int32}, rec5 v0 v1 v2 v3 v4 I J = some o → mm_W l M11_knowers (mm_rm (mm_rk M11_knowers)) 0 0 S (mm_end S (mm_Qi o I J)) 5 [(0, .ref v0), (1, .int v1), (2, .int v2), (3, .int v3), (4, .int v4)] [] I J) {v0 : Nat} {v1 : Int32} {v2 : Int32} {v4 : Int32} {s0 : Int32} (h0 : mm_is S v0 11) {I : mm_I} {J : mm_J} {o : Int32} (h : f11_knowers_48 S n rec5 v0 v1 v2 v4 s0 I J = some o) : mm_W l M11_knowers (mm_rm (mm_rk M11_knowers)) 0 0 S (mm_end S (mm_Qi o I J)) 48 [(0, .ref v0), (1, .int v1), (2, .int v2), (4, .int v4)] [.int s0] I J := by
  unfold f11_knowers_48 at h
  refine mm_iconst (v := 0) d11_knowers_48 (by decide +kernel) ?_
  refine mm_sub [(0, .ref v0), (1, .int v1), (2, .int v2), (4, .int v4)] ⟨rfl, rfl, rfl, rfl, trivial⟩ ?_
  exact ok11_knowers_49 l hS hrec5 h0 h
set_option maxHeartbeats 4000000 in
set_option maxRecDepth 100000 in
theorem ok11_knowers_5_b (l : Launch) {S : mm_Sh} (hS : mm_WT S) {n : Nat}  {rec5 : Nat → Int32 → Int32 → Int32 → Int32 → mm_I → mm_J → Option (Int32)} (hrec5 : ∀ {v0 : Nat} {v1 : Int32} {v2 : Int32} {v3 : Int32} {v4 : Int32} (_ : mm_is S v0 11) {I : mm_I} {J : mm_J} {o : Int32}, rec5 v0 v1 v2 v3 v4 I J = some o → mm_W l M11_knowers (mm_rm (mm_rk M11_knowers)) 0 0 S (mm_end S (mm_Qi o I J)) 5 [(0, .ref v0), (1, .int v1), (2, .int v2), (3, .int v3), (4, .int v4)] [] I J) {v0 : Nat} {v1 : Int32} {v2 : Int32} {v3 : Int32} {v4 : Int32} (h0 : mm_is S v0 11) {I : mm_I} {J : mm_J} {o : Int32} (h : f11_knowers_5_b S n rec5 v0 v1 v2 v3 v4 I J = some o) : mm_W l M11_knowers (mm_rm (mm_rk M11_knowers)) 0 0 S (mm_end S (mm_Qi o I J)) 5 [(0, .ref v0), (1, .int v1), (2, .int v2), (3, .int v3), (4, .int v4)] [] I J := by
  unfold f11_knowers_5_b at h
  refine mm_iload d11_knowers_5 rfl ?_
  refine mm_aload_n d11_knowers_7 rfl ?_
  refine mm_getI fl_X11_140 d11_knowers_8 (mm_wtI hS h0 rfl) ?_
  refine mm_icmp_ge (tgt := 57) d11_knowers_11 (by decide) (fun hc1 => ?_) (fun hc1 => ?_)
  · rw [if_pos hc1] at h
    refine mm_iload_n d11_knowers_57 rfl ?_
    have h := Option.some.inj h
    subst h
    exact mm_iret rfl d11_knowers_58 ⟨rfl, rfl, rfl⟩
  · rw [if_neg hc1] at h
    refine mm_iload_n d11_knowers_14 rfl ?_
    refine mm_aload_n d11_knowers_15 rfl ?_
    refine mm_getR fl_X11_41 d11_knowers_16 (mm_wtR hS 51 h0 rfl rfl) ?_
    refine mm_iload d11_knowers_19 rfl ?_
    obtain ⟨hb2, h⟩ := mm_gd h
    refine mm_zald d11_knowers_21 (mm_wtA hS 13 1 h0 rfl rfl) (mm_inb_ok hb2) ?_
    refine mm_if_eq (tgt := 48) d11_knowers_22 (by decide) (fun hc3 => ?_) (fun hc3 => ?_)
    · rw [if_pos hc3] at h
      refine mm_sub [(0, .ref v0), (1, .int v1), (2, .int v2), (4, .int v4)] ⟨rfl, rfl, rfl, rfl, trivial⟩ ?_
      exact ok11_knowers_48 l hS hrec5 h0 h
    · rw [if_neg hc3] at h
      refine mm_aload_n d11_knowers_25 rfl ?_
      refine mm_getR fl_X11_45 d11_knowers_26 (mm_wtR hS 50 h0 rfl rfl) ?_
      refine mm_bipush (v := 6) d11_knowers_29 (by decide +kernel) ?_
      refine mm_iload d11_knowers_31 rfl ?_
      refine mm_imul d11_knowers_33 ?_
      refine mm_iload_n d11_knowers_34 rfl ?_
      refine mm_iadd d11_knowers_35 ?_
      obtain ⟨hb4, h⟩ := mm_gd h
      refine mm_iald d11_knowers_36 (mm_wtA hS 14 0 h0 rfl rfl) (mm_inb_ok hb4) ?_
      refine mm_iload_n d11_knowers_37 rfl ?_
      refine mm_icmp_lt (tgt := 48) d11_knowers_38 (by decide) (fun hc5 => ?_) (fun hc5 => ?_)
      · rw [if_pos hc5] at h
        refine mm_sub [(0, .ref v0), (1, .int v1), (2, .int v2), (4, .int v4)] ⟨rfl, rfl, rfl, rfl, trivial⟩ ?_
        exact ok11_knowers_48 l hS hrec5 h0 h
      · rw [if_neg hc5] at h
        refine mm_iconst (v := 1) d11_knowers_41 (by decide +kernel) ?_
        refine mm_iload d11_knowers_42 rfl ?_
        refine mm_ishl d11_knowers_44 ?_
        refine mm_goto (tgt := 49) d11_knowers_45 (by decide) ?_
        refine mm_sub [(0, .ref v0), (1, .int v1), (2, .int v2), (4, .int v4)] ⟨rfl, rfl, rfl, rfl, trivial⟩ ?_
        exact ok11_knowers_49 l hS hrec5 h0 h
set_option maxHeartbeats 4000000 in
set_option maxRecDepth 100000 in
theorem ok11_knowers_5 (l : Launch) {S : mm_Sh} (hS : mm_WT S) {n : Nat}  : ∀ (k : Nat) {v0 : Nat} {v1 : Int32} {v2 : Int32} {v3 : Int32} {v4 : Int32} (h0 : mm_is S v0 11) {I : mm_I} {J : mm_J} {o : Int32}, f11_knowers_5 S n k v0 v1 v2 v3 v4 I J = some o → mm_W l M11_knowers (mm_rm (mm_rk M11_knowers)) 0 0 S (mm_end S (mm_Qi o I J)) 5 [(0, .ref v0), (1, .int v1), (2, .int v2), (3, .int v3), (4, .int v4)] [] I J := by
  intro k
  induction k with
  | zero =>
    intros
    rename_i h
    cases h
  | succ k ih =>
    intro v0 v1 v2 v3 v4 h0 I J o h
    exact ok11_knowers_5_b l hS (fun {v0 v1 v2 v3 v4} h0 {I J o} h => ih h0 h) h0 h
set_option maxHeartbeats 4000000 in
set_option maxRecDepth 100000 in
theorem ok11_knowers (l : Launch) {S : mm_Sh} (hS : mm_WT S) {n : Nat}  {v0 : Nat} {v1 : Int32} {v2 : Int32} (h0 : mm_is S v0 11) {I : mm_I} {J : mm_J} {o : Int32} (h : f11_knowers S n v0 v1 v2 I J = some o) : mm_C l M11_knowers S [.ref v0, .int v1, .int v2] I J (mm_Qi o I J) := by
  unfold f11_knowers at h
  refine mm_enter rfl (by decide +kernel) rfl ?_
  refine mm_iconst (v := 0) d11_knowers_0 (by decide +kernel) ?_
  refine mm_istore_n d11_knowers_1 rfl rfl ?_
  refine mm_iconst (v := 0) d11_knowers_2 (by decide +kernel) ?_
  refine mm_istore d11_knowers_3 rfl rfl ?_
  refine mm_sub [(0, .ref v0), (1, .int v1), (2, .int v2), (3, .int 0), (4, .int 0)] ⟨rfl, rfl, rfl, rfl, rfl, trivial⟩ ?_
  exact ok11_knowers_5 l hS  n h0 h
set_option maxHeartbeats 4000000 in
set_option maxRecDepth 100000 in
theorem ok11_knows_19 (l : Launch) {S : mm_Sh} (hS : mm_WT S)  {s0 : Int32}  {I : mm_I} {J : mm_J} {o : Int32} (h : f11_knows_19 S s0 I J = some o) : mm_W l M11_knows (mm_rm (mm_rk M11_knows)) 0 0 S (mm_end S (mm_Qi o I J)) 19 [] [.int s0] I J := by
  unfold f11_knows_19 at h
  obtain ⟨hb1, h⟩ := mm_gd h
  have h := Option.some.inj h
  subst h
  exact mm_zret rfl d11_knows_19 (mm_bit_ok hb1) ⟨rfl, rfl, rfl⟩
set_option maxHeartbeats 4000000 in
set_option maxRecDepth 100000 in
theorem ok11_knows (l : Launch) {S : mm_Sh} (hS : mm_WT S)  {v0 : Nat} {v1 : Int32} {v2 : Int32} (h0 : mm_is S v0 11) {I : mm_I} {J : mm_J} {o : Int32} (h : f11_knows S v0 v1 v2 I J = some o) : mm_C l M11_knows S [.ref v0, .int v1, .int v2] I J (mm_Qi o I J) := by
  unfold f11_knows at h
  refine mm_enter rfl (by decide +kernel) rfl ?_
  refine mm_aload_n d11_knows_0 rfl ?_
  refine mm_getR fl_X11_45 d11_knows_1 (mm_wtR hS 50 h0 rfl rfl) ?_
  refine mm_bipush (v := 6) d11_knows_4 (by decide +kernel) ?_
  refine mm_iload_n d11_knows_6 rfl ?_
  refine mm_imul d11_knows_7 ?_
  refine mm_iload_n d11_knows_8 rfl ?_
  refine mm_iadd d11_knows_9 ?_
  obtain ⟨hb1, h⟩ := mm_gd h
  refine mm_iald d11_knows_10 (mm_wtA hS 14 0 h0 rfl rfl) (mm_inb_ok hb1) ?_
  refine mm_if_le (tgt := 18) d11_knows_11 (by decide) (fun hc2 => ?_) (fun hc2 => ?_)
  · rw [if_pos hc2] at h
    refine mm_iconst (v := 0) d11_knows_18 (by decide +kernel) ?_
    refine mm_sub [] trivial ?_
    exact ok11_knows_19 l hS   h
  · rw [if_neg hc2] at h
    refine mm_iconst (v := 1) d11_knows_14 (by decide +kernel) ?_
    refine mm_goto (tgt := 19) d11_knows_15 (by decide) ?_
    refine mm_sub [] trivial ?_
    exact ok11_knows_19 l hS   h
set_option maxHeartbeats 4000000 in
set_option maxRecDepth 100000 in
theorem ok11_learnOn_95 (l : Launch) {S : mm_Sh} (hS : mm_WT S)  {s0 : Nat} {s1 : Int32} {s2 : Int32} (g0 : S[s0]? = some (.inl (0, mm_al S s0))) {I : mm_I} {J : mm_J} {o : mm_I × mm_J} (h : f11_learnOn_95 S s0 s1 s2 I J = some o) : mm_W l M11_learnOn (mm_rm (mm_rk M11_learnOn)) 0 0 S (mm_end S (mm_Qv o.1 o.2)) 95 [] [.int s2, .int s1, .ref s0] I J := by
  unfold f11_learnOn_95 at h
  obtain ⟨hb1, h⟩ := mm_gd h
  refine mm_iast d11_learnOn_95 g0 (mm_inb_ok hb1) ?_
  have h := Option.some.inj h
  subst h
  exact mm_vret rfl d11_learnOn_96 ⟨rfl, rfl, rfl⟩
set_option maxHeartbeats 4000000 in
set_option maxRecDepth 100000 in
theorem ok11_learnOn_73 (l : Launch) {S : mm_Sh} (hS : mm_WT S)  {v0 : Nat} {v1 : Int32} {v2 : Int32} {v3 : Int32} {s0 : Nat} {s1 : Int32} {s2 : Int32} (h0 : mm_is S v0 11) (g0 : S[s0]? = some (.inl (0, mm_al S s0))) {I : mm_I} {J : mm_J} {o : mm_I × mm_J} (h : f11_learnOn_73 S v0 v1 v2 v3 s0 s1 s2 I J = some o) : mm_W l M11_learnOn (mm_rm (mm_rk M11_learnOn)) 0 0 S (mm_end S (mm_Qv o.1 o.2)) 73 [(0, .ref v0), (1, .int v1), (2, .int v2), (3, .int v3)] [.int s2, .int s1, .ref s0] I J := by
  unfold f11_learnOn_73 at h
  obtain ⟨hb1, h⟩ := mm_gd h
  refine mm_iast d11_learnOn_73 g0 (mm_inb_ok hb1) ?_
  refine mm_aload_n d11_learnOn_74 rfl ?_
  refine mm_getR fl_X11_54 d11_learnOn_75 (mm_wtR hS 50 h0 rfl rfl) ?_
  refine mm_iload_n d11_learnOn_78 rfl ?_
  refine mm_aload_n d11_learnOn_79 rfl ?_
  refine mm_getR fl_X11_45 d11_learnOn_80 (mm_wtR hS 50 h0 rfl rfl) ?_
  refine mm_iload_n d11_learnOn_83 rfl ?_
  obtain ⟨hb2, h⟩ := mm_gd h
  refine mm_iald d11_learnOn_84 (mm_wtA hS 14 0 h0 rfl rfl) (mm_inb_ok hb2) ?_
  refine mm_bipush (v := 100) d11_learnOn_85 (by decide +kernel) ?_
  refine mm_icmp_ne (tgt := 94) d11_learnOn_87 (by decide) (fun hc3 => ?_) (fun hc3 => ?_)
  · rw [if_neg hc3] at h
    refine mm_iload_n d11_learnOn_94 rfl ?_
    refine mm_sub [] trivial ?_
    exact ok11_learnOn_95 l hS  (mm_wtA hS 17 0 h0 rfl rfl) h
  · rw [if_pos hc3] at h
    refine mm_iconst (v := (-1)) d11_learnOn_90 (by decide +kernel) ?_
    refine mm_goto (tgt := 95) d11_learnOn_91 (by decide) ?_
    refine mm_sub [] trivial ?_
    exact ok11_learnOn_95 l hS  (mm_wtA hS 17 0 h0 rfl rfl) h
set_option maxHeartbeats 4000000 in
set_option maxRecDepth 100000 in
theorem ok11_learnOn_66 (l : Launch) {S : mm_Sh} (hS : mm_WT S)  {v0 : Nat} {v1 : Int32} {v2 : Int32} {v3 : Int32} {s0 : Nat} {s1 : Int32} (h0 : mm_is S v0 11) (g0 : S[s0]? = some (.inl (0, mm_al S s0))) {I : mm_I} {J : mm_J} {o : mm_I × mm_J} (h : f11_learnOn_66 S v0 v1 v2 v3 s0 s1 I J = some o) : mm_W l M11_learnOn (mm_rm (mm_rk M11_learnOn)) 0 0 S (mm_end S (mm_Qv o.1 o.2)) 66 [(0, .ref v0), (1, .int v1), (2, .int v2), (3, .int v3)] [.int s1, .ref s0] I J := by
  unfold f11_learnOn_66 at h
  refine mm_bipush (v := 100) d11_learnOn_66 (by decide +kernel) ?_
  refine mm_goto (tgt := 73) d11_learnOn_68 (by decide) ?_
  refine mm_sub [(0, .ref v0), (1, .int v1), (2, .int v2), (3, .int v3)] ⟨rfl, rfl, rfl, rfl, trivial⟩ ?_
  exact ok11_learnOn_73 l hS  h0 g0 h
set_option maxHeartbeats 4000000 in
set_option maxRecDepth 100000 in
theorem ok11_learnOn (l : Launch) {S : mm_Sh} (hS : mm_WT S)  {v0 : Nat} {v1 : Int32} {v2 : Int32} (h0 : mm_is S v0 11) {I : mm_I} {J : mm_J} {o : mm_I × mm_J} (h : f11_learnOn S v0 v1 v2 I J = some o) : mm_C l M11_learnOn S [.ref v0, .int v1, .int v2] I J (mm_Qv o.1 o.2) := by
  unfold f11_learnOn at h
  refine mm_enter rfl (by decide +kernel) rfl ?_
  refine mm_bipush (v := 6) d11_learnOn_0 (by decide +kernel) ?_
  refine mm_iload_n d11_learnOn_2 rfl ?_
  refine mm_imul d11_learnOn_3 ?_
  refine mm_iload_n d11_learnOn_4 rfl ?_
  refine mm_iadd d11_learnOn_5 ?_
  refine mm_istore_n d11_learnOn_6 rfl rfl ?_
  refine mm_aload_n d11_learnOn_7 rfl ?_
  refine mm_getR fl_X11_57 d11_learnOn_8 (mm_wtR hS 50 h0 rfl rfl) ?_
  refine mm_iload_n d11_learnOn_11 rfl ?_
  refine mm_dup2 d11_learnOn_12 rfl rfl ?_
  obtain ⟨hb1, h⟩ := mm_gd h
  refine mm_iald d11_learnOn_13 (mm_wtA hS 18 0 h0 rfl rfl) (mm_inb_ok hb1) ?_
  refine mm_iconst (v := 1) d11_learnOn_14 (by decide +kernel) ?_
  refine mm_iadd d11_learnOn_15 ?_
  obtain ⟨hb2, h⟩ := mm_gd h
  refine mm_iast d11_learnOn_16 (mm_wtA hS 18 0 h0 rfl rfl) (mm_inb_ok hb2) ?_
  refine mm_aload_n d11_learnOn_17 rfl ?_
  refine mm_getR fl_X11_7 d11_learnOn_18 (mm_wtR hS 50 h0 rfl rfl) ?_
  refine mm_iconst (v := 4) d11_learnOn_21 (by decide +kernel) ?_
  refine mm_iload_n d11_learnOn_22 rfl ?_
  refine mm_imul d11_learnOn_23 ?_
  refine mm_iconst (v := 1) d11_learnOn_24 (by decide +kernel) ?_
  refine mm_iadd d11_learnOn_25 ?_
  obtain ⟨hb3, h⟩ := mm_gd h
  refine mm_iald d11_learnOn_26 (mm_wtA hS 1 0 h0 rfl rfl) (mm_inb_ok hb3) ?_
  refine mm_istore d11_learnOn_27 rfl rfl ?_
  refine mm_aload_n d11_learnOn_29 rfl ?_
  refine mm_getR fl_X11_45 d11_learnOn_30 (mm_wtR hS 50 h0 rfl rfl) ?_
  refine mm_iload_n d11_learnOn_33 rfl ?_
  obtain ⟨hb4, h⟩ := mm_gd h
  refine mm_iald d11_learnOn_34 (mm_wtA hS 14 0 h0 rfl rfl) (mm_inb_ok hb4) ?_
  refine mm_bipush (v := 100) d11_learnOn_35 (by decide +kernel) ?_
  refine mm_iload d11_learnOn_37 rfl ?_
  obtain ⟨hz8, h⟩ := mm_gz h
  refine mm_idiv d11_learnOn_39 hz8 ?_
  refine mm_iadd d11_learnOn_40 ?_
  refine mm_istore d11_learnOn_41 rfl rfl ?_
  refine mm_aload_n d11_learnOn_43 rfl ?_
  refine mm_getR fl_X11_45 d11_learnOn_44 (mm_wtR hS 50 h0 rfl rfl) ?_
  refine mm_iload_n d11_learnOn_47 rfl ?_
  refine mm_aload_n d11_learnOn_48 rfl ?_
  refine mm_getR fl_X11_57 d11_learnOn_49 (mm_wtR hS 50 h0 rfl rfl) ?_
  refine mm_iload_n d11_learnOn_52 rfl ?_
  obtain ⟨hb5, h⟩ := mm_gd h
  refine mm_iald d11_learnOn_53 (mm_wtA hS 18 0 h0 rfl rfl) (mm_inb_ok hb5) ?_
  refine mm_iload d11_learnOn_54 rfl ?_
  refine mm_icmp_ge (tgt := 66) d11_learnOn_56 (by decide) (fun hc6 => ?_) (fun hc6 => ?_)
  · rw [if_pos hc6] at h
    refine mm_sub [(0, .ref v0), (1, .int v1), (2, .int v2), (3, .int ((6 * v1) + v2))] ⟨rfl, rfl, rfl, rfl, trivial⟩ ?_
    exact ok11_learnOn_66 l hS  h0 (mm_wtA hS 14 0 h0 rfl rfl) h
  · rw [if_neg hc6] at h
    refine mm_iload d11_learnOn_59 rfl ?_
    refine mm_bipush (v := 100) d11_learnOn_61 (by decide +kernel) ?_
    refine mm_icmp_le (tgt := 71) d11_learnOn_63 (by decide) (fun hc7 => ?_) (fun hc7 => ?_)
    · rw [if_pos hc7] at h
      refine mm_iload d11_learnOn_71 rfl ?_
      refine mm_sub [(0, .ref v0), (1, .int v1), (2, .int v2), (3, .int ((6 * v1) + v2))] ⟨rfl, rfl, rfl, rfl, trivial⟩ ?_
      exact ok11_learnOn_73 l hS  h0 (mm_wtA hS 14 0 h0 rfl rfl) h
    · rw [if_neg hc7] at h
      refine mm_sub [(0, .ref v0), (1, .int v1), (2, .int v2), (3, .int ((6 * v1) + v2))] ⟨rfl, rfl, rfl, rfl, trivial⟩ ?_
      exact ok11_learnOn_66 l hS  h0 (mm_wtA hS 14 0 h0 rfl rfl) h
set_option maxHeartbeats 4000000 in
set_option maxRecDepth 100000 in
theorem ok11_livesSet_29 (l : Launch) {S : mm_Sh} (hS : mm_WT S) {n : Nat}  {rec4 : Nat → Int32 → Int32 → mm_I → mm_J → Option (Int32)} (hrec4 : ∀ {v0 : Nat} {v1 : Int32} {v2 : Int32} (_ : mm_is S v0 11) {I : mm_I} {J : mm_J} {o : Int32}, rec4 v0 v1 v2 I J = some o → mm_W l M11_livesSet (mm_rm (mm_rk M11_livesSet)) 0 0 S (mm_end S (mm_Qi o I J)) 4 [(0, .ref v0), (1, .int v1), (2, .int v2)] [] I J) {v0 : Nat} {v2 : Int32} {s0 : Int32} {s1 : Int32} (h0 : mm_is S v0 11) {I : mm_I} {J : mm_J} {o : Int32} (h : f11_livesSet_29 S n rec4 v0 v2 s0 s1 I J = some o) : mm_W l M11_livesSet (mm_rm (mm_rk M11_livesSet)) 0 0 S (mm_end S (mm_Qi o I J)) 29 [(0, .ref v0), (2, .int v2)] [.int s1, .int s0] I J := by
  unfold f11_livesSet_29 at h
  refine mm_ior d11_livesSet_29 ?_
  refine mm_istore_n d11_livesSet_30 rfl rfl ?_
  refine mm_iinc (v := v2 + 1) d11_livesSet_31 rfl rfl rfl rfl ?_
  refine mm_goto (tgt := 4) d11_livesSet_34 (by decide) ?_
  refine mm_sub [(0, .ref v0), (1, .int (s0 ||| s1)), (2, .int (v2 + 1))] ⟨rfl, rfl, rfl, trivial⟩ ?_
  exact hrec4 h0 h
set_option maxHeartbeats 4000000 in
set_option maxRecDepth 100000 in
theorem ok11_livesSet_4_b (l : Launch) {S : mm_Sh} (hS : mm_WT S) {n : Nat}  {rec4 : Nat → Int32 → Int32 → mm_I → mm_J → Option (Int32)} (hrec4 : ∀ {v0 : Nat} {v1 : Int32} {v2 : Int32} (_ : mm_is S v0 11) {I : mm_I} {J : mm_J} {o : Int32}, rec4 v0 v1 v2 I J = some o → mm_W l M11_livesSet (mm_rm (mm_rk M11_livesSet)) 0 0 S (mm_end S (mm_Qi o I J)) 4 [(0, .ref v0), (1, .int v1), (2, .int v2)] [] I J) {v0 : Nat} {v1 : Int32} {v2 : Int32} (h0 : mm_is S v0 11) {I : mm_I} {J : mm_J} {o : Int32} (h : f11_livesSet_4_b S n rec4 v0 v1 v2 I J = some o) : mm_W l M11_livesSet (mm_rm (mm_rk M11_livesSet)) 0 0 S (mm_end S (mm_Qi o I J)) 4 [(0, .ref v0), (1, .int v1), (2, .int v2)] [] I J := by
  unfold f11_livesSet_4_b at h
  refine mm_iload_n d11_livesSet_4 rfl ?_
  refine mm_aload_n d11_livesSet_5 rfl ?_
  refine mm_getI fl_X11_140 d11_livesSet_6 (mm_wtI hS h0 rfl) ?_
  refine mm_icmp_ge (tgt := 37) d11_livesSet_9 (by decide) (fun hc1 => ?_) (fun hc1 => ?_)
  · rw [if_pos hc1] at h
    refine mm_iload_n d11_livesSet_37 rfl ?_
    have h := Option.some.inj h
    subst h
    exact mm_iret rfl d11_livesSet_38 ⟨rfl, rfl, rfl⟩
  · rw [if_neg hc1] at h
    refine mm_iload_n d11_livesSet_12 rfl ?_
    refine mm_aload_n d11_livesSet_13 rfl ?_
    refine mm_getR fl_X11_41 d11_livesSet_14 (mm_wtR hS 51 h0 rfl rfl) ?_
    refine mm_iload_n d11_livesSet_17 rfl ?_
    obtain ⟨hb2, h⟩ := mm_gd h
    refine mm_zald d11_livesSet_18 (mm_wtA hS 13 1 h0 rfl rfl) (mm_inb_ok hb2) ?_
    refine mm_if_eq (tgt := 28) d11_livesSet_19 (by decide) (fun hc3 => ?_) (fun hc3 => ?_)
    · rw [if_pos hc3] at h
      refine mm_iconst (v := 0) d11_livesSet_28 (by decide +kernel) ?_
      refine mm_sub [(0, .ref v0), (2, .int v2)] ⟨rfl, rfl, trivial⟩ ?_
      exact ok11_livesSet_29 l hS hrec4 h0 h
    · rw [if_neg hc3] at h
      refine mm_iconst (v := 1) d11_livesSet_22 (by decide +kernel) ?_
      refine mm_iload_n d11_livesSet_23 rfl ?_
      refine mm_ishl d11_livesSet_24 ?_
      refine mm_goto (tgt := 29) d11_livesSet_25 (by decide) ?_
      refine mm_sub [(0, .ref v0), (2, .int v2)] ⟨rfl, rfl, trivial⟩ ?_
      exact ok11_livesSet_29 l hS hrec4 h0 h
set_option maxHeartbeats 4000000 in
set_option maxRecDepth 100000 in
theorem ok11_livesSet_4 (l : Launch) {S : mm_Sh} (hS : mm_WT S) {n : Nat}  : ∀ (k : Nat) {v0 : Nat} {v1 : Int32} {v2 : Int32} (h0 : mm_is S v0 11) {I : mm_I} {J : mm_J} {o : Int32}, f11_livesSet_4 S n k v0 v1 v2 I J = some o → mm_W l M11_livesSet (mm_rm (mm_rk M11_livesSet)) 0 0 S (mm_end S (mm_Qi o I J)) 4 [(0, .ref v0), (1, .int v1), (2, .int v2)] [] I J := by
  intro k
  induction k with
  | zero =>
    intros
    rename_i h
    cases h
  | succ k ih =>
    intro v0 v1 v2 h0 I J o h
    exact ok11_livesSet_4_b l hS (fun {v0 v1 v2} h0 {I J o} h => ih h0 h) h0 h
set_option maxHeartbeats 4000000 in
set_option maxRecDepth 100000 in
theorem ok11_livesSet (l : Launch) {S : mm_Sh} (hS : mm_WT S) {n : Nat}  {v0 : Nat} (h0 : mm_is S v0 11) {I : mm_I} {J : mm_J} {o : Int32} (h : f11_livesSet S n v0 I J = some o) : mm_C l M11_livesSet S [.ref v0] I J (mm_Qi o I J) := by
  unfold f11_livesSet at h
  refine mm_enter rfl (by decide +kernel) rfl ?_
  refine mm_iconst (v := 0) d11_livesSet_0 (by decide +kernel) ?_
  refine mm_istore_n d11_livesSet_1 rfl rfl ?_
  refine mm_iconst (v := 0) d11_livesSet_2 (by decide +kernel) ?_
  refine mm_istore_n d11_livesSet_3 rfl rfl ?_
  refine mm_sub [(0, .ref v0), (1, .int 0), (2, .int 0)] ⟨rfl, rfl, rfl, trivial⟩ ?_
  exact ok11_livesSet_4 l hS  n h0 h
set_option maxHeartbeats 4000000 in
set_option maxRecDepth 100000 in
theorem ok11_load_243 (l : Launch) {S : mm_Sh} (hS : mm_WT S) {n : Nat}  {rec53 : Nat → Int32 → Int32 → mm_I → mm_J → Option (mm_I × mm_J)} (hrec53 : ∀ {v0 : Nat} {v2 : Int32} {v3 : Int32} (_ : mm_is S v0 11) {I : mm_I} {J : mm_J} {o : mm_I × mm_J}, rec53 v0 v2 v3 I J = some o → mm_W l M11_load (mm_rm (mm_rk M11_load)) 0 0 S (mm_end S (mm_Qv o.1 o.2)) 53 [(0, .ref v0), (2, .int v2), (3, .int v3)] [] I J) {v0 : Nat} {v2 : Int32} {v3 : Int32} {s0 : Nat} {s1 : Int32} {s2 : Int32} (h0 : mm_is S v0 11) (g0 : S[s0]? = some (.inl (1, mm_al S s0))) {I : mm_I} {J : mm_J} {o : mm_I × mm_J} (h : f11_load_243 S n rec53 v0 v2 v3 s0 s1 s2 I J = some o) : mm_W l M11_load (mm_rm (mm_rk M11_load)) 0 0 S (mm_end S (mm_Qv o.1 o.2)) 243 [(0, .ref v0), (2, .int v2), (3, .int v3)] [.int s2, .int s1, .ref s0] I J := by
  unfold f11_load_243 at h
  obtain ⟨hb1, h⟩ := mm_gd h
  obtain ⟨hy1, h⟩ := mm_gd h
  refine mm_zast d11_load_243 g0 (mm_inb_ok hb1) (mm_bit_ok hy1) ?_
  refine mm_iinc (v := v3 + 1) d11_load_244 rfl rfl rfl rfl ?_
  refine mm_goto (tgt := 53) d11_load_247 (by decide) ?_
  refine mm_sub [(0, .ref v0), (2, .int v2), (3, .int (v3 + 1))] ⟨rfl, rfl, rfl, trivial⟩ ?_
  exact hrec53 h0 h
set_option maxHeartbeats 4000000 in
set_option maxRecDepth 100000 in
theorem ok11_load_216 (l : Launch) {S : mm_Sh} (hS : mm_WT S) {n : Nat}  {rec53 : Nat → Int32 → Int32 → mm_I → mm_J → Option (mm_I × mm_J)} (hrec53 : ∀ {v0 : Nat} {v2 : Int32} {v3 : Int32} (_ : mm_is S v0 11) {I : mm_I} {J : mm_J} {o : mm_I × mm_J}, rec53 v0 v2 v3 I J = some o → mm_W l M11_load (mm_rm (mm_rk M11_load)) 0 0 S (mm_end S (mm_Qv o.1 o.2)) 53 [(0, .ref v0), (2, .int v2), (3, .int v3)] [] I J) {v0 : Nat} {v2 : Int32} {v3 : Int32} {s0 : Nat} {s1 : Int32} {s2 : Int32} (h0 : mm_is S v0 11) (g0 : S[s0]? = some (.inl (1, mm_al S s0))) {I : mm_I} {J : mm_J} {o : mm_I × mm_J} (h : f11_load_216 S n rec53 v0 v2 v3 s0 s1 s2 I J = some o) : mm_W l M11_load (mm_rm (mm_rk M11_load)) 0 0 S (mm_end S (mm_Qv o.1 o.2)) 216 [(0, .ref v0), (2, .int v2), (3, .int v3)] [.int s2, .int s1, .ref s0] I J := by
  unfold f11_load_216 at h
  obtain ⟨hb1, h⟩ := mm_gd h
  obtain ⟨hy1, h⟩ := mm_gd h
  refine mm_zast d11_load_216 g0 (mm_inb_ok hb1) (mm_bit_ok hy1) ?_
  refine mm_aload_n d11_load_217 rfl ?_
  refine mm_getR fl_X11_69 d11_load_218 (mm_wtR hS 51 h0 rfl rfl) ?_
  refine mm_iload_n d11_load_221 rfl ?_
  refine mm_aload_n d11_load_222 rfl ?_
  refine mm_getR fl_X11_123 d11_load_223 (mm_wtR hS 50 h0 rfl rfl) ?_
  refine mm_iload_n d11_load_226 rfl ?_
  refine mm_sipush (v := 160) d11_load_227 (by decide +kernel) ?_
  refine mm_iadd d11_load_230 ?_
  refine mm_iload_n d11_load_231 rfl ?_
  refine mm_iadd d11_load_232 ?_
  obtain ⟨hb2, h⟩ := mm_gd h
  refine mm_iald d11_load_233 (mm_wtA hS 55 0 h0 rfl rfl) (mm_inb_ok hb2) ?_
  refine mm_iconst (v := 1) d11_load_234 (by decide +kernel) ?_
  refine mm_icmp_ne (tgt := 242) d11_load_235 (by decide) (fun hc3 => ?_) (fun hc3 => ?_)
  · rw [if_neg hc3] at h
    refine mm_iconst (v := 0) d11_load_242 (by decide +kernel) ?_
    refine mm_sub [(0, .ref v0), (2, .int v2), (3, .int v3)] ⟨rfl, rfl, rfl, trivial⟩ ?_
    exact ok11_load_243 l hS hrec53 h0 (mm_wtA hS 22 1 h0 rfl rfl) h
  · rw [if_pos hc3] at h
    refine mm_iconst (v := 1) d11_load_238 (by decide +kernel) ?_
    refine mm_goto (tgt := 243) d11_load_239 (by decide) ?_
    refine mm_sub [(0, .ref v0), (2, .int v2), (3, .int v3)] ⟨rfl, rfl, rfl, trivial⟩ ?_
    exact ok11_load_243 l hS hrec53 h0 (mm_wtA hS 22 1 h0 rfl rfl) h
set_option maxHeartbeats 4000000 in
set_option maxRecDepth 100000 in
theorem ok11_load_101 (l : Launch) {S : mm_Sh} (hS : mm_WT S) {n : Nat}  {rec53 : Nat → Int32 → Int32 → mm_I → mm_J → Option (mm_I × mm_J)} (hrec53 : ∀ {v0 : Nat} {v2 : Int32} {v3 : Int32} (_ : mm_is S v0 11) {I : mm_I} {J : mm_J} {o : mm_I × mm_J}, rec53 v0 v2 v3 I J = some o → mm_W l M11_load (mm_rm (mm_rk M11_load)) 0 0 S (mm_end S (mm_Qv o.1 o.2)) 53 [(0, .ref v0), (2, .int v2), (3, .int v3)] [] I J) {v0 : Nat} {v2 : Int32} {v3 : Int32} {s0 : Nat} {s1 : Int32} {s2 : Int32} (h0 : mm_is S v0 11) (g0 : S[s0]? = some (.inl (1, mm_al S s0))) {I : mm_I} {J : mm_J} {o : mm_I × mm_J} (h : f11_load_101 S n rec53 v0 v2 v3 s0 s1 s2 I J = some o) : mm_W l M11_load (mm_rm (mm_rk M11_load)) 0 0 S (mm_end S (mm_Qv o.1 o.2)) 101 [(0, .ref v0), (2, .int v2), (3, .int v3)] [.int s2, .int s1, .ref s0] I J := by
  unfold f11_load_101 at h
  obtain ⟨hb1, h⟩ := mm_gd h
  obtain ⟨hy1, h⟩ := mm_gd h
  refine mm_zast d11_load_101 g0 (mm_inb_ok hb1) (mm_bit_ok hy1) ?_
  refine mm_aload_n d11_load_102 rfl ?_
  refine mm_getR fl_X11_51 d11_load_103 (mm_wtR hS 50 h0 rfl rfl) ?_
  refine mm_iload_n d11_load_106 rfl ?_
  refine mm_aload_n d11_load_107 rfl ?_
  refine mm_getR fl_X11_123 d11_load_108 (mm_wtR hS 50 h0 rfl rfl) ?_
  refine mm_iload_n d11_load_111 rfl ?_
  refine mm_bipush (v := 112) d11_load_112 (by decide +kernel) ?_
  refine mm_iadd d11_load_114 ?_
  refine mm_iload_n d11_load_115 rfl ?_
  refine mm_iadd d11_load_116 ?_
  obtain ⟨hb2, h⟩ := mm_gd h
  refine mm_iald d11_load_117 (mm_wtA hS 55 0 h0 rfl rfl) (mm_inb_ok hb2) ?_
  obtain ⟨hb3, h⟩ := mm_gd h
  refine mm_iast d11_load_118 (mm_wtA hS 16 0 h0 rfl rfl) (mm_inb_ok hb3) ?_
  refine mm_aload_n d11_load_119 rfl ?_
  refine mm_getR fl_X11_54 d11_load_120 (mm_wtR hS 50 h0 rfl rfl) ?_
  refine mm_iload_n d11_load_123 rfl ?_
  refine mm_aload_n d11_load_124 rfl ?_
  refine mm_getR fl_X11_123 d11_load_125 (mm_wtR hS 50 h0 rfl rfl) ?_
  refine mm_iload_n d11_load_128 rfl ?_
  refine mm_bipush (v := 120) d11_load_129 (by decide +kernel) ?_
  refine mm_iadd d11_load_131 ?_
  refine mm_iload_n d11_load_132 rfl ?_
  refine mm_iadd d11_load_133 ?_
  obtain ⟨hb4, h⟩ := mm_gd h
  refine mm_iald d11_load_134 (mm_wtA hS 55 0 h0 rfl rfl) (mm_inb_ok hb4) ?_
  obtain ⟨hb5, h⟩ := mm_gd h
  refine mm_iast d11_load_135 (mm_wtA hS 17 0 h0 rfl rfl) (mm_inb_ok hb5) ?_
  refine mm_aload_n d11_load_136 rfl ?_
  refine mm_getR fl_X11_57 d11_load_137 (mm_wtR hS 50 h0 rfl rfl) ?_
  refine mm_iload_n d11_load_140 rfl ?_
  refine mm_aload_n d11_load_141 rfl ?_
  refine mm_getR fl_X11_123 d11_load_142 (mm_wtR hS 50 h0 rfl rfl) ?_
  refine mm_iload_n d11_load_145 rfl ?_
  refine mm_sipush (v := 128) d11_load_146 (by decide +kernel) ?_
  refine mm_iadd d11_load_149 ?_
  refine mm_iload_n d11_load_150 rfl ?_
  refine mm_iadd d11_load_151 ?_
  obtain ⟨hb6, h⟩ := mm_gd h
  refine mm_iald d11_load_152 (mm_wtA hS 55 0 h0 rfl rfl) (mm_inb_ok hb6) ?_
  obtain ⟨hb7, h⟩ := mm_gd h
  refine mm_iast d11_load_153 (mm_wtA hS 18 0 h0 rfl rfl) (mm_inb_ok hb7) ?_
  refine mm_aload_n d11_load_154 rfl ?_
  refine mm_getR fl_X11_60 d11_load_155 (mm_wtR hS 50 h0 rfl rfl) ?_
  refine mm_iload_n d11_load_158 rfl ?_
  refine mm_aload_n d11_load_159 rfl ?_
  refine mm_getR fl_X11_123 d11_load_160 (mm_wtR hS 50 h0 rfl rfl) ?_
  refine mm_iload_n d11_load_163 rfl ?_
  refine mm_sipush (v := 136) d11_load_164 (by decide +kernel) ?_
  refine mm_iadd d11_load_167 ?_
  refine mm_iload_n d11_load_168 rfl ?_
  refine mm_iadd d11_load_169 ?_
  obtain ⟨hb8, h⟩ := mm_gd h
  refine mm_iald d11_load_170 (mm_wtA hS 55 0 h0 rfl rfl) (mm_inb_ok hb8) ?_
  obtain ⟨hb9, h⟩ := mm_gd h
  refine mm_iast d11_load_171 (mm_wtA hS 19 0 h0 rfl rfl) (mm_inb_ok hb9) ?_
  refine mm_aload_n d11_load_172 rfl ?_
  refine mm_getR fl_X11_63 d11_load_173 (mm_wtR hS 50 h0 rfl rfl) ?_
  refine mm_iload_n d11_load_176 rfl ?_
  refine mm_aload_n d11_load_177 rfl ?_
  refine mm_getR fl_X11_123 d11_load_178 (mm_wtR hS 50 h0 rfl rfl) ?_
  refine mm_iload_n d11_load_181 rfl ?_
  refine mm_sipush (v := 144) d11_load_182 (by decide +kernel) ?_
  refine mm_iadd d11_load_185 ?_
  refine mm_iload_n d11_load_186 rfl ?_
  refine mm_iadd d11_load_187 ?_
  obtain ⟨hb10, h⟩ := mm_gd h
  refine mm_iald d11_load_188 (mm_wtA hS 55 0 h0 rfl rfl) (mm_inb_ok hb10) ?_
  obtain ⟨hb11, h⟩ := mm_gd h
  refine mm_iast d11_load_189 (mm_wtA hS 20 0 h0 rfl rfl) (mm_inb_ok hb11) ?_
  refine mm_aload_n d11_load_190 rfl ?_
  refine mm_getR fl_X11_66 d11_load_191 (mm_wtR hS 51 h0 rfl rfl) ?_
  refine mm_iload_n d11_load_194 rfl ?_
  refine mm_aload_n d11_load_195 rfl ?_
  refine mm_getR fl_X11_123 d11_load_196 (mm_wtR hS 50 h0 rfl rfl) ?_
  refine mm_iload_n d11_load_199 rfl ?_
  refine mm_sipush (v := 152) d11_load_200 (by decide +kernel) ?_
  refine mm_iadd d11_load_203 ?_
  refine mm_iload_n d11_load_204 rfl ?_
  refine mm_iadd d11_load_205 ?_
  obtain ⟨hb12, h⟩ := mm_gd h
  refine mm_iald d11_load_206 (mm_wtA hS 55 0 h0 rfl rfl) (mm_inb_ok hb12) ?_
  refine mm_iconst (v := 1) d11_load_207 (by decide +kernel) ?_
  refine mm_icmp_ne (tgt := 215) d11_load_208 (by decide) (fun hc13 => ?_) (fun hc13 => ?_)
  · rw [if_neg hc13] at h
    refine mm_iconst (v := 0) d11_load_215 (by decide +kernel) ?_
    refine mm_sub [(0, .ref v0), (2, .int v2), (3, .int v3)] ⟨rfl, rfl, rfl, trivial⟩ ?_
    exact ok11_load_216 l hS hrec53 h0 (mm_wtA hS 21 1 h0 rfl rfl) h
  · rw [if_pos hc13] at h
    refine mm_iconst (v := 1) d11_load_211 (by decide +kernel) ?_
    refine mm_goto (tgt := 216) d11_load_212 (by decide) ?_
    refine mm_sub [(0, .ref v0), (2, .int v2), (3, .int v3)] ⟨rfl, rfl, rfl, trivial⟩ ?_
    exact ok11_load_216 l hS hrec53 h0 (mm_wtA hS 21 1 h0 rfl rfl) h
set_option maxHeartbeats 4000000 in
set_option maxRecDepth 100000 in
theorem ok11_load_53_b (l : Launch) {S : mm_Sh} (hS : mm_WT S) {n : Nat}  {rec53 : Nat → Int32 → Int32 → mm_I → mm_J → Option (mm_I × mm_J)} (hrec53 : ∀ {v0 : Nat} {v2 : Int32} {v3 : Int32} (_ : mm_is S v0 11) {I : mm_I} {J : mm_J} {o : mm_I × mm_J}, rec53 v0 v2 v3 I J = some o → mm_W l M11_load (mm_rm (mm_rk M11_load)) 0 0 S (mm_end S (mm_Qv o.1 o.2)) 53 [(0, .ref v0), (2, .int v2), (3, .int v3)] [] I J) {v0 : Nat} {v2 : Int32} {v3 : Int32} (h0 : mm_is S v0 11) {I : mm_I} {J : mm_J} {o : mm_I × mm_J} (h : f11_load_53_b S n rec53 v0 v2 v3 I J = some o) : mm_W l M11_load (mm_rm (mm_rk M11_load)) 0 0 S (mm_end S (mm_Qv o.1 o.2)) 53 [(0, .ref v0), (2, .int v2), (3, .int v3)] [] I J := by
  unfold f11_load_53_b at h
  refine mm_iload_n d11_load_53 rfl ?_
  refine mm_bipush (v := 8) d11_load_54 (by decide +kernel) ?_
  refine mm_icmp_ge (tgt := 250) d11_load_56 (by decide) (fun hc1 => ?_) (fun hc1 => ?_)
  · rw [if_pos hc1] at h
    refine mm_aload_n d11_load_250 rfl ?_
    refine mm_aload_n d11_load_251 rfl ?_
    refine mm_getR fl_X11_123 d11_load_252 (mm_wtR hS 50 h0 rfl rfl) ?_
    refine mm_iload_n d11_load_255 rfl ?_
    refine mm_sipush (v := 168) d11_load_256 (by decide +kernel) ?_
    refine mm_iadd d11_load_259 ?_
    obtain ⟨hb2, h⟩ := mm_gd h
    refine mm_iald d11_load_260 (mm_wtA hS 55 0 h0 rfl rfl) (mm_inb_ok hb2) ?_
    refine mm_putI fp_X11_147 d11_load_261 (mm_wtI hS h0 rfl) ?_
    refine mm_aload_n d11_load_264 rfl ?_
    refine mm_aload_n d11_load_265 rfl ?_
    refine mm_getR fl_X11_123 d11_load_266 (mm_wtR hS 50 h0 rfl rfl) ?_
    refine mm_iload_n d11_load_269 rfl ?_
    refine mm_sipush (v := 169) d11_load_270 (by decide +kernel) ?_
    refine mm_iadd d11_load_273 ?_
    obtain ⟨hb3, h⟩ := mm_gd h
    refine mm_iald d11_load_274 (mm_wtA hS 55 0 h0 rfl rfl) (mm_inb_ok hb3) ?_
    refine mm_putI fp_X11_301 d11_load_275 (mm_wtI hS h0 rfl) ?_
    have h := Option.some.inj h
    subst h
    exact mm_vret rfl d11_load_278 ⟨rfl, rfl, rfl⟩
  · rw [if_neg hc1] at h
    refine mm_aload_n d11_load_59 rfl ?_
    refine mm_getR fl_X11_38 d11_load_60 (mm_wtR hS 50 h0 rfl rfl) ?_
    refine mm_iload_n d11_load_63 rfl ?_
    refine mm_aload_n d11_load_64 rfl ?_
    refine mm_getR fl_X11_123 d11_load_65 (mm_wtR hS 50 h0 rfl rfl) ?_
    refine mm_iload_n d11_load_68 rfl ?_
    refine mm_bipush (v := 96) d11_load_69 (by decide +kernel) ?_
    refine mm_iadd d11_load_71 ?_
    refine mm_iload_n d11_load_72 rfl ?_
    refine mm_iadd d11_load_73 ?_
    obtain ⟨hb4, h⟩ := mm_gd h
    refine mm_iald d11_load_74 (mm_wtA hS 55 0 h0 rfl rfl) (mm_inb_ok hb4) ?_
    obtain ⟨hb5, h⟩ := mm_gd h
    refine mm_iast d11_load_75 (mm_wtA hS 12 0 h0 rfl rfl) (mm_inb_ok hb5) ?_
    refine mm_aload_n d11_load_76 rfl ?_
    refine mm_getR fl_X11_41 d11_load_77 (mm_wtR hS 51 h0 rfl rfl) ?_
    refine mm_iload_n d11_load_80 rfl ?_
    refine mm_aload_n d11_load_81 rfl ?_
    refine mm_getR fl_X11_123 d11_load_82 (mm_wtR hS 50 h0 rfl rfl) ?_
    refine mm_iload_n d11_load_85 rfl ?_
    refine mm_bipush (v := 104) d11_load_86 (by decide +kernel) ?_
    refine mm_iadd d11_load_88 ?_
    refine mm_iload_n d11_load_89 rfl ?_
    refine mm_iadd d11_load_90 ?_
    obtain ⟨hb6, h⟩ := mm_gd h
    refine mm_iald d11_load_91 (mm_wtA hS 55 0 h0 rfl rfl) (mm_inb_ok hb6) ?_
    refine mm_iconst (v := 1) d11_load_92 (by decide +kernel) ?_
    refine mm_icmp_ne (tgt := 100) d11_load_93 (by decide) (fun hc7 => ?_) (fun hc7 => ?_)
    · rw [if_neg hc7] at h
      refine mm_iconst (v := 0) d11_load_100 (by decide +kernel) ?_
      refine mm_sub [(0, .ref v0), (2, .int v2), (3, .int v3)] ⟨rfl, rfl, rfl, trivial⟩ ?_
      exact ok11_load_101 l hS hrec53 h0 (mm_wtA hS 13 1 h0 rfl rfl) h
    · rw [if_pos hc7] at h
      refine mm_iconst (v := 1) d11_load_96 (by decide +kernel) ?_
      refine mm_goto (tgt := 101) d11_load_97 (by decide) ?_
      refine mm_sub [(0, .ref v0), (2, .int v2), (3, .int v3)] ⟨rfl, rfl, rfl, trivial⟩ ?_
      exact ok11_load_101 l hS hrec53 h0 (mm_wtA hS 13 1 h0 rfl rfl) h
set_option maxHeartbeats 4000000 in
set_option maxRecDepth 100000 in
theorem ok11_load_53 (l : Launch) {S : mm_Sh} (hS : mm_WT S) {n : Nat}  : ∀ (k : Nat) {v0 : Nat} {v2 : Int32} {v3 : Int32} (h0 : mm_is S v0 11) {I : mm_I} {J : mm_J} {o : mm_I × mm_J}, f11_load_53 S n k v0 v2 v3 I J = some o → mm_W l M11_load (mm_rm (mm_rk M11_load)) 0 0 S (mm_end S (mm_Qv o.1 o.2)) 53 [(0, .ref v0), (2, .int v2), (3, .int v3)] [] I J := by
  intro k
  induction k with
  | zero =>
    intros
    rename_i h
    cases h
  | succ k ih =>
    intro v0 v2 v3 h0 I J o h
    exact ok11_load_53_b l hS (fun {v0 v2 v3} h0 {I J o} h => ih h0 h) h0 h
set_option maxHeartbeats 4000000 in
set_option maxRecDepth 100000 in
theorem ok11_load_8_b (l : Launch) {S : mm_Sh} (hS : mm_WT S) {n : Nat}  {rec8 : Nat → Int32 → Int32 → mm_I → mm_J → Option (mm_I × mm_J)} (hrec8 : ∀ {v0 : Nat} {v2 : Int32} {v3 : Int32} (_ : mm_is S v0 11) {I : mm_I} {J : mm_J} {o : mm_I × mm_J}, rec8 v0 v2 v3 I J = some o → mm_W l M11_load (mm_rm (mm_rk M11_load)) 0 0 S (mm_end S (mm_Qv o.1 o.2)) 8 [(0, .ref v0), (2, .int v2), (3, .int v3)] [] I J) {v0 : Nat} {v2 : Int32} {v3 : Int32} (h0 : mm_is S v0 11) {I : mm_I} {J : mm_J} {o : mm_I × mm_J} (h : f11_load_8_b S n rec8 v0 v2 v3 I J = some o) : mm_W l M11_load (mm_rm (mm_rk M11_load)) 0 0 S (mm_end S (mm_Qv o.1 o.2)) 8 [(0, .ref v0), (2, .int v2), (3, .int v3)] [] I J := by
  unfold f11_load_8_b at h
  refine mm_iload_n d11_load_8 rfl ?_
  refine mm_bipush (v := 48) d11_load_9 (by decide +kernel) ?_
  refine mm_icmp_ge (tgt := 51) d11_load_11 (by decide) (fun hc1 => ?_) (fun hc1 => ?_)
  · rw [if_pos hc1] at h
    refine mm_iconst (v := 0) d11_load_51 (by decide +kernel) ?_
    refine mm_istore_n d11_load_52 rfl rfl ?_
    refine mm_sub [(0, .ref v0), (2, .int v2), (3, .int 0)] ⟨rfl, rfl, rfl, trivial⟩ ?_
    exact ok11_load_53 l hS  n h0 h
  · rw [if_neg hc1] at h
    refine mm_aload_n d11_load_14 rfl ?_
    refine mm_getR fl_X11_45 d11_load_15 (mm_wtR hS 50 h0 rfl rfl) ?_
    refine mm_iload_n d11_load_18 rfl ?_
    refine mm_aload_n d11_load_19 rfl ?_
    refine mm_getR fl_X11_123 d11_load_20 (mm_wtR hS 50 h0 rfl rfl) ?_
    refine mm_iload_n d11_load_23 rfl ?_
    refine mm_iload_n d11_load_24 rfl ?_
    refine mm_iadd d11_load_25 ?_
    obtain ⟨hb2, h⟩ := mm_gd h
    refine mm_iald d11_load_26 (mm_wtA hS 55 0 h0 rfl rfl) (mm_inb_ok hb2) ?_
    obtain ⟨hb3, h⟩ := mm_gd h
    refine mm_iast d11_load_27 (mm_wtA hS 14 0 h0 rfl rfl) (mm_inb_ok hb3) ?_
    refine mm_aload_n d11_load_28 rfl ?_
    refine mm_getR fl_X11_48 d11_load_29 (mm_wtR hS 50 h0 rfl rfl) ?_
    refine mm_iload_n d11_load_32 rfl ?_
    refine mm_aload_n d11_load_33 rfl ?_
    refine mm_getR fl_X11_123 d11_load_34 (mm_wtR hS 50 h0 rfl rfl) ?_
    refine mm_iload_n d11_load_37 rfl ?_
    refine mm_bipush (v := 48) d11_load_38 (by decide +kernel) ?_
    refine mm_iadd d11_load_40 ?_
    refine mm_iload_n d11_load_41 rfl ?_
    refine mm_iadd d11_load_42 ?_
    obtain ⟨hb4, h⟩ := mm_gd h
    refine mm_iald d11_load_43 (mm_wtA hS 55 0 h0 rfl rfl) (mm_inb_ok hb4) ?_
    obtain ⟨hb5, h⟩ := mm_gd h
    refine mm_iast d11_load_44 (mm_wtA hS 15 0 h0 rfl rfl) (mm_inb_ok hb5) ?_
    refine mm_iinc (v := v3 + 1) d11_load_45 rfl rfl rfl rfl ?_
    refine mm_goto (tgt := 8) d11_load_48 (by decide) ?_
    refine mm_sub [(0, .ref v0), (2, .int v2), (3, .int (v3 + 1))] ⟨rfl, rfl, rfl, trivial⟩ ?_
    exact hrec8 h0 h
set_option maxHeartbeats 4000000 in
set_option maxRecDepth 100000 in
theorem ok11_load_8 (l : Launch) {S : mm_Sh} (hS : mm_WT S) {n : Nat}  : ∀ (k : Nat) {v0 : Nat} {v2 : Int32} {v3 : Int32} (h0 : mm_is S v0 11) {I : mm_I} {J : mm_J} {o : mm_I × mm_J}, f11_load_8 S n k v0 v2 v3 I J = some o → mm_W l M11_load (mm_rm (mm_rk M11_load)) 0 0 S (mm_end S (mm_Qv o.1 o.2)) 8 [(0, .ref v0), (2, .int v2), (3, .int v3)] [] I J := by
  intro k
  induction k with
  | zero =>
    intros
    rename_i h
    cases h
  | succ k ih =>
    intro v0 v2 v3 h0 I J o h
    exact ok11_load_8_b l hS (fun {v0 v2 v3} h0 {I J o} h => ih h0 h) h0 h
set_option maxHeartbeats 4000000 in
set_option maxRecDepth 100000 in
theorem ok11_load (l : Launch) {S : mm_Sh} (hS : mm_WT S) {n : Nat}  {v0 : Nat} {v1 : Int32} (h0 : mm_is S v0 11) {I : mm_I} {J : mm_J} {o : mm_I × mm_J} (h : f11_load S n v0 v1 I J = some o) : mm_C l M11_load S [.ref v0, .int v1] I J (mm_Qv o.1 o.2) := by
  unfold f11_load at h
  refine mm_enter rfl (by decide +kernel) rfl ?_
  refine mm_sipush (v := 180) d11_load_0 (by decide +kernel) ?_
  refine mm_iload_n d11_load_3 rfl ?_
  refine mm_imul d11_load_4 ?_
  refine mm_istore_n d11_load_5 rfl rfl ?_
  refine mm_iconst (v := 0) d11_load_6 (by decide +kernel) ?_
  refine mm_istore_n d11_load_7 rfl rfl ?_
  refine mm_sub [(0, .ref v0), (2, .int (180 * v1)), (3, .int 0)] ⟨rfl, rfl, rfl, trivial⟩ ?_
  exact ok11_load_8 l hS  n h0 h
set_option maxHeartbeats 4000000 in
set_option maxRecDepth 100000 in
theorem ok11_longer (l : Launch) {S : mm_Sh} (hS : mm_WT S)  {v0 : Int64} {v2 : Int32}  {I : mm_I} {J : mm_J} {o : Int64} (h : f11_longer S v0 v2 I J = some o) : mm_C l M11_longer S [.long v0, .int v2] I J (mm_Ql o I J) := by
  unfold f11_longer at h
  refine mm_enter rfl (by decide +kernel) rfl ?_
  refine mm_ldc2 (v := 27) d11_longer_0 kX11_184 ?_
  refine mm_lload_n d11_longer_3 rfl ?_
  refine mm_lmul d11_longer_4 ?_
  refine mm_iload_n d11_longer_5 rfl ?_
  refine mm_i2l d11_longer_6 ?_
  refine mm_ladd d11_longer_7 ?_
  refine mm_ldc2 (v := 96) d11_longer_8 kX11_186 ?_
  refine mm_lsub d11_longer_11 ?_
  have h := Option.some.inj h
  subst h
  exact mm_lret rfl d11_longer_12 ⟨rfl, rfl, rfl⟩
set_option maxHeartbeats 4000000 in
set_option maxRecDepth 100000 in
theorem ok11_save_240 (l : Launch) {S : mm_Sh} (hS : mm_WT S) {n : Nat}  {rec53 : Nat → Int32 → Int32 → mm_I → mm_J → Option (mm_I × mm_J)} (hrec53 : ∀ {v0 : Nat} {v2 : Int32} {v3 : Int32} (_ : mm_is S v0 11) {I : mm_I} {J : mm_J} {o : mm_I × mm_J}, rec53 v0 v2 v3 I J = some o → mm_W l M11_save (mm_rm (mm_rk M11_save)) 0 0 S (mm_end S (mm_Qv o.1 o.2)) 53 [(0, .ref v0), (2, .int v2), (3, .int v3)] [] I J) {v0 : Nat} {v2 : Int32} {v3 : Int32} {s0 : Nat} {s1 : Int32} {s2 : Int32} (h0 : mm_is S v0 11) (g0 : S[s0]? = some (.inl (0, mm_al S s0))) {I : mm_I} {J : mm_J} {o : mm_I × mm_J} (h : f11_save_240 S n rec53 v0 v2 v3 s0 s1 s2 I J = some o) : mm_W l M11_save (mm_rm (mm_rk M11_save)) 0 0 S (mm_end S (mm_Qv o.1 o.2)) 240 [(0, .ref v0), (2, .int v2), (3, .int v3)] [.int s2, .int s1, .ref s0] I J := by
  unfold f11_save_240 at h
  obtain ⟨hb1, h⟩ := mm_gd h
  refine mm_iast d11_save_240 g0 (mm_inb_ok hb1) ?_
  refine mm_iinc (v := v3 + 1) d11_save_241 rfl rfl rfl rfl ?_
  refine mm_goto (tgt := 53) d11_save_244 (by decide) ?_
  refine mm_sub [(0, .ref v0), (2, .int v2), (3, .int (v3 + 1))] ⟨rfl, rfl, rfl, trivial⟩ ?_
  exact hrec53 h0 h
set_option maxHeartbeats 4000000 in
set_option maxRecDepth 100000 in
theorem ok11_save_214 (l : Launch) {S : mm_Sh} (hS : mm_WT S) {n : Nat}  {rec53 : Nat → Int32 → Int32 → mm_I → mm_J → Option (mm_I × mm_J)} (hrec53 : ∀ {v0 : Nat} {v2 : Int32} {v3 : Int32} (_ : mm_is S v0 11) {I : mm_I} {J : mm_J} {o : mm_I × mm_J}, rec53 v0 v2 v3 I J = some o → mm_W l M11_save (mm_rm (mm_rk M11_save)) 0 0 S (mm_end S (mm_Qv o.1 o.2)) 53 [(0, .ref v0), (2, .int v2), (3, .int v3)] [] I J) {v0 : Nat} {v2 : Int32} {v3 : Int32} {s0 : Nat} {s1 : Int32} {s2 : Int32} (h0 : mm_is S v0 11) (g0 : S[s0]? = some (.inl (0, mm_al S s0))) {I : mm_I} {J : mm_J} {o : mm_I × mm_J} (h : f11_save_214 S n rec53 v0 v2 v3 s0 s1 s2 I J = some o) : mm_W l M11_save (mm_rm (mm_rk M11_save)) 0 0 S (mm_end S (mm_Qv o.1 o.2)) 214 [(0, .ref v0), (2, .int v2), (3, .int v3)] [.int s2, .int s1, .ref s0] I J := by
  unfold f11_save_214 at h
  obtain ⟨hb1, h⟩ := mm_gd h
  refine mm_iast d11_save_214 g0 (mm_inb_ok hb1) ?_
  refine mm_aload_n d11_save_215 rfl ?_
  refine mm_getR fl_X11_123 d11_save_216 (mm_wtR hS 50 h0 rfl rfl) ?_
  refine mm_iload_n d11_save_219 rfl ?_
  refine mm_sipush (v := 160) d11_save_220 (by decide +kernel) ?_
  refine mm_iadd d11_save_223 ?_
  refine mm_iload_n d11_save_224 rfl ?_
  refine mm_iadd d11_save_225 ?_
  refine mm_aload_n d11_save_226 rfl ?_
  refine mm_getR fl_X11_69 d11_save_227 (mm_wtR hS 51 h0 rfl rfl) ?_
  refine mm_iload_n d11_save_230 rfl ?_
  obtain ⟨hb2, h⟩ := mm_gd h
  refine mm_zald d11_save_231 (mm_wtA hS 22 1 h0 rfl rfl) (mm_inb_ok hb2) ?_
  refine mm_if_eq (tgt := 239) d11_save_232 (by decide) (fun hc3 => ?_) (fun hc3 => ?_)
  · rw [if_pos hc3] at h
    refine mm_iconst (v := 0) d11_save_239 (by decide +kernel) ?_
    refine mm_sub [(0, .ref v0), (2, .int v2), (3, .int v3)] ⟨rfl, rfl, rfl, trivial⟩ ?_
    exact ok11_save_240 l hS hrec53 h0 (mm_wtA hS 55 0 h0 rfl rfl) h
  · rw [if_neg hc3] at h
    refine mm_iconst (v := 1) d11_save_235 (by decide +kernel) ?_
    refine mm_goto (tgt := 240) d11_save_236 (by decide) ?_
    refine mm_sub [(0, .ref v0), (2, .int v2), (3, .int v3)] ⟨rfl, rfl, rfl, trivial⟩ ?_
    exact ok11_save_240 l hS hrec53 h0 (mm_wtA hS 55 0 h0 rfl rfl) h
set_option maxHeartbeats 4000000 in
set_option maxRecDepth 100000 in
theorem ok11_save_100 (l : Launch) {S : mm_Sh} (hS : mm_WT S) {n : Nat}  {rec53 : Nat → Int32 → Int32 → mm_I → mm_J → Option (mm_I × mm_J)} (hrec53 : ∀ {v0 : Nat} {v2 : Int32} {v3 : Int32} (_ : mm_is S v0 11) {I : mm_I} {J : mm_J} {o : mm_I × mm_J}, rec53 v0 v2 v3 I J = some o → mm_W l M11_save (mm_rm (mm_rk M11_save)) 0 0 S (mm_end S (mm_Qv o.1 o.2)) 53 [(0, .ref v0), (2, .int v2), (3, .int v3)] [] I J) {v0 : Nat} {v2 : Int32} {v3 : Int32} {s0 : Nat} {s1 : Int32} {s2 : Int32} (h0 : mm_is S v0 11) (g0 : S[s0]? = some (.inl (0, mm_al S s0))) {I : mm_I} {J : mm_J} {o : mm_I × mm_J} (h : f11_save_100 S n rec53 v0 v2 v3 s0 s1 s2 I J = some o) : mm_W l M11_save (mm_rm (mm_rk M11_save)) 0 0 S (mm_end S (mm_Qv o.1 o.2)) 100 [(0, .ref v0), (2, .int v2), (3, .int v3)] [.int s2, .int s1, .ref s0] I J := by
  unfold f11_save_100 at h
  obtain ⟨hb1, h⟩ := mm_gd h
  refine mm_iast d11_save_100 g0 (mm_inb_ok hb1) ?_
  refine mm_aload_n d11_save_101 rfl ?_
  refine mm_getR fl_X11_123 d11_save_102 (mm_wtR hS 50 h0 rfl rfl) ?_
  refine mm_iload_n d11_save_105 rfl ?_
  refine mm_bipush (v := 112) d11_save_106 (by decide +kernel) ?_
  refine mm_iadd d11_save_108 ?_
  refine mm_iload_n d11_save_109 rfl ?_
  refine mm_iadd d11_save_110 ?_
  refine mm_aload_n d11_save_111 rfl ?_
  refine mm_getR fl_X11_51 d11_save_112 (mm_wtR hS 50 h0 rfl rfl) ?_
  refine mm_iload_n d11_save_115 rfl ?_
  obtain ⟨hb2, h⟩ := mm_gd h
  refine mm_iald d11_save_116 (mm_wtA hS 16 0 h0 rfl rfl) (mm_inb_ok hb2) ?_
  obtain ⟨hb3, h⟩ := mm_gd h
  refine mm_iast d11_save_117 (mm_wtA hS 55 0 h0 rfl rfl) (mm_inb_ok hb3) ?_
  refine mm_aload_n d11_save_118 rfl ?_
  refine mm_getR fl_X11_123 d11_save_119 (mm_wtR hS 50 h0 rfl rfl) ?_
  refine mm_iload_n d11_save_122 rfl ?_
  refine mm_bipush (v := 120) d11_save_123 (by decide +kernel) ?_
  refine mm_iadd d11_save_125 ?_
  refine mm_iload_n d11_save_126 rfl ?_
  refine mm_iadd d11_save_127 ?_
  refine mm_aload_n d11_save_128 rfl ?_
  refine mm_getR fl_X11_54 d11_save_129 (mm_wtR hS 50 h0 rfl rfl) ?_
  refine mm_iload_n d11_save_132 rfl ?_
  obtain ⟨hb4, h⟩ := mm_gd h
  refine mm_iald d11_save_133 (mm_wtA hS 17 0 h0 rfl rfl) (mm_inb_ok hb4) ?_
  obtain ⟨hb5, h⟩ := mm_gd h
  refine mm_iast d11_save_134 (mm_wtA hS 55 0 h0 rfl rfl) (mm_inb_ok hb5) ?_
  refine mm_aload_n d11_save_135 rfl ?_
  refine mm_getR fl_X11_123 d11_save_136 (mm_wtR hS 50 h0 rfl rfl) ?_
  refine mm_iload_n d11_save_139 rfl ?_
  refine mm_sipush (v := 128) d11_save_140 (by decide +kernel) ?_
  refine mm_iadd d11_save_143 ?_
  refine mm_iload_n d11_save_144 rfl ?_
  refine mm_iadd d11_save_145 ?_
  refine mm_aload_n d11_save_146 rfl ?_
  refine mm_getR fl_X11_57 d11_save_147 (mm_wtR hS 50 h0 rfl rfl) ?_
  refine mm_iload_n d11_save_150 rfl ?_
  obtain ⟨hb6, h⟩ := mm_gd h
  refine mm_iald d11_save_151 (mm_wtA hS 18 0 h0 rfl rfl) (mm_inb_ok hb6) ?_
  obtain ⟨hb7, h⟩ := mm_gd h
  refine mm_iast d11_save_152 (mm_wtA hS 55 0 h0 rfl rfl) (mm_inb_ok hb7) ?_
  refine mm_aload_n d11_save_153 rfl ?_
  refine mm_getR fl_X11_123 d11_save_154 (mm_wtR hS 50 h0 rfl rfl) ?_
  refine mm_iload_n d11_save_157 rfl ?_
  refine mm_sipush (v := 136) d11_save_158 (by decide +kernel) ?_
  refine mm_iadd d11_save_161 ?_
  refine mm_iload_n d11_save_162 rfl ?_
  refine mm_iadd d11_save_163 ?_
  refine mm_aload_n d11_save_164 rfl ?_
  refine mm_getR fl_X11_60 d11_save_165 (mm_wtR hS 50 h0 rfl rfl) ?_
  refine mm_iload_n d11_save_168 rfl ?_
  obtain ⟨hb8, h⟩ := mm_gd h
  refine mm_iald d11_save_169 (mm_wtA hS 19 0 h0 rfl rfl) (mm_inb_ok hb8) ?_
  obtain ⟨hb9, h⟩ := mm_gd h
  refine mm_iast d11_save_170 (mm_wtA hS 55 0 h0 rfl rfl) (mm_inb_ok hb9) ?_
  refine mm_aload_n d11_save_171 rfl ?_
  refine mm_getR fl_X11_123 d11_save_172 (mm_wtR hS 50 h0 rfl rfl) ?_
  refine mm_iload_n d11_save_175 rfl ?_
  refine mm_sipush (v := 144) d11_save_176 (by decide +kernel) ?_
  refine mm_iadd d11_save_179 ?_
  refine mm_iload_n d11_save_180 rfl ?_
  refine mm_iadd d11_save_181 ?_
  refine mm_aload_n d11_save_182 rfl ?_
  refine mm_getR fl_X11_63 d11_save_183 (mm_wtR hS 50 h0 rfl rfl) ?_
  refine mm_iload_n d11_save_186 rfl ?_
  obtain ⟨hb10, h⟩ := mm_gd h
  refine mm_iald d11_save_187 (mm_wtA hS 20 0 h0 rfl rfl) (mm_inb_ok hb10) ?_
  obtain ⟨hb11, h⟩ := mm_gd h
  refine mm_iast d11_save_188 (mm_wtA hS 55 0 h0 rfl rfl) (mm_inb_ok hb11) ?_
  refine mm_aload_n d11_save_189 rfl ?_
  refine mm_getR fl_X11_123 d11_save_190 (mm_wtR hS 50 h0 rfl rfl) ?_
  refine mm_iload_n d11_save_193 rfl ?_
  refine mm_sipush (v := 152) d11_save_194 (by decide +kernel) ?_
  refine mm_iadd d11_save_197 ?_
  refine mm_iload_n d11_save_198 rfl ?_
  refine mm_iadd d11_save_199 ?_
  refine mm_aload_n d11_save_200 rfl ?_
  refine mm_getR fl_X11_66 d11_save_201 (mm_wtR hS 51 h0 rfl rfl) ?_
  refine mm_iload_n d11_save_204 rfl ?_
  obtain ⟨hb12, h⟩ := mm_gd h
  refine mm_zald d11_save_205 (mm_wtA hS 21 1 h0 rfl rfl) (mm_inb_ok hb12) ?_
  refine mm_if_eq (tgt := 213) d11_save_206 (by decide) (fun hc13 => ?_) (fun hc13 => ?_)
  · rw [if_pos hc13] at h
    refine mm_iconst (v := 0) d11_save_213 (by decide +kernel) ?_
    refine mm_sub [(0, .ref v0), (2, .int v2), (3, .int v3)] ⟨rfl, rfl, rfl, trivial⟩ ?_
    exact ok11_save_214 l hS hrec53 h0 (mm_wtA hS 55 0 h0 rfl rfl) h
  · rw [if_neg hc13] at h
    refine mm_iconst (v := 1) d11_save_209 (by decide +kernel) ?_
    refine mm_goto (tgt := 214) d11_save_210 (by decide) ?_
    refine mm_sub [(0, .ref v0), (2, .int v2), (3, .int v3)] ⟨rfl, rfl, rfl, trivial⟩ ?_
    exact ok11_save_214 l hS hrec53 h0 (mm_wtA hS 55 0 h0 rfl rfl) h
set_option maxHeartbeats 4000000 in
set_option maxRecDepth 100000 in
theorem ok11_save_53_b (l : Launch) {S : mm_Sh} (hS : mm_WT S) {n : Nat}  {rec53 : Nat → Int32 → Int32 → mm_I → mm_J → Option (mm_I × mm_J)} (hrec53 : ∀ {v0 : Nat} {v2 : Int32} {v3 : Int32} (_ : mm_is S v0 11) {I : mm_I} {J : mm_J} {o : mm_I × mm_J}, rec53 v0 v2 v3 I J = some o → mm_W l M11_save (mm_rm (mm_rk M11_save)) 0 0 S (mm_end S (mm_Qv o.1 o.2)) 53 [(0, .ref v0), (2, .int v2), (3, .int v3)] [] I J) {v0 : Nat} {v2 : Int32} {v3 : Int32} (h0 : mm_is S v0 11) {I : mm_I} {J : mm_J} {o : mm_I × mm_J} (h : f11_save_53_b S n rec53 v0 v2 v3 I J = some o) : mm_W l M11_save (mm_rm (mm_rk M11_save)) 0 0 S (mm_end S (mm_Qv o.1 o.2)) 53 [(0, .ref v0), (2, .int v2), (3, .int v3)] [] I J := by
  unfold f11_save_53_b at h
  refine mm_iload_n d11_save_53 rfl ?_
  refine mm_bipush (v := 8) d11_save_54 (by decide +kernel) ?_
  refine mm_icmp_ge (tgt := 247) d11_save_56 (by decide) (fun hc1 => ?_) (fun hc1 => ?_)
  · rw [if_pos hc1] at h
    refine mm_aload_n d11_save_247 rfl ?_
    refine mm_getR fl_X11_123 d11_save_248 (mm_wtR hS 50 h0 rfl rfl) ?_
    refine mm_iload_n d11_save_251 rfl ?_
    refine mm_sipush (v := 168) d11_save_252 (by decide +kernel) ?_
    refine mm_iadd d11_save_255 ?_
    refine mm_aload_n d11_save_256 rfl ?_
    refine mm_getI fl_X11_147 d11_save_257 (mm_wtI hS h0 rfl) ?_
    obtain ⟨hb2, h⟩ := mm_gd h
    refine mm_iast d11_save_260 (mm_wtA hS 55 0 h0 rfl rfl) (mm_inb_ok hb2) ?_
    refine mm_aload_n d11_save_261 rfl ?_
    refine mm_getR fl_X11_123 d11_save_262 (mm_wtR hS 50 h0 rfl rfl) ?_
    refine mm_iload_n d11_save_265 rfl ?_
    refine mm_sipush (v := 169) d11_save_266 (by decide +kernel) ?_
    refine mm_iadd d11_save_269 ?_
    refine mm_aload_n d11_save_270 rfl ?_
    refine mm_getI fl_X11_301 d11_save_271 (mm_wtI hS h0 rfl) ?_
    obtain ⟨hb3, h⟩ := mm_gd h
    refine mm_iast d11_save_274 (mm_wtA hS 55 0 h0 rfl rfl) (mm_inb_ok hb3) ?_
    have h := Option.some.inj h
    subst h
    exact mm_vret rfl d11_save_275 ⟨rfl, rfl, rfl⟩
  · rw [if_neg hc1] at h
    refine mm_aload_n d11_save_59 rfl ?_
    refine mm_getR fl_X11_123 d11_save_60 (mm_wtR hS 50 h0 rfl rfl) ?_
    refine mm_iload_n d11_save_63 rfl ?_
    refine mm_bipush (v := 96) d11_save_64 (by decide +kernel) ?_
    refine mm_iadd d11_save_66 ?_
    refine mm_iload_n d11_save_67 rfl ?_
    refine mm_iadd d11_save_68 ?_
    refine mm_aload_n d11_save_69 rfl ?_
    refine mm_getR fl_X11_38 d11_save_70 (mm_wtR hS 50 h0 rfl rfl) ?_
    refine mm_iload_n d11_save_73 rfl ?_
    obtain ⟨hb4, h⟩ := mm_gd h
    refine mm_iald d11_save_74 (mm_wtA hS 12 0 h0 rfl rfl) (mm_inb_ok hb4) ?_
    obtain ⟨hb5, h⟩ := mm_gd h
    refine mm_iast d11_save_75 (mm_wtA hS 55 0 h0 rfl rfl) (mm_inb_ok hb5) ?_
    refine mm_aload_n d11_save_76 rfl ?_
    refine mm_getR fl_X11_123 d11_save_77 (mm_wtR hS 50 h0 rfl rfl) ?_
    refine mm_iload_n d11_save_80 rfl ?_
    refine mm_bipush (v := 104) d11_save_81 (by decide +kernel) ?_
    refine mm_iadd d11_save_83 ?_
    refine mm_iload_n d11_save_84 rfl ?_
    refine mm_iadd d11_save_85 ?_
    refine mm_aload_n d11_save_86 rfl ?_
    refine mm_getR fl_X11_41 d11_save_87 (mm_wtR hS 51 h0 rfl rfl) ?_
    refine mm_iload_n d11_save_90 rfl ?_
    obtain ⟨hb6, h⟩ := mm_gd h
    refine mm_zald d11_save_91 (mm_wtA hS 13 1 h0 rfl rfl) (mm_inb_ok hb6) ?_
    refine mm_if_eq (tgt := 99) d11_save_92 (by decide) (fun hc7 => ?_) (fun hc7 => ?_)
    · rw [if_pos hc7] at h
      refine mm_iconst (v := 0) d11_save_99 (by decide +kernel) ?_
      refine mm_sub [(0, .ref v0), (2, .int v2), (3, .int v3)] ⟨rfl, rfl, rfl, trivial⟩ ?_
      exact ok11_save_100 l hS hrec53 h0 (mm_wtA hS 55 0 h0 rfl rfl) h
    · rw [if_neg hc7] at h
      refine mm_iconst (v := 1) d11_save_95 (by decide +kernel) ?_
      refine mm_goto (tgt := 100) d11_save_96 (by decide) ?_
      refine mm_sub [(0, .ref v0), (2, .int v2), (3, .int v3)] ⟨rfl, rfl, rfl, trivial⟩ ?_
      exact ok11_save_100 l hS hrec53 h0 (mm_wtA hS 55 0 h0 rfl rfl) h
set_option maxHeartbeats 4000000 in
set_option maxRecDepth 100000 in
theorem ok11_save_53 (l : Launch) {S : mm_Sh} (hS : mm_WT S) {n : Nat}  : ∀ (k : Nat) {v0 : Nat} {v2 : Int32} {v3 : Int32} (h0 : mm_is S v0 11) {I : mm_I} {J : mm_J} {o : mm_I × mm_J}, f11_save_53 S n k v0 v2 v3 I J = some o → mm_W l M11_save (mm_rm (mm_rk M11_save)) 0 0 S (mm_end S (mm_Qv o.1 o.2)) 53 [(0, .ref v0), (2, .int v2), (3, .int v3)] [] I J := by
  intro k
  induction k with
  | zero =>
    intros
    rename_i h
    cases h
  | succ k ih =>
    intro v0 v2 v3 h0 I J o h
    exact ok11_save_53_b l hS (fun {v0 v2 v3} h0 {I J o} h => ih h0 h) h0 h
set_option maxHeartbeats 4000000 in
set_option maxRecDepth 100000 in
theorem ok11_save_8_b (l : Launch) {S : mm_Sh} (hS : mm_WT S) {n : Nat}  {rec8 : Nat → Int32 → Int32 → mm_I → mm_J → Option (mm_I × mm_J)} (hrec8 : ∀ {v0 : Nat} {v2 : Int32} {v3 : Int32} (_ : mm_is S v0 11) {I : mm_I} {J : mm_J} {o : mm_I × mm_J}, rec8 v0 v2 v3 I J = some o → mm_W l M11_save (mm_rm (mm_rk M11_save)) 0 0 S (mm_end S (mm_Qv o.1 o.2)) 8 [(0, .ref v0), (2, .int v2), (3, .int v3)] [] I J) {v0 : Nat} {v2 : Int32} {v3 : Int32} (h0 : mm_is S v0 11) {I : mm_I} {J : mm_J} {o : mm_I × mm_J} (h : f11_save_8_b S n rec8 v0 v2 v3 I J = some o) : mm_W l M11_save (mm_rm (mm_rk M11_save)) 0 0 S (mm_end S (mm_Qv o.1 o.2)) 8 [(0, .ref v0), (2, .int v2), (3, .int v3)] [] I J := by
  unfold f11_save_8_b at h
  refine mm_iload_n d11_save_8 rfl ?_
  refine mm_bipush (v := 48) d11_save_9 (by decide +kernel) ?_
  refine mm_icmp_ge (tgt := 51) d11_save_11 (by decide) (fun hc1 => ?_) (fun hc1 => ?_)
  · rw [if_pos hc1] at h
    refine mm_iconst (v := 0) d11_save_51 (by decide +kernel) ?_
    refine mm_istore_n d11_save_52 rfl rfl ?_
    refine mm_sub [(0, .ref v0), (2, .int v2), (3, .int 0)] ⟨rfl, rfl, rfl, trivial⟩ ?_
    exact ok11_save_53 l hS  n h0 h
  · rw [if_neg hc1] at h
    refine mm_aload_n d11_save_14 rfl ?_
    refine mm_getR fl_X11_123 d11_save_15 (mm_wtR hS 50 h0 rfl rfl) ?_
    refine mm_iload_n d11_save_18 rfl ?_
    refine mm_iload_n d11_save_19 rfl ?_
    refine mm_iadd d11_save_20 ?_
    refine mm_aload_n d11_save_21 rfl ?_
    refine mm_getR fl_X11_45 d11_save_22 (mm_wtR hS 50 h0 rfl rfl) ?_
    refine mm_iload_n d11_save_25 rfl ?_
    obtain ⟨hb2, h⟩ := mm_gd h
    refine mm_iald d11_save_26 (mm_wtA hS 14 0 h0 rfl rfl) (mm_inb_ok hb2) ?_
    obtain ⟨hb3, h⟩ := mm_gd h
    refine mm_iast d11_save_27 (mm_wtA hS 55 0 h0 rfl rfl) (mm_inb_ok hb3) ?_
    refine mm_aload_n d11_save_28 rfl ?_
    refine mm_getR fl_X11_123 d11_save_29 (mm_wtR hS 50 h0 rfl rfl) ?_
    refine mm_iload_n d11_save_32 rfl ?_
    refine mm_bipush (v := 48) d11_save_33 (by decide +kernel) ?_
    refine mm_iadd d11_save_35 ?_
    refine mm_iload_n d11_save_36 rfl ?_
    refine mm_iadd d11_save_37 ?_
    refine mm_aload_n d11_save_38 rfl ?_
    refine mm_getR fl_X11_48 d11_save_39 (mm_wtR hS 50 h0 rfl rfl) ?_
    refine mm_iload_n d11_save_42 rfl ?_
    obtain ⟨hb4, h⟩ := mm_gd h
    refine mm_iald d11_save_43 (mm_wtA hS 15 0 h0 rfl rfl) (mm_inb_ok hb4) ?_
    obtain ⟨hb5, h⟩ := mm_gd h
    refine mm_iast d11_save_44 (mm_wtA hS 55 0 h0 rfl rfl) (mm_inb_ok hb5) ?_
    refine mm_iinc (v := v3 + 1) d11_save_45 rfl rfl rfl rfl ?_
    refine mm_goto (tgt := 8) d11_save_48 (by decide) ?_
    refine mm_sub [(0, .ref v0), (2, .int v2), (3, .int (v3 + 1))] ⟨rfl, rfl, rfl, trivial⟩ ?_
    exact hrec8 h0 h
set_option maxHeartbeats 4000000 in
set_option maxRecDepth 100000 in
theorem ok11_save_8 (l : Launch) {S : mm_Sh} (hS : mm_WT S) {n : Nat}  : ∀ (k : Nat) {v0 : Nat} {v2 : Int32} {v3 : Int32} (h0 : mm_is S v0 11) {I : mm_I} {J : mm_J} {o : mm_I × mm_J}, f11_save_8 S n k v0 v2 v3 I J = some o → mm_W l M11_save (mm_rm (mm_rk M11_save)) 0 0 S (mm_end S (mm_Qv o.1 o.2)) 8 [(0, .ref v0), (2, .int v2), (3, .int v3)] [] I J := by
  intro k
  induction k with
  | zero =>
    intros
    rename_i h
    cases h
  | succ k ih =>
    intro v0 v2 v3 h0 I J o h
    exact ok11_save_8_b l hS (fun {v0 v2 v3} h0 {I J o} h => ih h0 h) h0 h
set_option maxHeartbeats 4000000 in
set_option maxRecDepth 100000 in
theorem ok11_save (l : Launch) {S : mm_Sh} (hS : mm_WT S) {n : Nat}  {v0 : Nat} {v1 : Int32} (h0 : mm_is S v0 11) {I : mm_I} {J : mm_J} {o : mm_I × mm_J} (h : f11_save S n v0 v1 I J = some o) : mm_C l M11_save S [.ref v0, .int v1] I J (mm_Qv o.1 o.2) := by
  unfold f11_save at h
  refine mm_enter rfl (by decide +kernel) rfl ?_
  refine mm_sipush (v := 180) d11_save_0 (by decide +kernel) ?_
  refine mm_iload_n d11_save_3 rfl ?_
  refine mm_imul d11_save_4 ?_
  refine mm_istore_n d11_save_5 rfl rfl ?_
  refine mm_iconst (v := 0) d11_save_6 (by decide +kernel) ?_
  refine mm_istore_n d11_save_7 rfl rfl ?_
  refine mm_sub [(0, .ref v0), (2, .int (180 * v1)), (3, .int 0)] ⟨rfl, rfl, rfl, trivial⟩ ?_
  exact ok11_save_8 l hS  n h0 h
set_option maxHeartbeats 4000000 in
set_option maxRecDepth 100000 in
theorem ok11_seed (l : Launch) {S : mm_Sh} (hS : mm_WT S)  {v0 : Nat} {v1 : Int32} (h0 : mm_is S v0 11) {I : mm_I} {J : mm_J} {o : Int32 × mm_I × mm_J} (h : f11_seed S v0 v1 I J = some o) : mm_C l M11_seed S [.ref v0, .int v1] I J (mm_Qi o.1 o.2.1 o.2.2) := by
  unfold f11_seed at h
  refine mm_enter rfl (by decide +kernel) rfl ?_
  refine mm_iload_n d11_seed_0 rfl ?_
  refine mm_if_ge (tgt := 7) d11_seed_1 (by decide) (fun hc1 => ?_) (fun hc1 => ?_)
  · rw [if_pos hc1] at h
    refine mm_aload_n d11_seed_7 rfl ?_
    refine mm_getI fl_X11_301 d11_seed_8 (mm_wtI hS h0 rfl) ?_
    refine mm_istore_n d11_seed_11 rfl rfl ?_
    refine mm_aload_n d11_seed_12 rfl ?_
    refine mm_iload_n d11_seed_13 rfl ?_
    refine mm_putI fp_X11_301 d11_seed_14 (mm_wtI hS h0 rfl) ?_
    refine mm_iload_n d11_seed_17 rfl ?_
    have h := Option.some.inj h
    subst h
    exact mm_iret rfl d11_seed_18 ⟨rfl, rfl, rfl⟩
  · rw [if_neg hc1] at h
    refine mm_ldc (v := (-1000000002)) d11_seed_4 kX11_156 ?_
    have h := Option.some.inj h
    subst h
    exact mm_iret rfl d11_seed_6 ⟨rfl, rfl, rfl⟩
set_option maxHeartbeats 4000000 in
set_option maxRecDepth 100000 in
theorem ok11_tear (l : Launch) {S : mm_Sh} (hS : mm_WT S)  {v0 : Nat} (h0 : mm_is S v0 11) {I : mm_I} {J : mm_J} {o : Int32 × mm_I × mm_J} (h : f11_tear S v0 I J = some o) : mm_C l M11_tear S [.ref v0] I J (mm_Qi o.1 o.2.1 o.2.2) := by
  unfold f11_tear at h
  refine mm_enter rfl (by decide +kernel) rfl ?_
  refine mm_aload_n d11_tear_0 rfl ?_
  refine mm_getI fl_X11_247 d11_tear_1 (mm_wtI hS h0 rfl) ?_
  refine mm_aload_n d11_tear_4 rfl ?_
  refine mm_getI fl_X11_244 d11_tear_5 (mm_wtI hS h0 rfl) ?_
  refine mm_iadd d11_tear_8 ?_
  refine mm_istore_n d11_tear_9 rfl rfl ?_
  refine mm_aload_n d11_tear_10 rfl ?_
  refine mm_iconst (v := 0) d11_tear_11 (by decide +kernel) ?_
  refine mm_putI fp_X11_247 d11_tear_12 (mm_wtI hS h0 rfl) ?_
  refine mm_aload_n d11_tear_15 rfl ?_
  refine mm_iconst (v := 0) d11_tear_16 (by decide +kernel) ?_
  refine mm_putI fp_X11_244 d11_tear_17 (mm_wtI hS h0 rfl) ?_
  refine mm_iload_n d11_tear_20 rfl ?_
  have h := Option.some.inj h
  subst h
  exact mm_iret rfl d11_tear_21 ⟨rfl, rfl, rfl⟩
