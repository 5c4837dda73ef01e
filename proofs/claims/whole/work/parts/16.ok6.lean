/-! ===== the machine does what the functions say: written by wip/whole/gen.py ===== -/
set_option maxHeartbeats 4000000 in
set_option maxRecDepth 100000 in
theorem ok11_begin_90 (l : Launch) {S : mm_Sh} (hS : mm_WT S) {n : Nat}  {rec12 : Nat → Int32 → Int32 → mm_I → mm_J → Option (Int32 × mm_I × mm_J)} (hrec12 : ∀ {v0 : Nat} {v1 : Int32} {v2 : Int32} (_ : mm_is S v0 11) {I : mm_I} {J : mm_J} {o : Int32 × mm_I × mm_J}, rec12 v0 v1 v2 I J = some o → mm_W l M11_begin (mm_rm (mm_rk M11_begin)) 0 0 S (mm_end S (mm_Qi o.1 o.2.1 o.2.2)) 12 [(0, .ref v0), (1, .int v1), (2, .int v2)] [] I J) {rec51 : Nat → Int32 → Int32 → Int32 → mm_I → mm_J → Option (Int32 × mm_I × mm_J)} (hrec51 : ∀ {v0 : Nat} {v1 : Int32} {v2 : Int32} {v3 : Int32} (_ : mm_is S v0 11) {I : mm_I} {J : mm_J} {o : Int32 × mm_I × mm_J}, rec51 v0 v1 v2 v3 I J = some o → mm_W l M11_begin (mm_rm (mm_rk M11_begin)) 0 0 S (mm_end S (mm_Qi o.1 o.2.1 o.2.2)) 51 [(0, .ref v0), (1, .int v1), (2, .int v2), (3, .int v3)] [] I J) {v0 : Nat} {v1 : Int32} {v2 : Int32} {v3 : Int32} {s0 : Nat} {s1 : Int32} {s2 : Int32} (h0 : mm_is S v0 11) (g0 : S[s0]? = some (.inl (0, mm_al S s0))) {I : mm_I} {J : mm_J} {o : Int32 × mm_I × mm_J} (h : f11_begin_90 S n rec12 rec51 v0 v1 v2 v3 s0 s1 s2 I J = some o) : mm_W l M11_begin (mm_rm (mm_rk M11_begin)) 0 0 S (mm_end S (mm_Qi o.1 o.2.1 o.2.2)) 90 [(0, .ref v0), (1, .int v1), (2, .int v2), (3, .int v3)] [.int s2, .int s1, .ref s0] I J := by
  unfold f11_begin_90 at h
  obtain ⟨hb1, h⟩ := mm_gd h
  refine mm_iast d11_begin_90 g0 (mm_inb_ok hb1) ?_
  refine mm_aload_n d11_begin_91 rfl ?_
  refine mm_getR fl_X11_48 d11_begin_92 (mm_wtR hS 50 h0 rfl rfl) ?_
  refine mm_bipush (v := 6) d11_begin_95 (by decide +kernel) ?_
  refine mm_iload_n d11_begin_97 rfl ?_
  refine mm_imul d11_begin_98 ?_
  refine mm_iload_n d11_begin_99 rfl ?_
  refine mm_iadd d11_begin_100 ?_
  refine mm_iconst (v := (-1)) d11_begin_101 (by decide +kernel) ?_
  obtain ⟨hb2, h⟩ := mm_gd h
  refine mm_iast d11_begin_102 (mm_wtA hS 15 0 h0 rfl rfl) (mm_inb_ok hb2) ?_
  refine mm_iinc (v := v3 + 1) d11_begin_103 rfl rfl rfl rfl ?_
  refine mm_goto (tgt := 51) d11_begin_106 (by decide) ?_
  refine mm_sub [(0, .ref v0), (1, .int v1), (2, .int v2), (3, .int (v3 + 1))] ⟨rfl, rfl, rfl, rfl, trivial⟩ ?_
  exact hrec51 h0 h
set_option maxHeartbeats 4000000 in
set_option maxRecDepth 100000 in
theorem ok11_begin_51_b (l : Launch) {S : mm_Sh} (hS : mm_WT S) {n : Nat}  {rec12 : Nat → Int32 → Int32 → mm_I → mm_J → Option (Int32 × mm_I × mm_J)} (hrec12 : ∀ {v0 : Nat} {v1 : Int32} {v2 : Int32} (_ : mm_is S v0 11) {I : mm_I} {J : mm_J} {o : Int32 × mm_I × mm_J}, rec12 v0 v1 v2 I J = some o → mm_W l M11_begin (mm_rm (mm_rk M11_begin)) 0 0 S (mm_end S (mm_Qi o.1 o.2.1 o.2.2)) 12 [(0, .ref v0), (1, .int v1), (2, .int v2)] [] I J) {rec51 : Nat → Int32 → Int32 → Int32 → mm_I → mm_J → Option (Int32 × mm_I × mm_J)} (hrec51 : ∀ {v0 : Nat} {v1 : Int32} {v2 : Int32} {v3 : Int32} (_ : mm_is S v0 11) {I : mm_I} {J : mm_J} {o : Int32 × mm_I × mm_J}, rec51 v0 v1 v2 v3 I J = some o → mm_W l M11_begin (mm_rm (mm_rk M11_begin)) 0 0 S (mm_end S (mm_Qi o.1 o.2.1 o.2.2)) 51 [(0, .ref v0), (1, .int v1), (2, .int v2), (3, .int v3)] [] I J) {v0 : Nat} {v1 : Int32} {v2 : Int32} {v3 : Int32} (h0 : mm_is S v0 11) {I : mm_I} {J : mm_J} {o : Int32 × mm_I × mm_J} (h : f11_begin_51_b S n rec12 rec51 v0 v1 v2 v3 I J = some o) : mm_W l M11_begin (mm_rm (mm_rk M11_begin)) 0 0 S (mm_end S (mm_Qi o.1 o.2.1 o.2.2)) 51 [(0, .ref v0), (1, .int v1), (2, .int v2), (3, .int v3)] [] I J := by
  unfold f11_begin_51_b at h
  refine mm_iload_n d11_begin_51 rfl ?_
  refine mm_bipush (v := 6) d11_begin_52 (by decide +kernel) ?_
  refine mm_icmp_ge (tgt := 109) d11_begin_54 (by decide) (fun hc1 => ?_) (fun hc1 => ?_)
  · rw [if_pos hc1] at h
    refine mm_aload_n d11_begin_109 rfl ?_
    refine mm_getR fl_X11_51 d11_begin_110 (mm_wtR hS 50 h0 rfl rfl) ?_
    refine mm_iload_n d11_begin_113 rfl ?_
    refine mm_aload_n d11_begin_114 rfl ?_
    refine mm_iload_n d11_begin_115 rfl ?_
    obtain ⟨o2, hk2, h⟩ := mm_bd h
    refine mm_cVi 11 (As := [.int v2]) (ok11_bestOf l hS h0 hk2) lk_X11_150 rfl d11_begin_116 (mm_room rfl rfl) rfl h0 rfl rfl ?_
    obtain ⟨hb3, h⟩ := mm_gd h
    refine mm_iast d11_begin_119 (mm_wtA hS 16 0 h0 rfl rfl) (mm_inb_ok hb3) ?_
    refine mm_aload_n d11_begin_120 rfl ?_
    refine mm_getR fl_X11_54 d11_begin_121 (mm_wtR hS 50 h0 rfl rfl) ?_
    refine mm_iload_n d11_begin_124 rfl ?_
    refine mm_iconst (v := (-1)) d11_begin_125 (by decide +kernel) ?_
    obtain ⟨hb4, h⟩ := mm_gd h
    refine mm_iast d11_begin_126 (mm_wtA hS 17 0 h0 rfl rfl) (mm_inb_ok hb4) ?_
    refine mm_aload_n d11_begin_127 rfl ?_
    refine mm_getR fl_X11_57 d11_begin_128 (mm_wtR hS 50 h0 rfl rfl) ?_
    refine mm_iload_n d11_begin_131 rfl ?_
    refine mm_iconst (v := 0) d11_begin_132 (by decide +kernel) ?_
    obtain ⟨hb5, h⟩ := mm_gd h
    refine mm_iast d11_begin_133 (mm_wtA hS 18 0 h0 rfl rfl) (mm_inb_ok hb5) ?_
    refine mm_aload_n d11_begin_134 rfl ?_
    refine mm_getR fl_X11_60 d11_begin_135 (mm_wtR hS 50 h0 rfl rfl) ?_
    refine mm_iload_n d11_begin_138 rfl ?_
    refine mm_iconst (v := (-1)) d11_begin_139 (by decide +kernel) ?_
    obtain ⟨hb6, h⟩ := mm_gd h
    refine mm_iast d11_begin_140 (mm_wtA hS 19 0 h0 rfl rfl) (mm_inb_ok hb6) ?_
    refine mm_aload_n d11_begin_141 rfl ?_
    refine mm_getR fl_X11_63 d11_begin_142 (mm_wtR hS 50 h0 rfl rfl) ?_
    refine mm_iload_n d11_begin_145 rfl ?_
    refine mm_iconst (v := 0) d11_begin_146 (by decide +kernel) ?_
    obtain ⟨hb7, h⟩ := mm_gd h
    refine mm_iast d11_begin_147 (mm_wtA hS 20 0 h0 rfl rfl) (mm_inb_ok hb7) ?_
    refine mm_aload_n d11_begin_148 rfl ?_
    refine mm_getR fl_X11_66 d11_begin_149 (mm_wtR hS 51 h0 rfl rfl) ?_
    refine mm_iload_n d11_begin_152 rfl ?_
    refine mm_iconst (v := 0) d11_begin_153 (by decide +kernel) ?_
    obtain ⟨hb8, h⟩ := mm_gd h
    refine mm_zast d11_begin_154 (mm_wtA hS 21 1 h0 rfl rfl) (mm_inb_ok hb8) (by decide) ?_
    refine mm_aload_n d11_begin_155 rfl ?_
    refine mm_getR fl_X11_69 d11_begin_156 (mm_wtR hS 51 h0 rfl rfl) ?_
    refine mm_iload_n d11_begin_159 rfl ?_
    refine mm_iconst (v := 0) d11_begin_160 (by decide +kernel) ?_
    obtain ⟨hb9, h⟩ := mm_gd h
    refine mm_zast d11_begin_161 (mm_wtA hS 22 1 h0 rfl rfl) (mm_inb_ok hb9) (by decide) ?_
    refine mm_iinc (v := v2 + 1) d11_begin_162 rfl rfl rfl rfl ?_
    refine mm_goto (tgt := 12) d11_begin_165 (by decide) ?_
    refine mm_sub [(0, .ref v0), (1, .int v1), (2, .int (v2 + 1))] ⟨rfl, rfl, rfl, trivial⟩ ?_
    exact hrec12 h0 h
  · rw [if_neg hc1] at h
    refine mm_aload_n d11_begin_57 rfl ?_
    refine mm_getR fl_X11_45 d11_begin_58 (mm_wtR hS 50 h0 rfl rfl) ?_
    refine mm_bipush (v := 6) d11_begin_61 (by decide +kernel) ?_
    refine mm_iload_n d11_begin_63 rfl ?_
    refine mm_imul d11_begin_64 ?_
    refine mm_iload_n d11_begin_65 rfl ?_
    refine mm_iadd d11_begin_66 ?_
    refine mm_iload_n d11_begin_67 rfl ?_
    refine mm_aload_n d11_begin_68 rfl ?_
    refine mm_getI fl_X11_140 d11_begin_69 (mm_wtI hS h0 rfl) ?_
    refine mm_icmp_ge (tgt := 89) d11_begin_72 (by decide) (fun hc10 => ?_) (fun hc10 => ?_)
    · rw [if_pos hc10] at h
      refine mm_iconst (v := 0) d11_begin_89 (by decide +kernel) ?_
      refine mm_sub [(0, .ref v0), (1, .int v1), (2, .int v2), (3, .int v3)] ⟨rfl, rfl, rfl, rfl, trivial⟩ ?_
      exact ok11_begin_90 l hS hrec12 hrec51 h0 (mm_wtA hS 14 0 h0 rfl rfl) h
    · rw [if_neg hc10] at h
      refine mm_aload_n d11_begin_75 rfl ?_
      refine mm_getR fl_X11_16 d11_begin_76 (mm_wtR hS 50 h0 rfl rfl) ?_
      refine mm_bipush (v := 6) d11_begin_79 (by decide +kernel) ?_
      refine mm_iload_n d11_begin_81 rfl ?_
      refine mm_imul d11_begin_82 ?_
      refine mm_iload_n d11_begin_83 rfl ?_
      refine mm_iadd d11_begin_84 ?_
      obtain ⟨hb11, h⟩ := mm_gd h
      refine mm_iald d11_begin_85 (mm_wtA hS 4 0 h0 rfl rfl) (mm_inb_ok hb11) ?_
      refine mm_goto (tgt := 90) d11_begin_86 (by decide) ?_
      refine mm_sub [(0, .ref v0), (1, .int v1), (2, .int v2), (3, .int v3)] ⟨rfl, rfl, rfl, rfl, trivial⟩ ?_
      exact ok11_begin_90 l hS hrec12 hrec51 h0 (mm_wtA hS 14 0 h0 rfl rfl) h
set_option maxHeartbeats 4000000 in
set_option maxRecDepth 100000 in
theorem ok11_begin_51 (l : Launch) {S : mm_Sh} (hS : mm_WT S) {n : Nat}  {rec12 : Nat → Int32 → Int32 → mm_I → mm_J → Option (Int32 × mm_I × mm_J)} (hrec12 : ∀ {v0 : Nat} {v1 : Int32} {v2 : Int32} (_ : mm_is S v0 11) {I : mm_I} {J : mm_J} {o : Int32 × mm_I × mm_J}, rec12 v0 v1 v2 I J = some o → mm_W l M11_begin (mm_rm (mm_rk M11_begin)) 0 0 S (mm_end S (mm_Qi o.1 o.2.1 o.2.2)) 12 [(0, .ref v0), (1, .int v1), (2, .int v2)] [] I J) : ∀ (k : Nat) {v0 : Nat} {v1 : Int32} {v2 : Int32} {v3 : Int32} (h0 : mm_is S v0 11) {I : mm_I} {J : mm_J} {o : Int32 × mm_I × mm_J}, f11_begin_51 S n rec12 k v0 v1 v2 v3 I J = some o → mm_W l M11_begin (mm_rm (mm_rk M11_begin)) 0 0 S (mm_end S (mm_Qi o.1 o.2.1 o.2.2)) 51 [(0, .ref v0), (1, .int v1), (2, .int v2), (3, .int v3)] [] I J := by
  intro k
  induction k with
  | zero =>
    intros
    rename_i h
    cases h
  | succ k ih =>
    intro v0 v1 v2 v3 h0 I J o h
    exact ok11_begin_51_b l hS hrec12 (fun {v0 v1 v2 v3} h0 {I J o} h => ih h0 h) h0 h
set_option maxHeartbeats 4000000 in
set_option maxRecDepth 100000 in
theorem ok11_begin_48 (l : Launch) {S : mm_Sh} (hS : mm_WT S) {n : Nat}  {rec12 : Nat → Int32 → Int32 → mm_I → mm_J → Option (Int32 × mm_I × mm_J)} (hrec12 : ∀ {v0 : Nat} {v1 : Int32} {v2 : Int32} (_ : mm_is S v0 11) {I : mm_I} {J : mm_J} {o : Int32 × mm_I × mm_J}, rec12 v0 v1 v2 I J = some o → mm_W l M11_begin (mm_rm (mm_rk M11_begin)) 0 0 S (mm_end S (mm_Qi o.1 o.2.1 o.2.2)) 12 [(0, .ref v0), (1, .int v1), (2, .int v2)] [] I J) {v0 : Nat} {v1 : Int32} {v2 : Int32} {s0 : Nat} {s1 : Int32} {s2 : Int32} (h0 : mm_is S v0 11) (g0 : S[s0]? = some (.inl (1, mm_al S s0))) {I : mm_I} {J : mm_J} {o : Int32 × mm_I × mm_J} (h : f11_begin_48 S n rec12 v0 v1 v2 s0 s1 s2 I J = some o) : mm_W l M11_begin (mm_rm (mm_rk M11_begin)) 0 0 S (mm_end S (mm_Qi o.1 o.2.1 o.2.2)) 48 [(0, .ref v0), (1, .int v1), (2, .int v2)] [.int s2, .int s1, .ref s0] I J := by
  unfold f11_begin_48 at h
  obtain ⟨hb1, h⟩ := mm_gd h
  obtain ⟨hy1, h⟩ := mm_gd h
  refine mm_zast d11_begin_48 g0 (mm_inb_ok hb1) (mm_bit_ok hy1) ?_
  refine mm_iconst (v := 0) d11_begin_49 (by decide +kernel) ?_
  refine mm_istore_n d11_begin_50 rfl rfl ?_
  refine mm_sub [(0, .ref v0), (1, .int v1), (2, .int v2), (3, .int 0)] ⟨rfl, rfl, rfl, rfl, trivial⟩ ?_
  exact ok11_begin_51 l hS hrec12 n h0 h
set_option maxHeartbeats 4000000 in
set_option maxRecDepth 100000 in
theorem ok11_begin_12_b (l : Launch) {S : mm_Sh} (hS : mm_WT S) {n : Nat}  {rec12 : Nat → Int32 → Int32 → mm_I → mm_J → Option (Int32 × mm_I × mm_J)} (hrec12 : ∀ {v0 : Nat} {v1 : Int32} {v2 : Int32} (_ : mm_is S v0 11) {I : mm_I} {J : mm_J} {o : Int32 × mm_I × mm_J}, rec12 v0 v1 v2 I J = some o → mm_W l M11_begin (mm_rm (mm_rk M11_begin)) 0 0 S (mm_end S (mm_Qi o.1 o.2.1 o.2.2)) 12 [(0, .ref v0), (1, .int v1), (2, .int v2)] [] I J) {v0 : Nat} {v1 : Int32} {v2 : Int32} (h0 : mm_is S v0 11) {I : mm_I} {J : mm_J} {o : Int32 × mm_I × mm_J} (h : f11_begin_12_b S n rec12 v0 v1 v2 I J = some o) : mm_W l M11_begin (mm_rm (mm_rk M11_begin)) 0 0 S (mm_end S (mm_Qi o.1 o.2.1 o.2.2)) 12 [(0, .ref v0), (1, .int v1), (2, .int v2)] [] I J := by
  unfold f11_begin_12_b at h
  refine mm_iload_n d11_begin_12 rfl ?_
  refine mm_bipush (v := 8) d11_begin_13 (by decide +kernel) ?_
  refine mm_icmp_ge (tgt := 168) d11_begin_15 (by decide) (fun hc1 => ?_) (fun hc1 => ?_)
  · rw [if_pos hc1] at h
    refine mm_iload_n d11_begin_168 rfl ?_
    have h := Option.some.inj h
    subst h
    exact mm_iret rfl d11_begin_169 ⟨rfl, rfl, rfl⟩
  · rw [if_neg hc1] at h
    refine mm_aload_n d11_begin_18 rfl ?_
    refine mm_getR fl_X11_38 d11_begin_19 (mm_wtR hS 50 h0 rfl rfl) ?_
    refine mm_iload_n d11_begin_22 rfl ?_
    refine mm_aload_n d11_begin_23 rfl ?_
    refine mm_getR fl_X11_13 d11_begin_24 (mm_wtR hS 50 h0 rfl rfl) ?_
    refine mm_iload_n d11_begin_27 rfl ?_
    obtain ⟨hb2, h⟩ := mm_gd h
    refine mm_iald d11_begin_28 (mm_wtA hS 3 0 h0 rfl rfl) (mm_inb_ok hb2) ?_
    obtain ⟨hb3, h⟩ := mm_gd h
    refine mm_iast d11_begin_29 (mm_wtA hS 12 0 h0 rfl rfl) (mm_inb_ok hb3) ?_
    refine mm_aload_n d11_begin_30 rfl ?_
    refine mm_getR fl_X11_41 d11_begin_31 (mm_wtR hS 51 h0 rfl rfl) ?_
    refine mm_iload_n d11_begin_34 rfl ?_
    refine mm_iload_n d11_begin_35 rfl ?_
    refine mm_aload_n d11_begin_36 rfl ?_
    refine mm_getI fl_X11_140 d11_begin_37 (mm_wtI hS h0 rfl) ?_
    refine mm_icmp_ge (tgt := 47) d11_begin_40 (by decide) (fun hc4 => ?_) (fun hc4 => ?_)
    · rw [if_pos hc4] at h
      refine mm_iconst (v := 0) d11_begin_47 (by decide +kernel) ?_
      refine mm_sub [(0, .ref v0), (1, .int v1), (2, .int v2)] ⟨rfl, rfl, rfl, trivial⟩ ?_
      exact ok11_begin_48 l hS hrec12 h0 (mm_wtA hS 13 1 h0 rfl rfl) h
    · rw [if_neg hc4] at h
      refine mm_iconst (v := 1) d11_begin_43 (by decide +kernel) ?_
      refine mm_goto (tgt := 48) d11_begin_44 (by decide) ?_
      refine mm_sub [(0, .ref v0), (1, .int v1), (2, .int v2)] ⟨rfl, rfl, rfl, trivial⟩ ?_
      exact ok11_begin_48 l hS hrec12 h0 (mm_wtA hS 13 1 h0 rfl rfl) h
set_option maxHeartbeats 4000000 in
set_option maxRecDepth 100000 in
theorem ok11_begin_12 (l : Launch) {S : mm_Sh} (hS : mm_WT S) {n : Nat}  : ∀ (k : Nat) {v0 : Nat} {v1 : Int32} {v2 : Int32} (h0 : mm_is S v0 11) {I : mm_I} {J : mm_J} {o : Int32 × mm_I × mm_J}, f11_begin_12 S n k v0 v1 v2 I J = some o → mm_W l M11_begin (mm_rm (mm_rk M11_begin)) 0 0 S (mm_end S (mm_Qi o.1 o.2.1 o.2.2)) 12 [(0, .ref v0), (1, .int v1), (2, .int v2)] [] I J := by
  intro k
  induction k with
  | zero =>
    intros
    rename_i h
    cases h
  | succ k ih =>
    intro v0 v1 v2 h0 I J o h
    exact ok11_begin_12_b l hS (fun {v0 v1 v2} h0 {I J o} h => ih h0 h) h0 h
set_option maxHeartbeats 4000000 in
set_option maxRecDepth 100000 in
theorem ok11_begin (l : Launch) {S : mm_Sh} (hS : mm_WT S) {n : Nat}  {v0 : Nat} (h0 : mm_is S v0 11) {I : mm_I} {J : mm_J} {o : Int32 × mm_I × mm_J} (h : f11_begin S n v0 I J = some o) : mm_C l M11_begin S [.ref v0] I J (mm_Qi o.1 o.2.1 o.2.2) := by
  unfold f11_begin at h
  refine mm_enter rfl (by decide +kernel) rfl ?_
  refine mm_aload_n d11_begin_0 rfl ?_
  refine mm_getI fl_X11_147 d11_begin_1 (mm_wtI hS h0 rfl) ?_
  refine mm_istore_n d11_begin_4 rfl rfl ?_
  refine mm_aload_n d11_begin_5 rfl ?_
  refine mm_iconst (v := 0) d11_begin_6 (by decide +kernel) ?_
  refine mm_putI fp_X11_147 d11_begin_7 (mm_wtI hS h0 rfl) ?_
  refine mm_iconst (v := 0) d11_begin_10 (by decide +kernel) ?_
  refine mm_istore_n d11_begin_11 rfl rfl ?_
  refine mm_sub [(0, .ref v0), (1, .int (I v0 23)), (2, .int 0)] ⟨rfl, rfl, rfl, trivial⟩ ?_
  exact ok11_begin_12 l hS  n h0 h
set_option maxHeartbeats 4000000 in
set_option maxRecDepth 100000 in
theorem ok11_byGiving_112 (l : Launch) {S : mm_Sh} (hS : mm_WT S)  {s0 : Int32}  {I : mm_I} {J : mm_J} {o : Int32} (h : f11_byGiving_112 S s0 I J = some o) : mm_W l M11_byGiving (mm_rm (mm_rk M11_byGiving)) 0 0 S (mm_end S (mm_Qi o I J)) 112 [] [.int s0] I J := by
  unfold f11_byGiving_112 at h
  have h := Option.some.inj h
  subst h
  exact mm_iret rfl d11_byGiving_112 ⟨rfl, rfl, rfl⟩
set_option maxHeartbeats 4000000 in
set_option maxRecDepth 100000 in
theorem ok11_byGiving_94 (l : Launch) {S : mm_Sh} (hS : mm_WT S)  {s0 : Int32}  {I : mm_I} {J : mm_J} {o : Int32} (h : f11_byGiving_94 S s0 I J = some o) : mm_W l M11_byGiving (mm_rm (mm_rk M11_byGiving)) 0 0 S (mm_end S (mm_Qi o I J)) 94 [] [.int s0] I J := by
  unfold f11_byGiving_94 at h
  refine mm_istore d11_byGiving_94 rfl rfl ?_
  refine mm_iload d11_byGiving_96 rfl ?_
  refine mm_ldcw (v := 1000000) d11_byGiving_98 kX11_354 ?_
  refine mm_icmp_le (tgt := 110) d11_byGiving_101 (by decide) (fun hc1 => ?_) (fun hc1 => ?_)
  · rw [if_pos hc1] at h
    refine mm_iload d11_byGiving_110 rfl ?_
    refine mm_sub [] trivial ?_
    exact ok11_byGiving_112 l hS   h
  · rw [if_neg hc1] at h
    refine mm_ldcw (v := 1000000) d11_byGiving_104 kX11_354 ?_
    refine mm_goto (tgt := 112) d11_byGiving_107 (by decide) ?_
    refine mm_sub [] trivial ?_
    exact ok11_byGiving_112 l hS   h
set_option maxHeartbeats 4000000 in
set_option maxRecDepth 100000 in
theorem ok11_byGiving_53 (l : Launch) {S : mm_Sh} (hS : mm_WT S)  {v0 : Nat} {v1 : Int32} {v2 : Int32} {v3 : Int32} {s0 : Int32} (h0 : mm_is S v0 11) {I : mm_I} {J : mm_J} {o : Int32} (h : f11_byGiving_53 S v0 v1 v2 v3 s0 I J = some o) : mm_W l M11_byGiving (mm_rm (mm_rk M11_byGiving)) 0 0 S (mm_end S (mm_Qi o I J)) 53 [(0, .ref v0), (1, .int v1), (2, .int v2), (3, .int v3)] [.int s0] I J := by
  unfold f11_byGiving_53 at h
  refine mm_istore d11_byGiving_53 rfl rfl ?_
  refine mm_iload d11_byGiving_55 rfl ?_
  refine mm_if_eq (tgt := 91) d11_byGiving_57 (by decide) (fun hc1 => ?_) (fun hc1 => ?_)
  · rw [if_pos hc1] at h
    refine mm_ldcw (v := 1000000) d11_byGiving_91 kX11_354 ?_
    refine mm_sub [] trivial ?_
    exact ok11_byGiving_94 l hS   h
  · rw [if_neg hc1] at h
    refine mm_aload_n d11_byGiving_60 rfl ?_
    refine mm_getR fl_X11_96 d11_byGiving_61 (mm_wtR hS 50 h0 rfl rfl) ?_
    refine mm_sipush (v := 256) d11_byGiving_64 (by decide +kernel) ?_
    refine mm_iload_n d11_byGiving_67 rfl ?_
    refine mm_iconst (v := 1) d11_byGiving_68 (by decide +kernel) ?_
    refine mm_iadd d11_byGiving_69 ?_
    refine mm_imul d11_byGiving_70 ?_
    refine mm_iload_n d11_byGiving_71 rfl ?_
    refine mm_iadd d11_byGiving_72 ?_
    refine mm_aload_n d11_byGiving_73 rfl ?_
    refine mm_getR fl_X11_99 d11_byGiving_74 (mm_wtR hS 50 h0 rfl rfl) ?_
    refine mm_iload_n d11_byGiving_77 rfl ?_
    obtain ⟨hb2, h⟩ := mm_gd h
    refine mm_iald d11_byGiving_78 (mm_wtA hS 43 0 h0 rfl rfl) (mm_inb_ok hb2) ?_
    refine mm_isub d11_byGiving_79 ?_
    obtain ⟨hb3, h⟩ := mm_gd h
    refine mm_iald d11_byGiving_80 (mm_wtA hS 42 0 h0 rfl rfl) (mm_inb_ok hb3) ?_
    refine mm_aload_n d11_byGiving_81 rfl ?_
    refine mm_iload_n d11_byGiving_82 rfl ?_
    refine mm_iload_n d11_byGiving_83 rfl ?_
    obtain ⟨o4, hk4, h⟩ := mm_bd h
    refine mm_cVi 11 (As := [.int v1, .int v3]) (ok11_costOf l hS h0 hk4) lk_X11_362 rfl d11_byGiving_84 (mm_room rfl rfl) rfl h0 rfl rfl ?_
    refine mm_iadd d11_byGiving_87 ?_
    refine mm_goto (tgt := 94) d11_byGiving_88 (by decide) ?_
    refine mm_sub [] trivial ?_
    exact ok11_byGiving_94 l hS   h
set_option maxHeartbeats 4000000 in
set_option maxRecDepth 100000 in
theorem ok11_byGiving_52 (l : Launch) {S : mm_Sh} (hS : mm_WT S)  {v0 : Nat} {v1 : Int32} {v2 : Int32} {v3 : Int32} (h0 : mm_is S v0 11) {I : mm_I} {J : mm_J} {o : Int32} (h : f11_byGiving_52 S v0 v1 v2 v3 I J = some o) : mm_W l M11_byGiving (mm_rm (mm_rk M11_byGiving)) 0 0 S (mm_end S (mm_Qi o I J)) 52 [(0, .ref v0), (1, .int v1), (2, .int v2), (3, .int v3)] [] I J := by
  unfold f11_byGiving_52 at h
  refine mm_iconst (v := 0) d11_byGiving_52 (by decide +kernel) ?_
  refine mm_sub [(0, .ref v0), (1, .int v1), (2, .int v2), (3, .int v3)] ⟨rfl, rfl, rfl, rfl, trivial⟩ ?_
  exact ok11_byGiving_53 l hS  h0 h
set_option maxHeartbeats 4000000 in
set_option maxRecDepth 100000 in
theorem ok11_byGiving (l : Launch) {S : mm_Sh} (hS : mm_WT S)  {v0 : Nat} {v1 : Int32} {v2 : Int32} {v3 : Int32} (h0 : mm_is S v0 11) {I : mm_I} {J : mm_J} {o : Int32} (h : f11_byGiving S v0 v1 v2 v3 I J = some o) : mm_C l M11_byGiving S [.ref v0, .int v1, .int v2, .int v3] I J (mm_Qi o I J) := by
  unfold f11_byGiving at h
  refine mm_enter rfl (by decide +kernel) rfl ?_
  refine mm_iload_n d11_byGiving_0 rfl ?_
  refine mm_if_ge (tgt := 19) d11_byGiving_1 (by decide) (fun hc1 => ?_) (fun hc1 => ?_)
  · rw [if_pos hc1] at h
    refine mm_aload_n d11_byGiving_19 rfl ?_
    refine mm_getR fl_X11_41 d11_byGiving_20 (mm_wtR hS 51 h0 rfl rfl) ?_
    refine mm_iload_n d11_byGiving_23 rfl ?_
    obtain ⟨hb2, h⟩ := mm_gd h
    refine mm_zald d11_byGiving_24 (mm_wtA hS 13 1 h0 rfl rfl) (mm_inb_ok hb2) ?_
    refine mm_if_eq (tgt := 52) d11_byGiving_25 (by decide) (fun hc3 => ?_) (fun hc3 => ?_)
    · rw [if_pos hc3] at h
      refine mm_sub [(0, .ref v0), (1, .int v1), (2, .int v2), (3, .int v3)] ⟨rfl, rfl, rfl, rfl, trivial⟩ ?_
      exact ok11_byGiving_52 l hS  h0 h
    · rw [if_neg hc3] at h
      refine mm_iload_n d11_byGiving_28 rfl ?_
      refine mm_aload_n d11_byGiving_29 rfl ?_
      refine mm_getR fl_X11_99 d11_byGiving_30 (mm_wtR hS 50 h0 rfl rfl) ?_
      refine mm_iload_n d11_byGiving_33 rfl ?_
      obtain ⟨hb4, h⟩ := mm_gd h
      refine mm_iald d11_byGiving_34 (mm_wtA hS 43 0 h0 rfl rfl) (mm_inb_ok hb4) ?_
      obtain ⟨hz8, h⟩ := mm_gz h
      refine mm_idiv d11_byGiving_35 hz8 ?_
      refine mm_aload_n d11_byGiving_36 rfl ?_
      refine mm_getR fl_X11_72 d11_byGiving_37 (mm_wtR hS 50 h0 rfl rfl) ?_
      refine mm_iload_n d11_byGiving_40 rfl ?_
      obtain ⟨hb5, h⟩ := mm_gd h
      refine mm_iald d11_byGiving_41 (mm_wtA hS 25 0 h0 rfl rfl) (mm_inb_ok hb5) ?_
      refine mm_iconst (v := 1) d11_byGiving_42 (by decide +kernel) ?_
      refine mm_iadd d11_byGiving_43 ?_
      obtain ⟨hz7, h⟩ := mm_gz h
      refine mm_irem d11_byGiving_44 hz7 ?_
      refine mm_if_le (tgt := 52) d11_byGiving_45 (by decide) (fun hc6 => ?_) (fun hc6 => ?_)
      · rw [if_pos hc6] at h
        refine mm_sub [(0, .ref v0), (1, .int v1), (2, .int v2), (3, .int v3)] ⟨rfl, rfl, rfl, rfl, trivial⟩ ?_
        exact ok11_byGiving_52 l hS  h0 h
      · rw [if_neg hc6] at h
        refine mm_iconst (v := 1) d11_byGiving_48 (by decide +kernel) ?_
        refine mm_goto (tgt := 53) d11_byGiving_49 (by decide) ?_
        refine mm_sub [(0, .ref v0), (1, .int v1), (2, .int v2), (3, .int v3)] ⟨rfl, rfl, rfl, rfl, trivial⟩ ?_
        exact ok11_byGiving_53 l hS  h0 h
  · rw [if_neg hc1] at h
    refine mm_aload_n d11_byGiving_4 rfl ?_
    refine mm_getR fl_X11_96 d11_byGiving_5 (mm_wtR hS 50 h0 rfl rfl) ?_
    refine mm_sipush (v := 256) d11_byGiving_8 (by decide +kernel) ?_
    refine mm_iload_n d11_byGiving_11 rfl ?_
    refine mm_iconst (v := 1) d11_byGiving_12 (by decide +kernel) ?_
    refine mm_iadd d11_byGiving_13 ?_
    refine mm_imul d11_byGiving_14 ?_
    refine mm_iload_n d11_byGiving_15 rfl ?_
    refine mm_iadd d11_byGiving_16 ?_
    obtain ⟨hb9, h⟩ := mm_gd h
    refine mm_iald d11_byGiving_17 (mm_wtA hS 42 0 h0 rfl rfl) (mm_inb_ok hb9) ?_
    have h := Option.some.inj h
    subst h
    exact mm_iret rfl d11_byGiving_18 ⟨rfl, rfl, rfl⟩
set_option maxHeartbeats 4000000 in
set_option maxRecDepth 100000 in
theorem ok11_gainBy_73 (l : Launch) {S : mm_Sh} (hS : mm_WT S) {n : Nat}  {s0 : Int32}  {I : mm_I} {J : mm_J} {o : Int32} (h : f11_gainBy_73 S n s0 I J = some o) : mm_W l M11_gainBy (mm_rm (mm_rk M11_gainBy)) 0 0 S (mm_end S (mm_Qi o I J)) 73 [] [.int s0] I J := by
  unfold f11_gainBy_73 at h
  have h := Option.some.inj h
  subst h
  exact mm_iret rfl d11_gainBy_73 ⟨rfl, rfl, rfl⟩
set_option maxHeartbeats 4000000 in
set_option maxRecDepth 100000 in
theorem ok11_gainBy_67 (l : Launch) {S : mm_Sh} (hS : mm_WT S) {n : Nat}    {I : mm_I} {J : mm_J} {o : Int32} (h : f11_gainBy_67 S n  I J = some o) : mm_W l M11_gainBy (mm_rm (mm_rk M11_gainBy)) 0 0 S (mm_end S (mm_Qi o I J)) 67 [] [] I J := by
  unfold f11_gainBy_67 at h
  refine mm_iconst (v := 0) d11_gainBy_67 (by decide +kernel) ?_
  refine mm_goto (tgt := 73) d11_gainBy_68 (by decide) ?_
  refine mm_sub [] trivial ?_
  exact ok11_gainBy_73 l hS   h
set_option maxHeartbeats 4000000 in
set_option maxRecDepth 100000 in
theorem ok11_gainBy (l : Launch) {S : mm_Sh} (hS : mm_WT S) {n : Nat}  {v0 : Nat} {v1 : Int32} {v2 : Int32} (h0 : mm_is S v0 11) {I : mm_I} {J : mm_J} {o : Int32} (h : f11_gainBy S n v0 v1 v2 I J = some o) : mm_C l M11_gainBy S [.ref v0, .int v1, .int v2] I J (mm_Qi o I J) := by
  unfold f11_gainBy at h
  refine mm_enter rfl (by decide +kernel) rfl ?_
  refine mm_aload_n d11_gainBy_0 rfl ?_
  refine mm_iload_n d11_gainBy_1 rfl ?_
  obtain ⟨o1, hk1, h⟩ := mm_bd h
  refine mm_cVi 11 (As := [.int v1]) (ok11_leastLiked l hS h0 hk1) lk_X11_333 rfl d11_gainBy_2 (mm_room rfl rfl) rfl h0 rfl rfl ?_
  refine mm_istore_n d11_gainBy_5 rfl rfl ?_
  refine mm_aload_n d11_gainBy_6 rfl ?_
  refine mm_iload_n d11_gainBy_7 rfl ?_
  obtain ⟨o2, hk2, h⟩ := mm_bd h
  refine mm_cVi 11 (As := [.int v2]) (ok11_leastLiked l hS h0 hk2) lk_X11_333 rfl d11_gainBy_8 (mm_room rfl rfl) rfl h0 rfl rfl ?_
  refine mm_istore d11_gainBy_11 rfl rfl ?_
  refine mm_aload_n d11_gainBy_13 rfl ?_
  refine mm_getR fl_X11_19 d11_gainBy_14 (mm_wtR hS 50 h0 rfl rfl) ?_
  refine mm_bipush (v := 6) d11_gainBy_17 (by decide +kernel) ?_
  refine mm_iload_n d11_gainBy_19 rfl ?_
  refine mm_imul d11_gainBy_20 ?_
  refine mm_iload d11_gainBy_21 rfl ?_
  refine mm_iadd d11_gainBy_23 ?_
  obtain ⟨hb3, h⟩ := mm_gd h
  refine mm_iald d11_gainBy_24 (mm_wtA hS 5 0 h0 rfl rfl) (mm_inb_ok hb3) ?_
  refine mm_aload_n d11_gainBy_25 rfl ?_
  refine mm_getR fl_X11_19 d11_gainBy_26 (mm_wtR hS 50 h0 rfl rfl) ?_
  refine mm_bipush (v := 6) d11_gainBy_29 (by decide +kernel) ?_
  refine mm_iload_n d11_gainBy_31 rfl ?_
  refine mm_imul d11_gainBy_32 ?_
  refine mm_iload_n d11_gainBy_33 rfl ?_
  refine mm_iadd d11_gainBy_34 ?_
  obtain ⟨hb4, h⟩ := mm_gd h
  refine mm_iald d11_gainBy_35 (mm_wtA hS 5 0 h0 rfl rfl) (mm_inb_ok hb4) ?_
  refine mm_isub d11_gainBy_36 ?_
  refine mm_istore d11_gainBy_37 rfl rfl ?_
  refine mm_aload_n d11_gainBy_39 rfl ?_
  refine mm_iload_n d11_gainBy_40 rfl ?_
  refine mm_iload d11_gainBy_41 rfl ?_
  obtain ⟨o5, hk5, h⟩ := mm_bd h
  refine mm_cVi 11 (As := [.int v1, .int o2]) (ok11_knows l hS h0 hk5) lk_X11_143 rfl d11_gainBy_43 (mm_room rfl rfl) rfl h0 rfl rfl ?_
  refine mm_if_ne (tgt := 67) d11_gainBy_46 (by decide) (fun hc6 => ?_) (fun hc6 => ?_)
  · rw [if_neg hc6] at h
    refine mm_sub [] trivial ?_
    exact ok11_gainBy_67 l hS   h
  · rw [if_pos hc6] at h
    refine mm_aload_n d11_gainBy_49 rfl ?_
    refine mm_getR fl_X11_7 d11_gainBy_50 (mm_wtR hS 50 h0 rfl rfl) ?_
    refine mm_iconst (v := 4) d11_gainBy_53 (by decide +kernel) ?_
    refine mm_iload d11_gainBy_54 rfl ?_
    refine mm_imul d11_gainBy_56 ?_
    obtain ⟨hb7, h⟩ := mm_gd h
    refine mm_iald d11_gainBy_57 (mm_wtA hS 1 0 h0 rfl rfl) (mm_inb_ok hb7) ?_
    refine mm_iconst (v := 3) d11_gainBy_58 (by decide +kernel) ?_
    refine mm_icmp_eq (tgt := 67) d11_gainBy_59 (by decide) (fun hc8 => ?_) (fun hc8 => ?_)
    · rw [if_pos hc8] at h
      refine mm_sub [] trivial ?_
      exact ok11_gainBy_67 l hS   h
    · rw [if_neg hc8] at h
      refine mm_iload d11_gainBy_62 rfl ?_
      refine mm_if_ge (tgt := 71) d11_gainBy_64 (by decide) (fun hc9 => ?_) (fun hc9 => ?_)
      · rw [if_pos hc9] at h
        refine mm_iload d11_gainBy_71 rfl ?_
        refine mm_sub [] trivial ?_
        exact ok11_gainBy_73 l hS   h
      · rw [if_neg hc9] at h
        refine mm_sub [] trivial ?_
        exact ok11_gainBy_67 l hS   h
set_option maxHeartbeats 4000000 in
set_option maxRecDepth 100000 in
theorem ok11_into (l : Launch) {S : mm_Sh} (hS : mm_WT S) {n : Nat}  {v0 : Nat} {v1 : Nat} {v2 : Int32} {v3 : Int32} {v4 : Int32} (h0 : mm_is S v0 11) (h1 : S[v1]? = some (.inl (0, mm_al S v1))) {I : mm_I} {J : mm_J} {o : Int32 × mm_I × mm_J} (h : f11_into S n v0 v1 v2 v3 v4 I J = some o) : mm_C l M11_into S [.ref v0, .ref v1, .int v2, .int v3, .int v4] I J (mm_Qi o.1 o.2.1 o.2.2) := by
  unfold f11_into at h
  refine mm_enter rfl (by decide +kernel) rfl ?_
  refine mm_aload_n d11_into_0 rfl ?_
  refine mm_iload_n d11_into_1 rfl ?_
  refine mm_iload d11_into_2 rfl ?_
  obtain ⟨o1, hk1, h⟩ := mm_bd h
  refine mm_cVi 11 (As := [.int v3, .int v4]) (ok11_takeNumber l hS h0 hk1) lk_X11_202 rfl d11_into_4 (mm_room rfl rfl) rfl h0 rfl rfl ?_
  refine mm_istore d11_into_7 rfl rfl ?_
  refine mm_aload_n d11_into_9 rfl ?_
  refine mm_iload_n d11_into_10 rfl ?_
  refine mm_aload_n d11_into_11 rfl ?_
  refine mm_getI fl_X11_199 d11_into_12 (mm_wtI hS h0 rfl) ?_
  obtain ⟨hb2, h⟩ := mm_gd h
  refine mm_iast d11_into_15 h1 (mm_inb_ok hb2) ?_
  refine mm_iload d11_into_16 rfl ?_
  have h := Option.some.inj h
  subst h
  exact mm_iret rfl d11_into_18 ⟨rfl, rfl, rfl⟩
set_option maxHeartbeats 4000000 in
set_option maxRecDepth 100000 in
theorem ok11_lastHand_105 (l : Launch) {S : mm_Sh} (hS : mm_WT S) {n : Nat}  {s0 : Int32}  {I : mm_I} {J : mm_J} {o : Int32} (h : f11_lastHand_105 S n s0 I J = some o) : mm_W l M11_lastHand (mm_rm (mm_rk M11_lastHand)) 0 0 S (mm_end S (mm_Qi o I J)) 105 [] [.int s0] I J := by
  unfold f11_lastHand_105 at h
  have h := Option.some.inj h
  subst h
  exact mm_iret rfl d11_lastHand_105 ⟨rfl, rfl, rfl⟩
set_option maxHeartbeats 4000000 in
set_option maxRecDepth 100000 in
theorem ok11_lastHand_45_b (l : Launch) {S : mm_Sh} (hS : mm_WT S) {n : Nat}  {rec45 : Nat → Int32 → Int32 → Int32 → Int32 → mm_I → mm_J → Option (Int32)} (hrec45 : ∀ {v0 : Nat} {v1 : Int32} {v2 : Int32} {v3 : Int32} {v4 : Int32} (_ : mm_is S v0 11) {I : mm_I} {J : mm_J} {o : Int32}, rec45 v0 v1 v2 v3 v4 I J = some o → mm_W l M11_lastHand (mm_rm (mm_rk M11_lastHand)) 0 0 S (mm_end S (mm_Qi o I J)) 45 [(0, .ref v0), (1, .int v1), (2, .int v2), (3, .int v3), (4, .int v4)] [] I J) {v0 : Nat} {v1 : Int32} {v2 : Int32} {v3 : Int32} {v4 : Int32} (h0 : mm_is S v0 11) {I : mm_I} {J : mm_J} {o : Int32} (h : f11_lastHand_45_b S n rec45 v0 v1 v2 v3 v4 I J = some o) : mm_W l M11_lastHand (mm_rm (mm_rk M11_lastHand)) 0 0 S (mm_end S (mm_Qi o I J)) 45 [(0, .ref v0), (1, .int v1), (2, .int v2), (3, .int v3), (4, .int v4)] [] I J := by
  unfold f11_lastHand_45_b at h
  refine mm_iload_n d11_lastHand_45 rfl ?_
  refine mm_iload d11_lastHand_46 rfl ?_
  obtain ⟨o1, hk1, h⟩ := mm_bd h
  refine mm_cSi (As := [.int v3, .int v4]) (ok11_has l hS hk1) lk_X11_294 rfl d11_lastHand_48 (mm_room rfl rfl) rfl rfl ?_
  refine mm_if_ne (tgt := 60) d11_lastHand_51 (by decide) (fun hc2 => ?_) (fun hc2 => ?_)
  · rw [if_neg hc2] at h
    refine mm_aload_n d11_lastHand_60 rfl ?_
    refine mm_getI fl_X11_35 d11_lastHand_61 (mm_wtI hS h0 rfl) ?_
    refine mm_aload_n d11_lastHand_64 rfl ?_
    refine mm_getR fl_X11_38 d11_lastHand_65 (mm_wtR hS 50 h0 rfl rfl) ?_
    refine mm_iload d11_lastHand_68 rfl ?_
    obtain ⟨hb3, h⟩ := mm_gd h
    refine mm_iald d11_lastHand_70 (mm_wtA hS 12 0 h0 rfl rfl) (mm_inb_ok hb3) ?_
    refine mm_isub d11_lastHand_71 ?_
    refine mm_istore d11_lastHand_72 rfl rfl ?_
    refine mm_iload_n d11_lastHand_74 rfl ?_
    refine mm_if_ne (tgt := 83) d11_lastHand_75 (by decide) (fun hc4 => ?_) (fun hc4 => ?_)
    · rw [if_neg hc4] at h
      refine mm_iload d11_lastHand_83 rfl ?_
      refine mm_if_ge (tgt := 92) d11_lastHand_85 (by decide) (fun hc5 => ?_) (fun hc5 => ?_)
      · rw [if_pos hc5] at h
        refine mm_aload_n d11_lastHand_92 rfl ?_
        refine mm_getR fl_X11_7 d11_lastHand_93 (mm_wtR hS 50 h0 rfl rfl) ?_
        refine mm_iconst (v := 4) d11_lastHand_96 (by decide +kernel) ?_
        refine mm_iload_n d11_lastHand_97 rfl ?_
        refine mm_imul d11_lastHand_98 ?_
        refine mm_iconst (v := 2) d11_lastHand_99 (by decide +kernel) ?_
        refine mm_iadd d11_lastHand_100 ?_
        obtain ⟨hb6, h⟩ := mm_gd h
        refine mm_iald d11_lastHand_101 (mm_wtA hS 1 0 h0 rfl rfl) (mm_inb_ok hb6) ?_
        refine mm_iload d11_lastHand_102 rfl ?_
        refine mm_imul d11_lastHand_104 ?_
        refine mm_sub [] trivial ?_
        exact ok11_lastHand_105 l hS   h
      · rw [if_neg hc5] at h
        refine mm_iconst (v := 0) d11_lastHand_88 (by decide +kernel) ?_
        refine mm_goto (tgt := 105) d11_lastHand_89 (by decide) ?_
        refine mm_sub [] trivial ?_
        exact ok11_lastHand_105 l hS   h
    · rw [if_pos hc4] at h
      refine mm_iload d11_lastHand_78 rfl ?_
      refine mm_goto (tgt := 105) d11_lastHand_80 (by decide) ?_
      refine mm_sub [] trivial ?_
      exact ok11_lastHand_105 l hS   h
  · rw [if_pos hc2] at h
    refine mm_iinc (v := v4 + 1) d11_lastHand_54 rfl rfl rfl rfl ?_
    refine mm_goto (tgt := 45) d11_lastHand_57 (by decide) ?_
    refine mm_sub [(0, .ref v0), (1, .int v1), (2, .int v2), (3, .int v3), (4, .int (v4 + 1))] ⟨rfl, rfl, rfl, rfl, rfl, trivial⟩ ?_
    exact hrec45 h0 h
set_option maxHeartbeats 4000000 in
set_option maxRecDepth 100000 in
theorem ok11_lastHand_45 (l : Launch) {S : mm_Sh} (hS : mm_WT S) {n : Nat}  : ∀ (k : Nat) {v0 : Nat} {v1 : Int32} {v2 : Int32} {v3 : Int32} {v4 : Int32} (h0 : mm_is S v0 11) {I : mm_I} {J : mm_J} {o : Int32}, f11_lastHand_45 S n k v0 v1 v2 v3 v4 I J = some o → mm_W l M11_lastHand (mm_rm (mm_rk M11_lastHand)) 0 0 S (mm_end S (mm_Qi o I J)) 45 [(0, .ref v0), (1, .int v1), (2, .int v2), (3, .int v3), (4, .int v4)] [] I J := by
  intro k
  induction k with
  | zero =>
    intros
    rename_i h
    cases h
  | succ k ih =>
    intro v0 v1 v2 v3 v4 h0 I J o h
    exact ok11_lastHand_45_b l hS (fun {v0 v1 v2 v3 v4} h0 {I J o} h => ih h0 h) h0 h
set_option maxHeartbeats 4000000 in
set_option maxRecDepth 100000 in
theorem ok11_lastHand (l : Launch) {S : mm_Sh} (hS : mm_WT S) {n : Nat}  {v0 : Nat} {v1 : Int32} {v2 : Int32} (h0 : mm_is S v0 11) {I : mm_I} {J : mm_J} {o : Int32} (h : f11_lastHand S n v0 v1 v2 I J = some o) : mm_C l M11_lastHand S [.ref v0, .int v1, .int v2] I J (mm_Qi o I J) := by
  unfold f11_lastHand at h
  refine mm_enter rfl (by decide +kernel) rfl ?_
  refine mm_aload_n d11_lastHand_0 rfl ?_
  refine mm_iload_n d11_lastHand_1 rfl ?_
  obtain ⟨o1, hk1, h⟩ := mm_bd h
  refine mm_cVi 11 (As := [.int v1]) (ok11_isTrade l hS h0 hk1) lk_X11_267 rfl d11_lastHand_2 (mm_room rfl rfl) rfl h0 rfl rfl ?_
  refine mm_if_ne (tgt := 12) d11_lastHand_5 (by decide) (fun hc2 => ?_) (fun hc2 => ?_)
  · rw [if_neg hc2] at h
    refine mm_iload_n d11_lastHand_12 rfl ?_
    refine mm_i2l d11_lastHand_13 ?_
    refine mm_lconst (v := 0) d11_lastHand_14 (by decide +kernel) ?_
    refine mm_lconst (v := 1) d11_lastHand_15 (by decide +kernel) ?_
    obtain ⟨o3, hk3, h⟩ := mm_bd h
    refine mm_cSi (As := [.long v2.toInt64, .long 0, .long 1]) (ok11_in l hS hk3) lk_X11_136 rfl d11_lastHand_16 (mm_room rfl rfl) rfl rfl ?_
    refine mm_if_ne (tgt := 25) d11_lastHand_19 (by decide) (fun hc4 => ?_) (fun hc4 => ?_)
    · rw [if_neg hc4] at h
      refine mm_aload_n d11_lastHand_25 rfl ?_
      refine mm_iload_n d11_lastHand_26 rfl ?_
      refine mm_iconst (v := 1) d11_lastHand_27 (by decide +kernel) ?_
      obtain ⟨o5, hk5, h⟩ := mm_bd h
      refine mm_cVi 11 (As := [.int v1, .int 1]) (ok11_knowers l hS h0 hk5) lk_X11_258 rfl d11_lastHand_28 (mm_room rfl rfl) rfl h0 rfl rfl ?_
      refine mm_istore_n d11_lastHand_31 rfl rfl ?_
      refine mm_iload_n d11_lastHand_32 rfl ?_
      obtain ⟨o6, hk6, h⟩ := mm_bd h
      refine mm_cSi (As := [.int o5]) (ok11_bits l hS hk6) lk_X11_278 rfl d11_lastHand_33 (mm_room rfl rfl) rfl rfl ?_
      refine mm_iconst (v := 1) d11_lastHand_36 (by decide +kernel) ?_
      refine mm_icmp_eq (tgt := 42) d11_lastHand_37 (by decide) (fun hc7 => ?_) (fun hc7 => ?_)
      · rw [if_pos hc7] at h
        refine mm_iconst (v := 0) d11_lastHand_42 (by decide +kernel) ?_
        refine mm_istore d11_lastHand_43 rfl rfl ?_
        refine mm_sub [(0, .ref v0), (1, .int v1), (2, .int v2), (3, .int o5), (4, .int 0)] ⟨rfl, rfl, rfl, rfl, rfl, trivial⟩ ?_
        exact ok11_lastHand_45 l hS  n h0 h
      · rw [if_neg hc7] at h
        refine mm_iconst (v := (-1)) d11_lastHand_40 (by decide +kernel) ?_
        have h := Option.some.inj h
        subst h
        exact mm_iret rfl d11_lastHand_41 ⟨rfl, rfl, rfl⟩
    · rw [if_pos hc4] at h
      refine mm_ldc (v := (-1000000002)) d11_lastHand_22 kX11_156 ?_
      have h := Option.some.inj h
      subst h
      exact mm_iret rfl d11_lastHand_24 ⟨rfl, rfl, rfl⟩
  · rw [if_pos hc2] at h
    refine mm_ldcw (v := (-1000000001)) d11_lastHand_8 kX11_271 ?_
    have h := Option.some.inj h
    subst h
    exact mm_iret rfl d11_lastHand_11 ⟨rfl, rfl, rfl⟩
set_option maxHeartbeats 4000000 in
set_option maxRecDepth 100000 in
theorem ok11_like_33 (l : Launch) {S : mm_Sh} (hS : mm_WT S)  {s0 : Int32}  {I : mm_I} {J : mm_J} {o : Int32} (h : f11_like_33 S s0 I J = some o) : mm_W l M11_like (mm_rm (mm_rk M11_like)) 0 0 S (mm_end S (mm_Qi o I J)) 33 [] [.int s0] I J := by
  unfold f11_like_33 at h
  have h := Option.some.inj h
  subst h
  exact mm_iret rfl d11_like_33 ⟨rfl, rfl, rfl⟩
set_option maxHeartbeats 4000000 in
set_option maxRecDepth 100000 in
theorem ok11_like_30 (l : Launch) {S : mm_Sh} (hS : mm_WT S)    {I : mm_I} {J : mm_J} {o : Int32} (h : f11_like_30 S  I J = some o) : mm_W l M11_like (mm_rm (mm_rk M11_like)) 0 0 S (mm_end S (mm_Qi o I J)) 30 [] [] I J := by
  unfold f11_like_30 at h
  refine mm_ldcw (v := (-1000000001)) d11_like_30 kX11_271 ?_
  refine mm_sub [] trivial ?_
  exact ok11_like_33 l hS   h
set_option maxHeartbeats 4000000 in
set_option maxRecDepth 100000 in
theorem ok11_like (l : Launch) {S : mm_Sh} (hS : mm_WT S)  {v0 : Nat} {v1 : Int32} {v2 : Int32} (h0 : mm_is S v0 11) {I : mm_I} {J : mm_J} {o : Int32} (h : f11_like S v0 v1 v2 I J = some o) : mm_C l M11_like S [.ref v0, .int v1, .int v2] I J (mm_Qi o I J) := by
  unfold f11_like at h
  refine mm_enter rfl (by decide +kernel) rfl ?_
  refine mm_aload_n d11_like_0 rfl ?_
  refine mm_iload_n d11_like_1 rfl ?_
  obtain ⟨o1, hk1, h⟩ := mm_bd h
  refine mm_cVi 11 (As := [.int v1]) (ok11_isPerson l hS h0 hk1) lk_X11_272 rfl d11_like_2 (mm_room rfl rfl) rfl h0 rfl rfl ?_
  refine mm_if_eq (tgt := 30) d11_like_5 (by decide) (fun hc2 => ?_) (fun hc2 => ?_)
  · rw [if_pos hc2] at h
    refine mm_sub [] trivial ?_
    exact ok11_like_30 l hS   h
  · rw [if_neg hc2] at h
    refine mm_aload_n d11_like_8 rfl ?_
    refine mm_iload_n d11_like_9 rfl ?_
    obtain ⟨o3, hk3, h⟩ := mm_bd h
    refine mm_cVi 11 (As := [.int v2]) (ok11_isTrade l hS h0 hk3) lk_X11_267 rfl d11_like_10 (mm_room rfl rfl) rfl h0 rfl rfl ?_
    refine mm_if_eq (tgt := 30) d11_like_13 (by decide) (fun hc4 => ?_) (fun hc4 => ?_)
    · rw [if_pos hc4] at h
      refine mm_sub [] trivial ?_
      exact ok11_like_30 l hS   h
    · rw [if_neg hc4] at h
      refine mm_aload_n d11_like_16 rfl ?_
      refine mm_getR fl_X11_19 d11_like_17 (mm_wtR hS 50 h0 rfl rfl) ?_
      refine mm_bipush (v := 6) d11_like_20 (by decide +kernel) ?_
      refine mm_iload_n d11_like_22 rfl ?_
      refine mm_imul d11_like_23 ?_
      refine mm_iload_n d11_like_24 rfl ?_
      refine mm_iadd d11_like_25 ?_
      obtain ⟨hb5, h⟩ := mm_gd h
      refine mm_iald d11_like_26 (mm_wtA hS 5 0 h0 rfl rfl) (mm_inb_ok hb5) ?_
      refine mm_goto (tgt := 33) d11_like_27 (by decide) ?_
      refine mm_sub [] trivial ?_
      exact ok11_like_33 l hS   h
set_option maxHeartbeats 4000000 in
set_option maxRecDepth 100000 in
theorem ok11_make (l : Launch) {S : mm_Sh} (hS : mm_WT S)  {v0 : Nat} {v1 : Int32} {v2 : Int32} (h0 : mm_is S v0 11) {I : mm_I} {J : mm_J} {o : Int32 × mm_I × mm_J} (h : f11_make S v0 v1 v2 I J = some o) : mm_C l M11_make S [.ref v0, .int v1, .int v2] I J (mm_Qi o.1 o.2.1 o.2.2) := by
  unfold f11_make at h
  refine mm_enter rfl (by decide +kernel) rfl ?_
  refine mm_aload_n d11_make_0 rfl ?_
  refine mm_iload_n d11_make_1 rfl ?_
  obtain ⟨o1, hk1, h⟩ := mm_bd h
  refine mm_cVi 11 (As := [.int v1]) (ok11_isTrade l hS h0 hk1) lk_X11_267 rfl d11_make_2 (mm_room rfl rfl) rfl h0 rfl rfl ?_
  refine mm_if_ne (tgt := 12) d11_make_5 (by decide) (fun hc2 => ?_) (fun hc2 => ?_)
  · rw [if_neg hc2] at h
    refine mm_iload_n d11_make_12 rfl ?_
    refine mm_i2l d11_make_13 ?_
    refine mm_lconst (v := 1) d11_make_14 (by decide +kernel) ?_
    refine mm_ldc2 (v := 100) d11_make_15 kX11_338 ?_
    obtain ⟨o3, hk3, h⟩ := mm_bd h
    refine mm_cSi (As := [.long v2.toInt64, .long 1, .long 100]) (ok11_in l hS hk3) lk_X11_136 rfl d11_make_18 (mm_room rfl rfl) rfl rfl ?_
    refine mm_if_ne (tgt := 27) d11_make_21 (by decide) (fun hc4 => ?_) (fun hc4 => ?_)
    · rw [if_neg hc4] at h
      refine mm_aload_n d11_make_27 rfl ?_
      refine mm_getI fl_X11_244 d11_make_28 (mm_wtI hS h0 rfl) ?_
      refine mm_bipush (v := 12) d11_make_31 (by decide +kernel) ?_
      refine mm_icmp_ne (tgt := 39) d11_make_33 (by decide) (fun hc5 => ?_) (fun hc5 => ?_)
      · rw [if_neg hc5] at h
        refine mm_aload_n d11_make_39 rfl ?_
        refine mm_getR fl_X11_108 d11_make_40 (mm_wtR hS 50 h0 rfl rfl) ?_
        refine mm_aload_n d11_make_43 rfl ?_
        refine mm_getI fl_X11_244 d11_make_44 (mm_wtI hS h0 rfl) ?_
        refine mm_iload_n d11_make_47 rfl ?_
        obtain ⟨hb6, h⟩ := mm_gd h
        refine mm_iast d11_make_48 (mm_wtA hS 49 0 h0 rfl rfl) (mm_inb_ok hb6) ?_
        refine mm_aload_n d11_make_49 rfl ?_
        refine mm_getR fl_X11_111 d11_make_50 (mm_wtR hS 50 h0 rfl rfl) ?_
        refine mm_aload_n d11_make_53 rfl ?_
        refine mm_getI fl_X11_244 d11_make_54 (mm_wtI hS h0 rfl) ?_
        refine mm_iload_n d11_make_57 rfl ?_
        obtain ⟨hb7, h⟩ := mm_gd h
        refine mm_iast d11_make_58 (mm_wtA hS 50 0 h0 rfl rfl) (mm_inb_ok hb7) ?_
        refine mm_aload_n d11_make_59 rfl ?_
        refine mm_dup d11_make_60 rfl ?_
        refine mm_getI fl_X11_244 d11_make_61 (mm_wtI hS h0 rfl) ?_
        refine mm_iconst (v := 1) d11_make_64 (by decide +kernel) ?_
        refine mm_iadd d11_make_65 ?_
        refine mm_putI fp_X11_244 d11_make_66 (mm_wtI hS h0 rfl) ?_
        refine mm_aload_n d11_make_69 rfl ?_
        refine mm_getI fl_X11_244 d11_make_70 (mm_wtI hS h0 rfl) ?_
        have h := Option.some.inj h
        subst h
        exact mm_iret rfl d11_make_73 ⟨rfl, rfl, rfl⟩
      · rw [if_pos hc5] at h
        refine mm_ldc (v := (-1000000004)) d11_make_36 kX11_160 ?_
        have h := Option.some.inj h
        subst h
        exact mm_iret rfl d11_make_38 ⟨rfl, rfl, rfl⟩
    · rw [if_pos hc4] at h
      refine mm_ldc (v := (-1000000002)) d11_make_24 kX11_156 ?_
      have h := Option.some.inj h
      subst h
      exact mm_iret rfl d11_make_26 ⟨rfl, rfl, rfl⟩
  · rw [if_pos hc2] at h
    refine mm_ldcw (v := (-1000000001)) d11_make_8 kX11_271 ?_
    have h := Option.some.inj h
    subst h
    exact mm_iret rfl d11_make_11 ⟨rfl, rfl, rfl⟩
set_option maxHeartbeats 4000000 in
set_option maxRecDepth 100000 in
theorem ok11_mayGive_26 (l : Launch) {S : mm_Sh} (hS : mm_WT S) {n : Nat}  {s0 : Int32}  {I : mm_I} {J : mm_J} {o : Int32} (h : f11_mayGive_26 S n s0 I J = some o) : mm_W l M11_mayGive (mm_rm (mm_rk M11_mayGive)) 0 0 S (mm_end S (mm_Qi o I J)) 26 [] [.int s0] I J := by
  unfold f11_mayGive_26 at h
  obtain ⟨hb1, h⟩ := mm_gd h
  have h := Option.some.inj h
  subst h
  exact mm_zret rfl d11_mayGive_26 (mm_bit_ok hb1) ⟨rfl, rfl, rfl⟩
set_option maxHeartbeats 4000000 in
set_option maxRecDepth 100000 in
theorem ok11_mayGive_25 (l : Launch) {S : mm_Sh} (hS : mm_WT S) {n : Nat}    {I : mm_I} {J : mm_J} {o : Int32} (h : f11_mayGive_25 S n  I J = some o) : mm_W l M11_mayGive (mm_rm (mm_rk M11_mayGive)) 0 0 S (mm_end S (mm_Qi o I J)) 25 [] [] I J := by
  unfold f11_mayGive_25 at h
  refine mm_iconst (v := 0) d11_mayGive_25 (by decide +kernel) ?_
  refine mm_sub [] trivial ?_
  exact ok11_mayGive_26 l hS   h
set_option maxHeartbeats 4000000 in
set_option maxRecDepth 100000 in
theorem ok11_mayGive_69 (l : Launch) {S : mm_Sh} (hS : mm_WT S) {n : Nat}  {s0 : Int32}  {I : mm_I} {J : mm_J} {o : Int32} (h : f11_mayGive_69 S n s0 I J = some o) : mm_W l M11_mayGive (mm_rm (mm_rk M11_mayGive)) 0 0 S (mm_end S (mm_Qi o I J)) 69 [] [.int s0] I J := by
  unfold f11_mayGive_69 at h
  obtain ⟨hb1, h⟩ := mm_gd h
  have h := Option.some.inj h
  subst h
  exact mm_zret rfl d11_mayGive_69 (mm_bit_ok hb1) ⟨rfl, rfl, rfl⟩
set_option maxHeartbeats 4000000 in
set_option maxRecDepth 100000 in
theorem ok11_mayGive_68 (l : Launch) {S : mm_Sh} (hS : mm_WT S) {n : Nat}    {I : mm_I} {J : mm_J} {o : Int32} (h : f11_mayGive_68 S n  I J = some o) : mm_W l M11_mayGive (mm_rm (mm_rk M11_mayGive)) 0 0 S (mm_end S (mm_Qi o I J)) 68 [] [] I J := by
  unfold f11_mayGive_68 at h
  refine mm_iconst (v := 0) d11_mayGive_68 (by decide +kernel) ?_
  refine mm_sub [] trivial ?_
  exact ok11_mayGive_69 l hS   h
set_option maxHeartbeats 4000000 in
set_option maxRecDepth 100000 in
theorem ok11_mayGive_112 (l : Launch) {S : mm_Sh} (hS : mm_WT S) {n : Nat}  {s0 : Int32}  {I : mm_I} {J : mm_J} {o : Int32} (h : f11_mayGive_112 S n s0 I J = some o) : mm_W l M11_mayGive (mm_rm (mm_rk M11_mayGive)) 0 0 S (mm_end S (mm_Qi o I J)) 112 [] [.int s0] I J := by
  unfold f11_mayGive_112 at h
  obtain ⟨hb1, h⟩ := mm_gd h
  have h := Option.some.inj h
  subst h
  exact mm_zret rfl d11_mayGive_112 (mm_bit_ok hb1) ⟨rfl, rfl, rfl⟩
set_option maxHeartbeats 4000000 in
set_option maxRecDepth 100000 in
theorem ok11_mayGive_111 (l : Launch) {S : mm_Sh} (hS : mm_WT S) {n : Nat}    {I : mm_I} {J : mm_J} {o : Int32} (h : f11_mayGive_111 S n  I J = some o) : mm_W l M11_mayGive (mm_rm (mm_rk M11_mayGive)) 0 0 S (mm_end S (mm_Qi o I J)) 111 [] [] I J := by
  unfold f11_mayGive_111 at h
  refine mm_iconst (v := 0) d11_mayGive_111 (by decide +kernel) ?_
  refine mm_sub [] trivial ?_
  exact ok11_mayGive_112 l hS   h
set_option maxHeartbeats 4000000 in
set_option maxRecDepth 100000 in
theorem ok11_mayGive (l : Launch) {S : mm_Sh} (hS : mm_WT S) {n : Nat}  {v0 : Nat} {v1 : Int32} {v2 : Int32} {v3 : Int32} {v4 : Int32} (h0 : mm_is S v0 11) {I : mm_I} {J : mm_J} {o : Int32} (h : f11_mayGive S n v0 v1 v2 v3 v4 I J = some o) : mm_C l M11_mayGive S [.ref v0, .int v1, .int v2, .int v3, .int v4] I J (mm_Qi o I J) := by
  unfold f11_mayGive at h
  refine mm_enter rfl (by decide +kernel) rfl ?_
  refine mm_iload_n d11_mayGive_0 rfl ?_
  refine mm_if_ge (tgt := 27) d11_mayGive_1 (by decide) (fun hc1 => ?_) (fun hc1 => ?_)
  · rw [if_pos hc1] at h
    refine mm_iload d11_mayGive_27 rfl ?_
    refine mm_if_ge (tgt := 70) d11_mayGive_29 (by decide) (fun hc2 => ?_) (fun hc2 => ?_)
    · rw [if_pos hc2] at h
      refine mm_aload_n d11_mayGive_70 rfl ?_
      refine mm_getI fl_X11_254 d11_mayGive_71 (mm_wtI hS h0 rfl) ?_
      refine mm_if_eq (tgt := 111) d11_mayGive_74 (by decide) (fun hc3 => ?_) (fun hc3 => ?_)
      · rw [if_pos hc3] at h
        refine mm_sub [] trivial ?_
        exact ok11_mayGive_111 l hS   h
      · rw [if_neg hc3] at h
        refine mm_aload_n d11_mayGive_77 rfl ?_
        refine mm_getR fl_X11_41 d11_mayGive_78 (mm_wtR hS 51 h0 rfl rfl) ?_
        refine mm_iload d11_mayGive_81 rfl ?_
        obtain ⟨hb4, h⟩ := mm_gd h
        refine mm_zald d11_mayGive_83 (mm_wtA hS 13 1 h0 rfl rfl) (mm_inb_ok hb4) ?_
        refine mm_if_eq (tgt := 111) d11_mayGive_84 (by decide) (fun hc5 => ?_) (fun hc5 => ?_)
        · rw [if_pos hc5] at h
          refine mm_sub [] trivial ?_
          exact ok11_mayGive_111 l hS   h
        · rw [if_neg hc5] at h
          refine mm_aload_n d11_mayGive_87 rfl ?_
          refine mm_iload d11_mayGive_88 rfl ?_
          refine mm_iload_n d11_mayGive_90 rfl ?_
          obtain ⟨o6, hk6, h⟩ := mm_bd h
          refine mm_cVi 11 (As := [.int v4, .int v3]) (ok11_knows l hS h0 hk6) lk_X11_143 rfl d11_mayGive_91 (mm_room rfl rfl) rfl h0 rfl rfl ?_
          refine mm_if_eq (tgt := 111) d11_mayGive_94 (by decide) (fun hc7 => ?_) (fun hc7 => ?_)
          · rw [if_pos hc7] at h
            refine mm_sub [] trivial ?_
            exact ok11_mayGive_111 l hS   h
          · rw [if_neg hc7] at h
            refine mm_aload_n d11_mayGive_97 rfl ?_
            refine mm_getR fl_X11_60 d11_mayGive_98 (mm_wtR hS 50 h0 rfl rfl) ?_
            refine mm_iload d11_mayGive_101 rfl ?_
            obtain ⟨hb8, h⟩ := mm_gd h
            refine mm_iald d11_mayGive_103 (mm_wtA hS 19 0 h0 rfl rfl) (mm_inb_ok hb8) ?_
            refine mm_if_ge (tgt := 111) d11_mayGive_104 (by decide) (fun hc9 => ?_) (fun hc9 => ?_)
            · rw [if_pos hc9] at h
              refine mm_sub [] trivial ?_
              exact ok11_mayGive_111 l hS   h
            · rw [if_neg hc9] at h
              refine mm_iconst (v := 1) d11_mayGive_107 (by decide +kernel) ?_
              refine mm_goto (tgt := 112) d11_mayGive_108 (by decide) ?_
              refine mm_sub [] trivial ?_
              exact ok11_mayGive_112 l hS   h
    · rw [if_neg hc2] at h
      refine mm_aload_n d11_mayGive_32 rfl ?_
      refine mm_iload_n d11_mayGive_33 rfl ?_
      refine mm_iload_n d11_mayGive_34 rfl ?_
      obtain ⟨o10, hk10, h⟩ := mm_bd h
      refine mm_cVi 11 (As := [.int v1, .int v3]) (ok11_knows l hS h0 hk10) lk_X11_143 rfl d11_mayGive_35 (mm_room rfl rfl) rfl h0 rfl rfl ?_
      refine mm_if_eq (tgt := 68) d11_mayGive_38 (by decide) (fun hc11 => ?_) (fun hc11 => ?_)
      · rw [if_pos hc11] at h
        refine mm_sub [] trivial ?_
        exact ok11_mayGive_68 l hS   h
      · rw [if_neg hc11] at h
        refine mm_aload_n d11_mayGive_41 rfl ?_
        refine mm_getR fl_X11_60 d11_mayGive_42 (mm_wtR hS 50 h0 rfl rfl) ?_
        refine mm_iload_n d11_mayGive_45 rfl ?_
        obtain ⟨hb12, h⟩ := mm_gd h
        refine mm_iald d11_mayGive_46 (mm_wtA hS 19 0 h0 rfl rfl) (mm_inb_ok hb12) ?_
        refine mm_if_ge (tgt := 68) d11_mayGive_47 (by decide) (fun hc13 => ?_) (fun hc13 => ?_)
        · rw [if_pos hc13] at h
          refine mm_sub [] trivial ?_
          exact ok11_mayGive_68 l hS   h
        · rw [if_neg hc13] at h
          refine mm_aload_n d11_mayGive_50 rfl ?_
          refine mm_getR fl_X11_7 d11_mayGive_51 (mm_wtR hS 50 h0 rfl rfl) ?_
          refine mm_iconst (v := 4) d11_mayGive_54 (by decide +kernel) ?_
          refine mm_iload_n d11_mayGive_55 rfl ?_
          refine mm_imul d11_mayGive_56 ?_
          refine mm_iconst (v := 3) d11_mayGive_57 (by decide +kernel) ?_
          refine mm_iadd d11_mayGive_58 ?_
          obtain ⟨hb14, h⟩ := mm_gd h
          refine mm_iald d11_mayGive_59 (mm_wtA hS 1 0 h0 rfl rfl) (mm_inb_ok hb14) ?_
          refine mm_iload_n d11_mayGive_60 rfl ?_
          refine mm_icmp_eq (tgt := 68) d11_mayGive_61 (by decide) (fun hc15 => ?_) (fun hc15 => ?_)
          · rw [if_pos hc15] at h
            refine mm_sub [] trivial ?_
            exact ok11_mayGive_68 l hS   h
          · rw [if_neg hc15] at h
            refine mm_iconst (v := 1) d11_mayGive_64 (by decide +kernel) ?_
            refine mm_goto (tgt := 69) d11_mayGive_65 (by decide) ?_
            refine mm_sub [] trivial ?_
            exact ok11_mayGive_69 l hS   h
  · rw [if_neg hc1] at h
    refine mm_iload d11_mayGive_4 rfl ?_
    refine mm_if_ge (tgt := 25) d11_mayGive_6 (by decide) (fun hc16 => ?_) (fun hc16 => ?_)
    · rw [if_pos hc16] at h
      refine mm_sub [] trivial ?_
      exact ok11_mayGive_25 l hS   h
    · rw [if_neg hc16] at h
      refine mm_aload_n d11_mayGive_9 rfl ?_
      refine mm_iload_n d11_mayGive_10 rfl ?_
      obtain ⟨o17, hk17, h⟩ := mm_bd h
      refine mm_cVi 11 (As := [.int v1]) (ok11_knownMany l hS h0 hk17) lk_X11_281 rfl d11_mayGive_11 (mm_room rfl rfl) rfl h0 rfl rfl ?_
      refine mm_aload_n d11_mayGive_14 rfl ?_
      refine mm_getI fl_X11_22 d11_mayGive_15 (mm_wtI hS h0 rfl) ?_
      refine mm_icmp_ge (tgt := 25) d11_mayGive_18 (by decide) (fun hc18 => ?_) (fun hc18 => ?_)
      · rw [if_pos hc18] at h
        refine mm_sub [] trivial ?_
        exact ok11_mayGive_25 l hS   h
      · rw [if_neg hc18] at h
        refine mm_iconst (v := 1) d11_mayGive_21 (by decide +kernel) ?_
        refine mm_goto (tgt := 26) d11_mayGive_22 (by decide) ?_
        refine mm_sub [] trivial ?_
        exact ok11_mayGive_26 l hS   h
set_option maxHeartbeats 4000000 in
set_option maxRecDepth 100000 in
theorem ok11_maySwap_31 (l : Launch) {S : mm_Sh} (hS : mm_WT S) {n : Nat}  {s0 : Int32}  {I : mm_I} {J : mm_J} {o : Int32} (h : f11_maySwap_31 S n s0 I J = some o) : mm_W l M11_maySwap (mm_rm (mm_rk M11_maySwap)) 0 0 S (mm_end S (mm_Qi o I J)) 31 [] [.int s0] I J := by
  unfold f11_maySwap_31 at h
  obtain ⟨hb1, h⟩ := mm_gd h
  have h := Option.some.inj h
  subst h
  exact mm_zret rfl d11_maySwap_31 (mm_bit_ok hb1) ⟨rfl, rfl, rfl⟩
set_option maxHeartbeats 4000000 in
set_option maxRecDepth 100000 in
theorem ok11_maySwap_30 (l : Launch) {S : mm_Sh} (hS : mm_WT S) {n : Nat}    {I : mm_I} {J : mm_J} {o : Int32} (h : f11_maySwap_30 S n  I J = some o) : mm_W l M11_maySwap (mm_rm (mm_rk M11_maySwap)) 0 0 S (mm_end S (mm_Qi o I J)) 30 [] [] I J := by
  unfold f11_maySwap_30 at h
  refine mm_iconst (v := 0) d11_maySwap_30 (by decide +kernel) ?_
  refine mm_sub [] trivial ?_
  exact ok11_maySwap_31 l hS   h
set_option maxHeartbeats 4000000 in
set_option maxRecDepth 100000 in
theorem ok11_maySwap (l : Launch) {S : mm_Sh} (hS : mm_WT S) {n : Nat}  {v0 : Nat} {v1 : Int32} (h0 : mm_is S v0 11) {I : mm_I} {J : mm_J} {o : Int32} (h : f11_maySwap S n v0 v1 I J = some o) : mm_C l M11_maySwap S [.ref v0, .int v1] I J (mm_Qi o I J) := by
  unfold f11_maySwap at h
  refine mm_enter rfl (by decide +kernel) rfl ?_
  refine mm_aload_n d11_maySwap_0 rfl ?_
  refine mm_getR fl_X11_41 d11_maySwap_1 (mm_wtR hS 51 h0 rfl rfl) ?_
  refine mm_iload_n d11_maySwap_4 rfl ?_
  obtain ⟨hb1, h⟩ := mm_gd h
  refine mm_zald d11_maySwap_5 (mm_wtA hS 13 1 h0 rfl rfl) (mm_inb_ok hb1) ?_
  refine mm_if_eq (tgt := 30) d11_maySwap_6 (by decide) (fun hc2 => ?_) (fun hc2 => ?_)
  · rw [if_pos hc2] at h
    refine mm_sub [] trivial ?_
    exact ok11_maySwap_30 l hS   h
  · rw [if_neg hc2] at h
    refine mm_aload_n d11_maySwap_9 rfl ?_
    refine mm_getR fl_X11_54 d11_maySwap_10 (mm_wtR hS 50 h0 rfl rfl) ?_
    refine mm_iload_n d11_maySwap_13 rfl ?_
    obtain ⟨hb3, h⟩ := mm_gd h
    refine mm_iald d11_maySwap_14 (mm_wtA hS 17 0 h0 rfl rfl) (mm_inb_ok hb3) ?_
    refine mm_if_ge (tgt := 30) d11_maySwap_15 (by decide) (fun hc4 => ?_) (fun hc4 => ?_)
    · rw [if_pos hc4] at h
      refine mm_sub [] trivial ?_
      exact ok11_maySwap_30 l hS   h
    · rw [if_neg hc4] at h
      refine mm_aload_n d11_maySwap_18 rfl ?_
      refine mm_iload_n d11_maySwap_19 rfl ?_
      obtain ⟨o5, hk5, h⟩ := mm_bd h
      refine mm_cVi 11 (As := [.int v1]) (ok11_knownMany l hS h0 hk5) lk_X11_281 rfl d11_maySwap_20 (mm_room rfl rfl) rfl h0 rfl rfl ?_
      refine mm_if_le (tgt := 30) d11_maySwap_23 (by decide) (fun hc6 => ?_) (fun hc6 => ?_)
      · rw [if_pos hc6] at h
        refine mm_sub [] trivial ?_
        exact ok11_maySwap_30 l hS   h
      · rw [if_neg hc6] at h
        refine mm_iconst (v := 1) d11_maySwap_26 (by decide +kernel) ?_
        refine mm_goto (tgt := 31) d11_maySwap_27 (by decide) ?_
        refine mm_sub [] trivial ?_
        exact ok11_maySwap_31 l hS   h
set_option maxHeartbeats 4000000 in
set_option maxRecDepth 100000 in
theorem ok11_night_16 (l : Launch) {S : mm_Sh} (hS : mm_WT S) {n : Nat}    {I : mm_I} {J : mm_J} {o : Int32 × mm_I × mm_J} (h : f11_night_16 S n  I J = some o) : mm_W l M11_night (mm_rm (mm_rk M11_night)) 0 0 S (mm_end S (mm_Qi o.1 o.2.1 o.2.2)) 16 [] [] I J := by
  unfold f11_night_16 at h
  refine mm_ldcw (v := (-1000000001)) d11_night_16 kX11_271 ?_
  have h := Option.some.inj h
  subst h
  exact mm_iret rfl d11_night_19 ⟨rfl, rfl, rfl⟩
set_option maxHeartbeats 4000000 in
set_option maxRecDepth 100000 in
theorem ok11_night_47 (l : Launch) {S : mm_Sh} (hS : mm_WT S) {n : Nat}    {I : mm_I} {J : mm_J} {o : Int32 × mm_I × mm_J} (h : f11_night_47 S n  I J = some o) : mm_W l M11_night (mm_rm (mm_rk M11_night)) 0 0 S (mm_end S (mm_Qi o.1 o.2.1 o.2.2)) 47 [] [] I J := by
  unfold f11_night_47 at h
  refine mm_ldc (v := (-1000000003)) d11_night_47 kX11_250 ?_
  have h := Option.some.inj h
  subst h
  exact mm_iret rfl d11_night_49 ⟨rfl, rfl, rfl⟩
set_option maxHeartbeats 4000000 in
set_option maxRecDepth 100000 in
theorem ok11_night_162 (l : Launch) {S : mm_Sh} (hS : mm_WT S) {n : Nat}  {s0 : Int32}  {I : mm_I} {J : mm_J} {o : Int32 × mm_I × mm_J} (h : f11_night_162 S n s0 I J = some o) : mm_W l M11_night (mm_rm (mm_rk M11_night)) 0 0 S (mm_end S (mm_Qi o.1 o.2.1 o.2.2)) 162 [] [.int s0] I J := by
  unfold f11_night_162 at h
  have h := Option.some.inj h
  subst h
  exact mm_iret rfl d11_night_162 ⟨rfl, rfl, rfl⟩
set_option maxHeartbeats 4000000 in
set_option maxRecDepth 100000 in
theorem ok11_night_151 (l : Launch) {S : mm_Sh} (hS : mm_WT S) {n : Nat}  {v4 : Int32} {s0 : Nat} {s1 : Int32} {s2 : Int32} (g0 : S[s0]? = some (.inl (0, mm_al S s0))) {I : mm_I} {J : mm_J} {o : Int32 × mm_I × mm_J} (h : f11_night_151 S n v4 s0 s1 s2 I J = some o) : mm_W l M11_night (mm_rm (mm_rk M11_night)) 0 0 S (mm_end S (mm_Qi o.1 o.2.1 o.2.2)) 151 [(4, .int v4)] [.int s2, .int s1, .ref s0] I J := by
  unfold f11_night_151 at h
  obtain ⟨hb1, h⟩ := mm_gd h
  refine mm_iast d11_night_151 g0 (mm_inb_ok hb1) ?_
  refine mm_iload d11_night_152 rfl ?_
  refine mm_if_eq (tgt := 161) d11_night_154 (by decide) (fun hc2 => ?_) (fun hc2 => ?_)
  · rw [if_pos hc2] at h
    refine mm_iconst (v := 0) d11_night_161 (by decide +kernel) ?_
    refine mm_sub [] trivial ?_
    exact ok11_night_162 l hS   h
  · rw [if_neg hc2] at h
    refine mm_iconst (v := 1) d11_night_157 (by decide +kernel) ?_
    refine mm_goto (tgt := 162) d11_night_158 (by decide) ?_
    refine mm_sub [] trivial ?_
    exact ok11_night_162 l hS   h
set_option maxHeartbeats 4000000 in
set_option maxRecDepth 100000 in
theorem ok11_night_145 (l : Launch) {S : mm_Sh} (hS : mm_WT S) {n : Nat}  {v0 : Nat} {v1 : Int32} {v4 : Int32} {s0 : Nat} {s1 : Int32} (h0 : mm_is S v0 11) (g0 : S[s0]? = some (.inl (0, mm_al S s0))) {I : mm_I} {J : mm_J} {o : Int32 × mm_I × mm_J} (h : f11_night_145 S n v0 v1 v4 s0 s1 I J = some o) : mm_W l M11_night (mm_rm (mm_rk M11_night)) 0 0 S (mm_end S (mm_Qi o.1 o.2.1 o.2.2)) 145 [(0, .ref v0), (1, .int v1), (4, .int v4)] [.int s1, .ref s0] I J := by
  unfold f11_night_145 at h
  refine mm_aload_n d11_night_145 rfl ?_
  refine mm_getR fl_X11_60 d11_night_146 (mm_wtR hS 50 h0 rfl rfl) ?_
  refine mm_iload_n d11_night_149 rfl ?_
  obtain ⟨hb1, h⟩ := mm_gd h
  refine mm_iald d11_night_150 (mm_wtA hS 19 0 h0 rfl rfl) (mm_inb_ok hb1) ?_
  refine mm_sub [(4, .int v4)] ⟨rfl, trivial⟩ ?_
  exact ok11_night_151 l hS  g0 h
set_option maxHeartbeats 4000000 in
set_option maxRecDepth 100000 in
theorem ok11_night_120 (l : Launch) {S : mm_Sh} (hS : mm_WT S) {n : Nat}  {v0 : Nat} {v1 : Int32} {v2 : Int32} {s0 : Int32} (h0 : mm_is S v0 11) {I : mm_I} {J : mm_J} {o : Int32 × mm_I × mm_J} (h : f11_night_120 S n v0 v1 v2 s0 I J = some o) : mm_W l M11_night (mm_rm (mm_rk M11_night)) 0 0 S (mm_end S (mm_Qi o.1 o.2.1 o.2.2)) 120 [(0, .ref v0), (1, .int v1), (2, .int v2)] [.int s0] I J := by
  unfold f11_night_120 at h
  refine mm_istore d11_night_120 rfl rfl ?_
  refine mm_aload_n d11_night_122 rfl ?_
  refine mm_getR fl_X11_60 d11_night_123 (mm_wtR hS 50 h0 rfl rfl) ?_
  refine mm_iload_n d11_night_126 rfl ?_
  refine mm_iload d11_night_127 rfl ?_
  refine mm_if_eq (tgt := 145) d11_night_129 (by decide) (fun hc1 => ?_) (fun hc1 => ?_)
  · rw [if_pos hc1] at h
    refine mm_sub [(0, .ref v0), (1, .int v1), (4, .int s0)] ⟨rfl, rfl, rfl, trivial⟩ ?_
    exact ok11_night_145 l hS  h0 (mm_wtA hS 19 0 h0 rfl rfl) h
  · rw [if_neg hc1] at h
    refine mm_aload_n d11_night_132 rfl ?_
    refine mm_getR fl_X11_60 d11_night_133 (mm_wtR hS 50 h0 rfl rfl) ?_
    refine mm_iload_n d11_night_136 rfl ?_
    obtain ⟨hb2, h⟩ := mm_gd h
    refine mm_iald d11_night_137 (mm_wtA hS 19 0 h0 rfl rfl) (mm_inb_ok hb2) ?_
    refine mm_if_ge (tgt := 145) d11_night_138 (by decide) (fun hc3 => ?_) (fun hc3 => ?_)
    · rw [if_pos hc3] at h
      refine mm_sub [(0, .ref v0), (1, .int v1), (4, .int s0)] ⟨rfl, rfl, rfl, trivial⟩ ?_
      exact ok11_night_145 l hS  h0 (mm_wtA hS 19 0 h0 rfl rfl) h
    · rw [if_neg hc3] at h
      refine mm_iload_n d11_night_141 rfl ?_
      refine mm_goto (tgt := 151) d11_night_142 (by decide) ?_
      refine mm_sub [(4, .int s0)] ⟨rfl, trivial⟩ ?_
      exact ok11_night_151 l hS  (mm_wtA hS 19 0 h0 rfl rfl) h
set_option maxHeartbeats 4000000 in
set_option maxRecDepth 100000 in
theorem ok11_night_86 (l : Launch) {S : mm_Sh} (hS : mm_WT S) {n : Nat}  {v0 : Nat} {v1 : Int32} {v2 : Int32} {s0 : Nat} {s1 : Int32} {s2 : Int32} (h0 : mm_is S v0 11) (g0 : S[s0]? = some (.inl (0, mm_al S s0))) {I : mm_I} {J : mm_J} {o : Int32 × mm_I × mm_J} (h : f11_night_86 S n v0 v1 v2 s0 s1 s2 I J = some o) : mm_W l M11_night (mm_rm (mm_rk M11_night)) 0 0 S (mm_end S (mm_Qi o.1 o.2.1 o.2.2)) 86 [(0, .ref v0), (1, .int v1), (2, .int v2)] [.int s2, .int s1, .ref s0] I J := by
  unfold f11_night_86 at h
  obtain ⟨hb1, h⟩ := mm_gd h
  refine mm_iast d11_night_86 g0 (mm_inb_ok hb1) ?_
  refine mm_aload_n d11_night_87 rfl ?_
  refine mm_getR fl_X11_69 d11_night_88 (mm_wtR hS 51 h0 rfl rfl) ?_
  refine mm_iload_n d11_night_91 rfl ?_
  refine mm_iconst (v := 1) d11_night_92 (by decide +kernel) ?_
  obtain ⟨hb2, h⟩ := mm_gd h
  refine mm_zast d11_night_93 (mm_wtA hS 22 1 h0 rfl rfl) (mm_inb_ok hb2) (by decide) ?_
  refine mm_aload_n d11_night_94 rfl ?_
  refine mm_bipush (v := 100) d11_night_95 (by decide +kernel) ?_
  obtain ⟨o3, hk3, h⟩ := mm_bd h
  refine mm_cVi 11 (As := [.int 100]) (ok11_draw l hS h0 hk3) lk_X11_311 rfl d11_night_97 (mm_room rfl rfl) rfl h0 rfl rfl ?_
  refine mm_bipush (v := 10) d11_night_100 (by decide +kernel) ?_
  refine mm_aload_n d11_night_102 rfl ?_
  obtain ⟨o4, hk4, h⟩ := mm_bd h
  refine mm_cVi 11 (As := []) (ok11_livesSet l hS h0 hk4) lk_X11_261 rfl d11_night_103 (mm_room rfl rfl) rfl h0 rfl rfl ?_
  obtain ⟨o5, hk5, h⟩ := mm_bd h
  refine mm_cSi (As := [.int o4]) (ok11_bits l hS hk5) lk_X11_278 rfl d11_night_106 (mm_room rfl rfl) rfl rfl ?_
  refine mm_iconst (v := 1) d11_night_109 (by decide +kernel) ?_
  refine mm_isub d11_night_110 ?_
  refine mm_imul d11_night_111 ?_
  refine mm_icmp_ge (tgt := 119) d11_night_112 (by decide) (fun hc6 => ?_) (fun hc6 => ?_)
  · rw [if_pos hc6] at h
    refine mm_iconst (v := 0) d11_night_119 (by decide +kernel) ?_
    refine mm_sub [(0, .ref v0), (1, .int v1), (2, .int v2)] ⟨rfl, rfl, rfl, trivial⟩ ?_
    exact ok11_night_120 l hS  h0 h
  · rw [if_neg hc6] at h
    refine mm_iconst (v := 1) d11_night_115 (by decide +kernel) ?_
    refine mm_goto (tgt := 120) d11_night_116 (by decide) ?_
    refine mm_sub [(0, .ref v0), (1, .int v1), (2, .int v2)] ⟨rfl, rfl, rfl, trivial⟩ ?_
    exact ok11_night_120 l hS  h0 h
set_option maxHeartbeats 4000000 in
set_option maxRecDepth 100000 in
theorem ok11_night (l : Launch) {S : mm_Sh} (hS : mm_WT S) {n : Nat}  {v0 : Nat} {v1 : Int32} {v2 : Int32} (h0 : mm_is S v0 11) {I : mm_I} {J : mm_J} {o : Int32 × mm_I × mm_J} (h : f11_night S n v0 v1 v2 I J = some o) : mm_C l M11_night S [.ref v0, .int v1, .int v2] I J (mm_Qi o.1 o.2.1 o.2.2) := by
  unfold f11_night at h
  refine mm_enter rfl (by decide +kernel) rfl ?_
  refine mm_aload_n d11_night_0 rfl ?_
  refine mm_iload_n d11_night_1 rfl ?_
  obtain ⟨o1, hk1, h⟩ := mm_bd h
  refine mm_cVi 11 (As := [.int v1]) (ok11_isPerson l hS h0 hk1) lk_X11_272 rfl d11_night_2 (mm_room rfl rfl) rfl h0 rfl rfl ?_
  refine mm_if_eq (tgt := 16) d11_night_5 (by decide) (fun hc2 => ?_) (fun hc2 => ?_)
  · rw [if_pos hc2] at h
    refine mm_sub [] trivial ?_
    exact ok11_night_16 l hS   h
  · rw [if_neg hc2] at h
    refine mm_aload_n d11_night_8 rfl ?_
    refine mm_iload_n d11_night_9 rfl ?_
    obtain ⟨o3, hk3, h⟩ := mm_bd h
    refine mm_cVi 11 (As := [.int v2]) (ok11_isTrade l hS h0 hk3) lk_X11_267 rfl d11_night_10 (mm_room rfl rfl) rfl h0 rfl rfl ?_
    refine mm_if_ne (tgt := 20) d11_night_13 (by decide) (fun hc4 => ?_) (fun hc4 => ?_)
    · rw [if_neg hc4] at h
      refine mm_aload_n d11_night_20 rfl ?_
      refine mm_getR fl_X11_41 d11_night_21 (mm_wtR hS 51 h0 rfl rfl) ?_
      refine mm_iload_n d11_night_24 rfl ?_
      obtain ⟨hb5, h⟩ := mm_gd h
      refine mm_zald d11_night_25 (mm_wtA hS 13 1 h0 rfl rfl) (mm_inb_ok hb5) ?_
      refine mm_if_eq (tgt := 47) d11_night_26 (by decide) (fun hc6 => ?_) (fun hc6 => ?_)
      · rw [if_pos hc6] at h
        refine mm_sub [] trivial ?_
        exact ok11_night_47 l hS   h
      · rw [if_neg hc6] at h
        refine mm_aload_n d11_night_29 rfl ?_
        refine mm_iload_n d11_night_30 rfl ?_
        refine mm_iload_n d11_night_31 rfl ?_
        obtain ⟨o7, hk7, h⟩ := mm_bd h
        refine mm_cVi 11 (As := [.int v1, .int v2]) (ok11_knows l hS h0 hk7) lk_X11_143 rfl d11_night_32 (mm_room rfl rfl) rfl h0 rfl rfl ?_
        refine mm_if_eq (tgt := 47) d11_night_35 (by decide) (fun hc8 => ?_) (fun hc8 => ?_)
        · rw [if_pos hc8] at h
          refine mm_sub [] trivial ?_
          exact ok11_night_47 l hS   h
        · rw [if_neg hc8] at h
          refine mm_aload_n d11_night_38 rfl ?_
          refine mm_getR fl_X11_69 d11_night_39 (mm_wtR hS 51 h0 rfl rfl) ?_
          refine mm_iload_n d11_night_42 rfl ?_
          obtain ⟨hb9, h⟩ := mm_gd h
          refine mm_zald d11_night_43 (mm_wtA hS 22 1 h0 rfl rfl) (mm_inb_ok hb9) ?_
          refine mm_if_eq (tgt := 50) d11_night_44 (by decide) (fun hc10 => ?_) (fun hc10 => ?_)
          · rw [if_pos hc10] at h
            refine mm_aload_n d11_night_50 rfl ?_
            refine mm_getR fl_X11_45 d11_night_51 (mm_wtR hS 50 h0 rfl rfl) ?_
            refine mm_bipush (v := 6) d11_night_54 (by decide +kernel) ?_
            refine mm_iload_n d11_night_56 rfl ?_
            refine mm_imul d11_night_57 ?_
            refine mm_iload_n d11_night_58 rfl ?_
            refine mm_iadd d11_night_59 ?_
            obtain ⟨hb11, h⟩ := mm_gd h
            refine mm_iald d11_night_60 (mm_wtA hS 14 0 h0 rfl rfl) (mm_inb_ok hb11) ?_
            refine mm_iconst (v := 5) d11_night_61 (by decide +kernel) ?_
            refine mm_iadd d11_night_62 ?_
            refine mm_istore_n d11_night_63 rfl rfl ?_
            refine mm_aload_n d11_night_64 rfl ?_
            refine mm_getR fl_X11_45 d11_night_65 (mm_wtR hS 50 h0 rfl rfl) ?_
            refine mm_bipush (v := 6) d11_night_68 (by decide +kernel) ?_
            refine mm_iload_n d11_night_70 rfl ?_
            refine mm_imul d11_night_71 ?_
            refine mm_iload_n d11_night_72 rfl ?_
            refine mm_iadd d11_night_73 ?_
            refine mm_iload_n d11_night_74 rfl ?_
            refine mm_bipush (v := 100) d11_night_75 (by decide +kernel) ?_
            refine mm_icmp_le (tgt := 85) d11_night_77 (by decide) (fun hc12 => ?_) (fun hc12 => ?_)
            · rw [if_pos hc12] at h
              refine mm_iload_n d11_night_85 rfl ?_
              refine mm_sub [(0, .ref v0), (1, .int v1), (2, .int v2)] ⟨rfl, rfl, rfl, trivial⟩ ?_
              exact ok11_night_86 l hS  h0 (mm_wtA hS 14 0 h0 rfl rfl) h
            · rw [if_neg hc12] at h
              refine mm_bipush (v := 100) d11_night_80 (by decide +kernel) ?_
              refine mm_goto (tgt := 86) d11_night_82 (by decide) ?_
              refine mm_sub [(0, .ref v0), (1, .int v1), (2, .int v2)] ⟨rfl, rfl, rfl, trivial⟩ ?_
              exact ok11_night_86 l hS  h0 (mm_wtA hS 14 0 h0 rfl rfl) h
          · rw [if_neg hc10] at h
            refine mm_sub [] trivial ?_
            exact ok11_night_47 l hS   h
    · rw [if_pos hc4] at h
      refine mm_sub [] trivial ?_
      exact ok11_night_16 l hS   h
set_option maxHeartbeats 4000000 in
set_option maxRecDepth 100000 in
theorem ok11_person_115 (l : Launch) {S : mm_Sh} (hS : mm_WT S) {n : Nat}  {s0 : Int32}  {I : mm_I} {J : mm_J} {o : Int32} (h : f11_person_115 S n s0 I J = some o) : mm_W l M11_person (mm_rm (mm_rk M11_person)) 0 0 S (mm_end S (mm_Qi o I J)) 115 [] [.int s0] I J := by
  unfold f11_person_115 at h
  have h := Option.some.inj h
  subst h
  exact mm_iret rfl d11_person_115 ⟨rfl, rfl, rfl⟩
set_option maxHeartbeats 4000000 in
set_option maxRecDepth 100000 in
theorem ok11_person_130 (l : Launch) {S : mm_Sh} (hS : mm_WT S) {n : Nat}  {s0 : Int32}  {I : mm_I} {J : mm_J} {o : Int32} (h : f11_person_130 S n s0 I J = some o) : mm_W l M11_person (mm_rm (mm_rk M11_person)) 0 0 S (mm_end S (mm_Qi o I J)) 130 [] [.int s0] I J := by
  unfold f11_person_130 at h
  have h := Option.some.inj h
  subst h
  exact mm_iret rfl d11_person_130 ⟨rfl, rfl, rfl⟩
set_option maxHeartbeats 4000000 in
set_option maxRecDepth 100000 in
theorem ok11_person (l : Launch) {S : mm_Sh} (hS : mm_WT S) {n : Nat}  {v0 : Nat} {v1 : Int32} {v2 : Int32} (h0 : mm_is S v0 11) {I : mm_I} {J : mm_J} {o : Int32} (h : f11_person S n v0 v1 v2 I J = some o) : mm_C l M11_person S [.ref v0, .int v1, .int v2] I J (mm_Qi o I J) := by
  unfold f11_person at h
  refine mm_enter rfl (by decide +kernel) rfl ?_
  refine mm_aload_n d11_person_0 rfl ?_
  refine mm_iload_n d11_person_1 rfl ?_
  obtain ⟨o1, hk1, h⟩ := mm_bd h
  refine mm_cVi 11 (As := [.int v1]) (ok11_isPerson l hS h0 hk1) lk_X11_272 rfl d11_person_2 (mm_room rfl rfl) rfl h0 rfl rfl ?_
  refine mm_if_ne (tgt := 12) d11_person_5 (by decide) (fun hc2 => ?_) (fun hc2 => ?_)
  · rw [if_neg hc2] at h
    refine mm_iload_n d11_person_12 rfl ?_
    by_cases hc3 : v2 = 0
    · rw [if_pos hc3] at h
      refine mm_tabIn (0) (tgt := 60) d11_person_13 (by rw [hc3]; decide +kernel) (by decide) (by decide) rfl (by decide) ?_
      refine mm_aload_n d11_person_60 rfl ?_
      refine mm_getR fl_X11_38 d11_person_61 (mm_wtR hS 50 h0 rfl rfl) ?_
      refine mm_iload_n d11_person_64 rfl ?_
      obtain ⟨hb20, h⟩ := mm_gd h
      refine mm_iald d11_person_65 (mm_wtA hS 12 0 h0 rfl rfl) (mm_inb_ok hb20) ?_
      have h := Option.some.inj h
      subst h
      exact mm_iret rfl d11_person_66 ⟨rfl, rfl, rfl⟩
    · rw [if_neg hc3] at h
      by_cases hc4 : v2 = 1
      · rw [if_pos hc4] at h
        refine mm_tabIn (1) (tgt := 67) d11_person_13 (by rw [hc4]; decide +kernel) (by decide) (by decide) rfl (by decide) ?_
        refine mm_aload_n d11_person_67 rfl ?_
        refine mm_getR fl_X11_51 d11_person_68 (mm_wtR hS 50 h0 rfl rfl) ?_
        refine mm_iload_n d11_person_71 rfl ?_
        obtain ⟨hb19, h⟩ := mm_gd h
        refine mm_iald d11_person_72 (mm_wtA hS 16 0 h0 rfl rfl) (mm_inb_ok hb19) ?_
        have h := Option.some.inj h
        subst h
        exact mm_iret rfl d11_person_73 ⟨rfl, rfl, rfl⟩
      · rw [if_neg hc4] at h
        by_cases hc5 : v2 = 2
        · rw [if_pos hc5] at h
          refine mm_tabIn (2) (tgt := 74) d11_person_13 (by rw [hc5]; decide +kernel) (by decide) (by decide) rfl (by decide) ?_
          refine mm_aload_n d11_person_74 rfl ?_
          refine mm_getR fl_X11_54 d11_person_75 (mm_wtR hS 50 h0 rfl rfl) ?_
          refine mm_iload_n d11_person_78 rfl ?_
          obtain ⟨hb18, h⟩ := mm_gd h
          refine mm_iald d11_person_79 (mm_wtA hS 17 0 h0 rfl rfl) (mm_inb_ok hb18) ?_
          have h := Option.some.inj h
          subst h
          exact mm_iret rfl d11_person_80 ⟨rfl, rfl, rfl⟩
        · rw [if_neg hc5] at h
          by_cases hc6 : v2 = 3
          · rw [if_pos hc6] at h
            refine mm_tabIn (3) (tgt := 81) d11_person_13 (by rw [hc6]; decide +kernel) (by decide) (by decide) rfl (by decide) ?_
            refine mm_aload_n d11_person_81 rfl ?_
            refine mm_getR fl_X11_60 d11_person_82 (mm_wtR hS 50 h0 rfl rfl) ?_
            refine mm_iload_n d11_person_85 rfl ?_
            obtain ⟨hb17, h⟩ := mm_gd h
            refine mm_iald d11_person_86 (mm_wtA hS 19 0 h0 rfl rfl) (mm_inb_ok hb17) ?_
            have h := Option.some.inj h
            subst h
            exact mm_iret rfl d11_person_87 ⟨rfl, rfl, rfl⟩
          · rw [if_neg hc6] at h
            by_cases hc7 : v2 = 4
            · rw [if_pos hc7] at h
              refine mm_tabIn (4) (tgt := 88) d11_person_13 (by rw [hc7]; decide +kernel) (by decide) (by decide) rfl (by decide) ?_
              refine mm_aload_n d11_person_88 rfl ?_
              refine mm_iload_n d11_person_89 rfl ?_
              obtain ⟨o16, hk16, h⟩ := mm_bd h
              refine mm_cVi 11 (As := [.int v1]) (ok11_knownSet l hS h0 hk16) lk_X11_275 rfl d11_person_90 (mm_room rfl rfl) rfl h0 rfl rfl ?_
              have h := Option.some.inj h
              subst h
              exact mm_iret rfl d11_person_93 ⟨rfl, rfl, rfl⟩
            · rw [if_neg hc7] at h
              by_cases hc8 : v2 = 5
              · rw [if_pos hc8] at h
                refine mm_tabIn (5) (tgt := 94) d11_person_13 (by rw [hc8]; decide +kernel) (by decide) (by decide) rfl (by decide) ?_
                refine mm_aload_n d11_person_94 rfl ?_
                refine mm_getR fl_X11_63 d11_person_95 (mm_wtR hS 50 h0 rfl rfl) ?_
                refine mm_iload_n d11_person_98 rfl ?_
                obtain ⟨hb15, h⟩ := mm_gd h
                refine mm_iald d11_person_99 (mm_wtA hS 20 0 h0 rfl rfl) (mm_inb_ok hb15) ?_
                have h := Option.some.inj h
                subst h
                exact mm_iret rfl d11_person_100 ⟨rfl, rfl, rfl⟩
              · rw [if_neg hc8] at h
                by_cases hc9 : v2 = 6
                · rw [if_pos hc9] at h
                  refine mm_tabIn (6) (tgt := 101) d11_person_13 (by rw [hc9]; decide +kernel) (by decide) (by decide) rfl (by decide) ?_
                  refine mm_aload_n d11_person_101 rfl ?_
                  refine mm_getR fl_X11_66 d11_person_102 (mm_wtR hS 51 h0 rfl rfl) ?_
                  refine mm_iload_n d11_person_105 rfl ?_
                  obtain ⟨hb13, h⟩ := mm_gd h
                  refine mm_zald d11_person_106 (mm_wtA hS 21 1 h0 rfl rfl) (mm_inb_ok hb13) ?_
                  refine mm_if_eq (tgt := 114) d11_person_107 (by decide) (fun hc14 => ?_) (fun hc14 => ?_)
                  · rw [if_pos hc14] at h
                    refine mm_iconst (v := 0) d11_person_114 (by decide +kernel) ?_
                    refine mm_sub [] trivial ?_
                    exact ok11_person_115 l hS   h
                  · rw [if_neg hc14] at h
                    refine mm_iconst (v := 1) d11_person_110 (by decide +kernel) ?_
                    refine mm_goto (tgt := 115) d11_person_111 (by decide) ?_
                    refine mm_sub [] trivial ?_
                    exact ok11_person_115 l hS   h
                · rw [if_neg hc9] at h
                  by_cases hc10 : v2 = 7
                  · rw [if_pos hc10] at h
                    refine mm_tabIn (7) (tgt := 116) d11_person_13 (by rw [hc10]; decide +kernel) (by decide) (by decide) rfl (by decide) ?_
                    refine mm_aload_n d11_person_116 rfl ?_
                    refine mm_getR fl_X11_69 d11_person_117 (mm_wtR hS 51 h0 rfl rfl) ?_
                    refine mm_iload_n d11_person_120 rfl ?_
                    obtain ⟨hb11, h⟩ := mm_gd h
                    refine mm_zald d11_person_121 (mm_wtA hS 22 1 h0 rfl rfl) (mm_inb_ok hb11) ?_
                    refine mm_if_eq (tgt := 129) d11_person_122 (by decide) (fun hc12 => ?_) (fun hc12 => ?_)
                    · rw [if_pos hc12] at h
                      refine mm_iconst (v := 0) d11_person_129 (by decide +kernel) ?_
                      refine mm_sub [] trivial ?_
                      exact ok11_person_130 l hS   h
                    · rw [if_neg hc12] at h
                      refine mm_iconst (v := 1) d11_person_125 (by decide +kernel) ?_
                      refine mm_goto (tgt := 130) d11_person_126 (by decide) ?_
                      refine mm_sub [] trivial ?_
                      exact ok11_person_130 l hS   h
                  · rw [if_neg hc10] at h
                    have hn3 := lv_neT (a := 0) hc3 (by decide +kernel)
                    have hn4 := lv_neT (a := 1) hc4 (by decide +kernel)
                    have hn5 := lv_neT (a := 2) hc5 (by decide +kernel)
                    have hn6 := lv_neT (a := 3) hc6 (by decide +kernel)
                    have hn7 := lv_neT (a := 4) hc7 (by decide +kernel)
                    have hn8 := lv_neT (a := 5) hc8 (by decide +kernel)
                    have hn9 := lv_neT (a := 6) hc9 (by decide +kernel)
                    have hn10 := lv_neT (a := 7) hc10 (by decide +kernel)
                    refine mm_tabOut (tgt := 131) d11_person_13 (by omega) (by decide) ?_
                    refine mm_ldc (v := (-1000000002)) d11_person_131 kX11_156 ?_
                    have h := Option.some.inj h
                    subst h
                    exact mm_iret rfl d11_person_133 ⟨rfl, rfl, rfl⟩
  · rw [if_pos hc2] at h
    refine mm_ldcw (v := (-1000000001)) d11_person_8 kX11_271 ?_
    have h := Option.some.inj h
    subst h
    exact mm_iret rfl d11_person_11 ⟨rfl, rfl, rfl⟩
set_option maxHeartbeats 4000000 in
set_option maxRecDepth 100000 in
theorem ok11_practise_16 (l : Launch) {S : mm_Sh} (hS : mm_WT S)    {I : mm_I} {J : mm_J} {o : Int32 × mm_I × mm_J} (h : f11_practise_16 S  I J = some o) : mm_W l M11_practise (mm_rm (mm_rk M11_practise)) 0 0 S (mm_end S (mm_Qi o.1 o.2.1 o.2.2)) 16 [] [] I J := by
  unfold f11_practise_16 at h
  refine mm_ldcw (v := (-1000000001)) d11_practise_16 kX11_271 ?_
  have h := Option.some.inj h
  subst h
  exact mm_iret rfl d11_practise_19 ⟨rfl, rfl, rfl⟩
set_option maxHeartbeats 4000000 in
set_option maxRecDepth 100000 in
theorem ok11_practise_38 (l : Launch) {S : mm_Sh} (hS : mm_WT S)    {I : mm_I} {J : mm_J} {o : Int32 × mm_I × mm_J} (h : f11_practise_38 S  I J = some o) : mm_W l M11_practise (mm_rm (mm_rk M11_practise)) 0 0 S (mm_end S (mm_Qi o.1 o.2.1 o.2.2)) 38 [] [] I J := by
  unfold f11_practise_38 at h
  refine mm_ldc (v := (-1000000003)) d11_practise_38 kX11_250 ?_
  have h := Option.some.inj h
  subst h
  exact mm_iret rfl d11_practise_40 ⟨rfl, rfl, rfl⟩
set_option maxHeartbeats 4000000 in
set_option maxRecDepth 100000 in
theorem ok11_practise (l : Launch) {S : mm_Sh} (hS : mm_WT S)  {v0 : Nat} {v1 : Int32} {v2 : Int32} (h0 : mm_is S v0 11) {I : mm_I} {J : mm_J} {o : Int32 × mm_I × mm_J} (h : f11_practise S v0 v1 v2 I J = some o) : mm_C l M11_practise S [.ref v0, .int v1, .int v2] I J (mm_Qi o.1 o.2.1 o.2.2) := by
  unfold f11_practise at h
  refine mm_enter rfl (by decide +kernel) rfl ?_
  refine mm_aload_n d11_practise_0 rfl ?_
  refine mm_iload_n d11_practise_1 rfl ?_
  obtain ⟨o1, hk1, h⟩ := mm_bd h
  refine mm_cVi 11 (As := [.int v1]) (ok11_isPerson l hS h0 hk1) lk_X11_272 rfl d11_practise_2 (mm_room rfl rfl) rfl h0 rfl rfl ?_
  refine mm_if_eq (tgt := 16) d11_practise_5 (by decide) (fun hc2 => ?_) (fun hc2 => ?_)
  · rw [if_pos hc2] at h
    refine mm_sub [] trivial ?_
    exact ok11_practise_16 l hS   h
  · rw [if_neg hc2] at h
    refine mm_aload_n d11_practise_8 rfl ?_
    refine mm_iload_n d11_practise_9 rfl ?_
    obtain ⟨o3, hk3, h⟩ := mm_bd h
    refine mm_cVi 11 (As := [.int v2]) (ok11_isTrade l hS h0 hk3) lk_X11_267 rfl d11_practise_10 (mm_room rfl rfl) rfl h0 rfl rfl ?_
    refine mm_if_ne (tgt := 20) d11_practise_13 (by decide) (fun hc4 => ?_) (fun hc4 => ?_)
    · rw [if_neg hc4] at h
      refine mm_aload_n d11_practise_20 rfl ?_
      refine mm_getR fl_X11_41 d11_practise_21 (mm_wtR hS 51 h0 rfl rfl) ?_
      refine mm_iload_n d11_practise_24 rfl ?_
      obtain ⟨hb5, h⟩ := mm_gd h
      refine mm_zald d11_practise_25 (mm_wtA hS 13 1 h0 rfl rfl) (mm_inb_ok hb5) ?_
      refine mm_if_eq (tgt := 38) d11_practise_26 (by decide) (fun hc6 => ?_) (fun hc6 => ?_)
      · rw [if_pos hc6] at h
        refine mm_sub [] trivial ?_
        exact ok11_practise_38 l hS   h
      · rw [if_neg hc6] at h
        refine mm_aload_n d11_practise_29 rfl ?_
        refine mm_iload_n d11_practise_30 rfl ?_
        refine mm_iload_n d11_practise_31 rfl ?_
        obtain ⟨o7, hk7, h⟩ := mm_bd h
        refine mm_cVi 11 (As := [.int v1, .int v2]) (ok11_knows l hS h0 hk7) lk_X11_143 rfl d11_practise_32 (mm_room rfl rfl) rfl h0 rfl rfl ?_
        refine mm_if_ne (tgt := 41) d11_practise_35 (by decide) (fun hc8 => ?_) (fun hc8 => ?_)
        · rw [if_neg hc8] at h
          refine mm_aload_n d11_practise_41 rfl ?_
          refine mm_getR fl_X11_51 d11_practise_42 (mm_wtR hS 50 h0 rfl rfl) ?_
          refine mm_iload_n d11_practise_45 rfl ?_
          obtain ⟨hb9, h⟩ := mm_gd h
          refine mm_iald d11_practise_46 (mm_wtA hS 16 0 h0 rfl rfl) (mm_inb_ok hb9) ?_
          refine mm_istore_n d11_practise_47 rfl rfl ?_
          refine mm_aload_n d11_practise_48 rfl ?_
          refine mm_getR fl_X11_51 d11_practise_49 (mm_wtR hS 50 h0 rfl rfl) ?_
          refine mm_iload_n d11_practise_52 rfl ?_
          refine mm_iload_n d11_practise_53 rfl ?_
          obtain ⟨hb10, h⟩ := mm_gd h
          refine mm_iast d11_practise_54 (mm_wtA hS 16 0 h0 rfl rfl) (mm_inb_ok hb10) ?_
          refine mm_iload_n d11_practise_55 rfl ?_
          have h := Option.some.inj h
          subst h
          exact mm_iret rfl d11_practise_56 ⟨rfl, rfl, rfl⟩
        · rw [if_pos hc8] at h
          refine mm_sub [] trivial ?_
          exact ok11_practise_38 l hS   h
    · rw [if_pos hc4] at h
      refine mm_sub [] trivial ?_
      exact ok11_practise_16 l hS   h
set_option maxHeartbeats 4000000 in
set_option maxRecDepth 100000 in
theorem ok11_skill_33 (l : Launch) {S : mm_Sh} (hS : mm_WT S)  {s0 : Int32}  {I : mm_I} {J : mm_J} {o : Int32} (h : f11_skill_33 S s0 I J = some o) : mm_W l M11_skill (mm_rm (mm_rk M11_skill)) 0 0 S (mm_end S (mm_Qi o I J)) 33 [] [.int s0] I J := by
  unfold f11_skill_33 at h
  have h := Option.some.inj h
  subst h
  exact mm_iret rfl d11_skill_33 ⟨rfl, rfl, rfl⟩
set_option maxHeartbeats 4000000 in
set_option maxRecDepth 100000 in
theorem ok11_skill_30 (l : Launch) {S : mm_Sh} (hS : mm_WT S)    {I : mm_I} {J : mm_J} {o : Int32} (h : f11_skill_30 S  I J = some o) : mm_W l M11_skill (mm_rm (mm_rk M11_skill)) 0 0 S (mm_end S (mm_Qi o I J)) 30 [] [] I J := by
  unfold f11_skill_30 at h
  refine mm_ldcw (v := (-1000000001)) d11_skill_30 kX11_271 ?_
  refine mm_sub [] trivial ?_
  exact ok11_skill_33 l hS   h
set_option maxHeartbeats 4000000 in
set_option maxRecDepth 100000 in
theorem ok11_skill (l : Launch) {S : mm_Sh} (hS : mm_WT S)  {v0 : Nat} {v1 : Int32} {v2 : Int32} (h0 : mm_is S v0 11) {I : mm_I} {J : mm_J} {o : Int32} (h : f11_skill S v0 v1 v2 I J = some o) : mm_C l M11_skill S [.ref v0, .int v1, .int v2] I J (mm_Qi o I J) := by
  unfold f11_skill at h
  refine mm_enter rfl (by decide +kernel) rfl ?_
  refine mm_aload_n d11_skill_0 rfl ?_
  refine mm_iload_n d11_skill_1 rfl ?_
  obtain ⟨o1, hk1, h⟩ := mm_bd h
  refine mm_cVi 11 (As := [.int v1]) (ok11_isPerson l hS h0 hk1) lk_X11_272 rfl d11_skill_2 (mm_room rfl rfl) rfl h0 rfl rfl ?_
  refine mm_if_eq (tgt := 30) d11_skill_5 (by decide) (fun hc2 => ?_) (fun hc2 => ?_)
  · rw [if_pos hc2] at h
    refine mm_sub [] trivial ?_
    exact ok11_skill_30 l hS   h
  · rw [if_neg hc2] at h
    refine mm_aload_n d11_skill_8 rfl ?_
    refine mm_iload_n d11_skill_9 rfl ?_
    obtain ⟨o3, hk3, h⟩ := mm_bd h
    refine mm_cVi 11 (As := [.int v2]) (ok11_isTrade l hS h0 hk3) lk_X11_267 rfl d11_skill_10 (mm_room rfl rfl) rfl h0 rfl rfl ?_
    refine mm_if_eq (tgt := 30) d11_skill_13 (by decide) (fun hc4 => ?_) (fun hc4 => ?_)
    · rw [if_pos hc4] at h
      refine mm_sub [] trivial ?_
      exact ok11_skill_30 l hS   h
    · rw [if_neg hc4] at h
      refine mm_aload_n d11_skill_16 rfl ?_
      refine mm_getR fl_X11_45 d11_skill_17 (mm_wtR hS 50 h0 rfl rfl) ?_
      refine mm_bipush (v := 6) d11_skill_20 (by decide +kernel) ?_
      refine mm_iload_n d11_skill_22 rfl ?_
      refine mm_imul d11_skill_23 ?_
      refine mm_iload_n d11_skill_24 rfl ?_
      refine mm_iadd d11_skill_25 ?_
      obtain ⟨hb5, h⟩ := mm_gd h
      refine mm_iald d11_skill_26 (mm_wtA hS 14 0 h0 rfl rfl) (mm_inb_ok hb5) ?_
      refine mm_goto (tgt := 33) d11_skill_27 (by decide) ?_
      refine mm_sub [] trivial ?_
      exact ok11_skill_33 l hS   h
set_option maxHeartbeats 4000000 in
set_option maxRecDepth 100000 in
theorem ok11_told_129 (l : Launch) {S : mm_Sh} (hS : mm_WT S) {n : Nat}  {s0 : Int32}  {I : mm_I} {J : mm_J} {o : Int32} (h : f11_told_129 S n s0 I J = some o) : mm_W l M11_told (mm_rm (mm_rk M11_told)) 0 0 S (mm_end S (mm_Qi o I J)) 129 [] [.int s0] I J := by
  unfold f11_told_129 at h
  have h := Option.some.inj h
  subst h
  exact mm_iret rfl d11_told_129 ⟨rfl, rfl, rfl⟩
set_option maxHeartbeats 4000000 in
set_option maxRecDepth 100000 in
theorem ok11_told (l : Launch) {S : mm_Sh} (hS : mm_WT S) {n : Nat}  {v0 : Nat} {v1 : Int32} (h0 : mm_is S v0 11) {I : mm_I} {J : mm_J} {o : Int32} (h : f11_told S n v0 v1 I J = some o) : mm_C l M11_told S [.ref v0, .int v1] I J (mm_Qi o I J) := by
  unfold f11_told at h
  refine mm_enter rfl (by decide +kernel) rfl ?_
  refine mm_iload_n d11_told_0 rfl ?_
  by_cases hc1 : v1 = 0
  · rw [if_pos hc1] at h
    refine mm_tabIn (0) (tgt := 72) d11_told_1 (by rw [hc1]; decide +kernel) (by decide) (by decide) rfl (by decide) ?_
    refine mm_aload_n d11_told_72 rfl ?_
    refine mm_getI fl_X11_133 d11_told_73 (mm_wtI hS h0 rfl) ?_
    have h := Option.some.inj h
    subst h
    exact mm_iret rfl d11_told_76 ⟨rfl, rfl, rfl⟩
  · rw [if_neg hc1] at h
    by_cases hc2 : v1 = 1
    · rw [if_pos hc2] at h
      refine mm_tabIn (1) (tgt := 77) d11_told_1 (by rw [hc2]; decide +kernel) (by decide) (by decide) rfl (by decide) ?_
      refine mm_aload_n d11_told_77 rfl ?_
      refine mm_getI fl_X11_140 d11_told_78 (mm_wtI hS h0 rfl) ?_
      have h := Option.some.inj h
      subst h
      exact mm_iret rfl d11_told_81 ⟨rfl, rfl, rfl⟩
    · rw [if_neg hc2] at h
      by_cases hc3 : v1 = 2
      · rw [if_pos hc3] at h
        refine mm_tabIn (2) (tgt := 82) d11_told_1 (by rw [hc3]; decide +kernel) (by decide) (by decide) rfl (by decide) ?_
        refine mm_aload_n d11_told_82 rfl ?_
        obtain ⟨o17, hk17, h⟩ := mm_bd h
        refine mm_cVi 11 (As := []) (ok11_livesSet l hS h0 hk17) lk_X11_261 rfl d11_told_83 (mm_room rfl rfl) rfl h0 rfl rfl ?_
        have h := Option.some.inj h
        subst h
        exact mm_iret rfl d11_told_86 ⟨rfl, rfl, rfl⟩
      · rw [if_neg hc3] at h
        by_cases hc4 : v1 = 3
        · rw [if_pos hc4] at h
          refine mm_tabIn (3) (tgt := 87) d11_told_1 (by rw [hc4]; decide +kernel) (by decide) (by decide) rfl (by decide) ?_
          refine mm_aload_n d11_told_87 rfl ?_
          refine mm_getI fl_X11_147 d11_told_88 (mm_wtI hS h0 rfl) ?_
          have h := Option.some.inj h
          subst h
          exact mm_iret rfl d11_told_91 ⟨rfl, rfl, rfl⟩
        · rw [if_neg hc4] at h
          by_cases hc5 : v1 = 4
          · rw [if_pos hc5] at h
            refine mm_tabIn (4) (tgt := 92) d11_told_1 (by rw [hc5]; decide +kernel) (by decide) (by decide) rfl (by decide) ?_
            refine mm_aload_n d11_told_92 rfl ?_
            refine mm_getI fl_X11_22 d11_told_93 (mm_wtI hS h0 rfl) ?_
            have h := Option.some.inj h
            subst h
            exact mm_iret rfl d11_told_96 ⟨rfl, rfl, rfl⟩
          · rw [if_neg hc5] at h
            by_cases hc6 : v1 = 5
            · rw [if_pos hc6] at h
              refine mm_tabIn (5) (tgt := 97) d11_told_1 (by rw [hc6]; decide +kernel) (by decide) (by decide) rfl (by decide) ?_
              refine mm_aload_n d11_told_97 rfl ?_
              refine mm_getI fl_X11_26 d11_told_98 (mm_wtI hS h0 rfl) ?_
              have h := Option.some.inj h
              subst h
              exact mm_iret rfl d11_told_101 ⟨rfl, rfl, rfl⟩
            · rw [if_neg hc6] at h
              by_cases hc7 : v1 = 6
              · rw [if_pos hc7] at h
                refine mm_tabIn (6) (tgt := 102) d11_told_1 (by rw [hc7]; decide +kernel) (by decide) (by decide) rfl (by decide) ?_
                refine mm_aload_n d11_told_102 rfl ?_
                refine mm_getI fl_X11_29 d11_told_103 (mm_wtI hS h0 rfl) ?_
                have h := Option.some.inj h
                subst h
                exact mm_iret rfl d11_told_106 ⟨rfl, rfl, rfl⟩
              · rw [if_neg hc7] at h
                by_cases hc8 : v1 = 7
                · rw [if_pos hc8] at h
                  refine mm_tabIn (7) (tgt := 107) d11_told_1 (by rw [hc8]; decide +kernel) (by decide) (by decide) rfl (by decide) ?_
                  refine mm_aload_n d11_told_107 rfl ?_
                  refine mm_getI fl_X11_32 d11_told_108 (mm_wtI hS h0 rfl) ?_
                  have h := Option.some.inj h
                  subst h
                  exact mm_iret rfl d11_told_111 ⟨rfl, rfl, rfl⟩
                · rw [if_neg hc8] at h
                  by_cases hc9 : v1 = 8
                  · rw [if_pos hc9] at h
                    refine mm_tabIn (8) (tgt := 112) d11_told_1 (by rw [hc9]; decide +kernel) (by decide) (by decide) rfl (by decide) ?_
                    refine mm_aload_n d11_told_112 rfl ?_
                    refine mm_getI fl_X11_35 d11_told_113 (mm_wtI hS h0 rfl) ?_
                    have h := Option.some.inj h
                    subst h
                    exact mm_iret rfl d11_told_116 ⟨rfl, rfl, rfl⟩
                  · rw [if_neg hc9] at h
                    by_cases hc10 : v1 = 9
                    · rw [if_pos hc10] at h
                      refine mm_tabIn (9) (tgt := 117) d11_told_1 (by rw [hc10]; decide +kernel) (by decide) (by decide) rfl (by decide) ?_
                      refine mm_aload_n d11_told_117 rfl ?_
                      refine mm_getI fl_X11_254 d11_told_118 (mm_wtI hS h0 rfl) ?_
                      refine mm_if_eq (tgt := 128) d11_told_121 (by decide) (fun hc16 => ?_) (fun hc16 => ?_)
                      · rw [if_pos hc16] at h
                        refine mm_iconst (v := 0) d11_told_128 (by decide +kernel) ?_
                        refine mm_sub [] trivial ?_
                        exact ok11_told_129 l hS   h
                      · rw [if_neg hc16] at h
                        refine mm_iconst (v := 1) d11_told_124 (by decide +kernel) ?_
                        refine mm_goto (tgt := 129) d11_told_125 (by decide) ?_
                        refine mm_sub [] trivial ?_
                        exact ok11_told_129 l hS   h
                    · rw [if_neg hc10] at h
                      by_cases hc11 : v1 = 10
                      · rw [if_pos hc11] at h
                        refine mm_tabIn (10) (tgt := 130) d11_told_1 (by rw [hc11]; decide +kernel) (by decide) (by decide) rfl (by decide) ?_
                        refine mm_aload_n d11_told_130 rfl ?_
                        refine mm_getI fl_X11_157 d11_told_131 (mm_wtI hS h0 rfl) ?_
                        have h := Option.some.inj h
                        subst h
                        exact mm_iret rfl d11_told_134 ⟨rfl, rfl, rfl⟩
                      · rw [if_neg hc11] at h
                        by_cases hc12 : v1 = 11
                        · rw [if_pos hc12] at h
                          refine mm_tabIn (11) (tgt := 135) d11_told_1 (by rw [hc12]; decide +kernel) (by decide) (by decide) rfl (by decide) ?_
                          refine mm_aload_n d11_told_135 rfl ?_
                          refine mm_getI fl_X11_244 d11_told_136 (mm_wtI hS h0 rfl) ?_
                          have h := Option.some.inj h
                          subst h
                          exact mm_iret rfl d11_told_139 ⟨rfl, rfl, rfl⟩
                        · rw [if_neg hc12] at h
                          by_cases hc13 : v1 = 12
                          · rw [if_pos hc13] at h
                            refine mm_tabIn (12) (tgt := 140) d11_told_1 (by rw [hc13]; decide +kernel) (by decide) (by decide) rfl (by decide) ?_
                            refine mm_aload_n d11_told_140 rfl ?_
                            refine mm_getI fl_X11_247 d11_told_141 (mm_wtI hS h0 rfl) ?_
                            have h := Option.some.inj h
                            subst h
                            exact mm_iret rfl d11_told_144 ⟨rfl, rfl, rfl⟩
                          · rw [if_neg hc13] at h
                            by_cases hc14 : v1 = 13
                            · rw [if_pos hc14] at h
                              refine mm_tabIn (13) (tgt := 145) d11_told_1 (by rw [hc14]; decide +kernel) (by decide) (by decide) rfl (by decide) ?_
                              refine mm_aload_n d11_told_145 rfl ?_
                              obtain ⟨o15, hk15, h⟩ := mm_bd h
                              refine mm_cVi 11 (As := []) (ok11_deadSet l hS h0 hk15) lk_X11_264 rfl d11_told_146 (mm_room rfl rfl) rfl h0 rfl rfl ?_
                              have h := Option.some.inj h
                              subst h
                              exact mm_iret rfl d11_told_149 ⟨rfl, rfl, rfl⟩
                            · rw [if_neg hc14] at h
                              have hn1 := lv_neT (a := 0) hc1 (by decide +kernel)
                              have hn2 := lv_neT (a := 1) hc2 (by decide +kernel)
                              have hn3 := lv_neT (a := 2) hc3 (by decide +kernel)
                              have hn4 := lv_neT (a := 3) hc4 (by decide +kernel)
                              have hn5 := lv_neT (a := 4) hc5 (by decide +kernel)
                              have hn6 := lv_neT (a := 5) hc6 (by decide +kernel)
                              have hn7 := lv_neT (a := 6) hc7 (by decide +kernel)
                              have hn8 := lv_neT (a := 7) hc8 (by decide +kernel)
                              have hn9 := lv_neT (a := 8) hc9 (by decide +kernel)
                              have hn10 := lv_neT (a := 9) hc10 (by decide +kernel)
                              have hn11 := lv_neT (a := 10) hc11 (by decide +kernel)
                              have hn12 := lv_neT (a := 11) hc12 (by decide +kernel)
                              have hn13 := lv_neT (a := 12) hc13 (by decide +kernel)
                              have hn14 := lv_neT (a := 13) hc14 (by decide +kernel)
                              refine mm_tabOut (tgt := 150) d11_told_1 (by omega) (by decide) ?_
                              refine mm_ldc (v := (-1000000002)) d11_told_150 kX11_156 ?_
                              have h := Option.some.inj h
                              subst h
                              exact mm_iret rfl d11_told_152 ⟨rfl, rfl, rfl⟩
set_option maxHeartbeats 4000000 in
set_option maxRecDepth 100000 in
theorem ok11_trade (l : Launch) {S : mm_Sh} (hS : mm_WT S) {n : Nat}  {v0 : Nat} {v1 : Int32} {v2 : Int32} (h0 : mm_is S v0 11) {I : mm_I} {J : mm_J} {o : Int32} (h : f11_trade S n v0 v1 v2 I J = some o) : mm_C l M11_trade S [.ref v0, .int v1, .int v2] I J (mm_Qi o I J) := by
  unfold f11_trade at h
  refine mm_enter rfl (by decide +kernel) rfl ?_
  refine mm_aload_n d11_trade_0 rfl ?_
  refine mm_iload_n d11_trade_1 rfl ?_
  obtain ⟨o1, hk1, h⟩ := mm_bd h
  refine mm_cVi 11 (As := [.int v1]) (ok11_isTrade l hS h0 hk1) lk_X11_267 rfl d11_trade_2 (mm_room rfl rfl) rfl h0 rfl rfl ?_
  refine mm_if_ne (tgt := 12) d11_trade_5 (by decide) (fun hc2 => ?_) (fun hc2 => ?_)
  · rw [if_neg hc2] at h
    refine mm_iload_n d11_trade_12 rfl ?_
    by_cases hc3 : v2 = 0
    · rw [if_pos hc3] at h
      refine mm_tabIn (0) (tgt := 56) d11_trade_13 (by rw [hc3]; decide +kernel) (by decide) (by decide) rfl (by decide) ?_
      refine mm_aload_n d11_trade_56 rfl ?_
      refine mm_getR fl_X11_7 d11_trade_57 (mm_wtR hS 50 h0 rfl rfl) ?_
      refine mm_iconst (v := 4) d11_trade_60 (by decide +kernel) ?_
      refine mm_iload_n d11_trade_61 rfl ?_
      refine mm_imul d11_trade_62 ?_
      refine mm_iload_n d11_trade_63 rfl ?_
      refine mm_iadd d11_trade_64 ?_
      obtain ⟨hb16, h⟩ := mm_gd h
      refine mm_iald d11_trade_65 (mm_wtA hS 1 0 h0 rfl rfl) (mm_inb_ok hb16) ?_
      have h := Option.some.inj h
      subst h
      exact mm_iret rfl d11_trade_66 ⟨rfl, rfl, rfl⟩
    · rw [if_neg hc3] at h
      by_cases hc4 : v2 = 1
      · rw [if_pos hc4] at h
        refine mm_tabIn (1) (tgt := 56) d11_trade_13 (by rw [hc4]; decide +kernel) (by decide) (by decide) rfl (by decide) ?_
        refine mm_aload_n d11_trade_56 rfl ?_
        refine mm_getR fl_X11_7 d11_trade_57 (mm_wtR hS 50 h0 rfl rfl) ?_
        refine mm_iconst (v := 4) d11_trade_60 (by decide +kernel) ?_
        refine mm_iload_n d11_trade_61 rfl ?_
        refine mm_imul d11_trade_62 ?_
        refine mm_iload_n d11_trade_63 rfl ?_
        refine mm_iadd d11_trade_64 ?_
        obtain ⟨hb15, h⟩ := mm_gd h
        refine mm_iald d11_trade_65 (mm_wtA hS 1 0 h0 rfl rfl) (mm_inb_ok hb15) ?_
        have h := Option.some.inj h
        subst h
        exact mm_iret rfl d11_trade_66 ⟨rfl, rfl, rfl⟩
      · rw [if_neg hc4] at h
        by_cases hc5 : v2 = 2
        · rw [if_pos hc5] at h
          refine mm_tabIn (2) (tgt := 56) d11_trade_13 (by rw [hc5]; decide +kernel) (by decide) (by decide) rfl (by decide) ?_
          refine mm_aload_n d11_trade_56 rfl ?_
          refine mm_getR fl_X11_7 d11_trade_57 (mm_wtR hS 50 h0 rfl rfl) ?_
          refine mm_iconst (v := 4) d11_trade_60 (by decide +kernel) ?_
          refine mm_iload_n d11_trade_61 rfl ?_
          refine mm_imul d11_trade_62 ?_
          refine mm_iload_n d11_trade_63 rfl ?_
          refine mm_iadd d11_trade_64 ?_
          obtain ⟨hb14, h⟩ := mm_gd h
          refine mm_iald d11_trade_65 (mm_wtA hS 1 0 h0 rfl rfl) (mm_inb_ok hb14) ?_
          have h := Option.some.inj h
          subst h
          exact mm_iret rfl d11_trade_66 ⟨rfl, rfl, rfl⟩
        · rw [if_neg hc5] at h
          by_cases hc6 : v2 = 3
          · rw [if_pos hc6] at h
            refine mm_tabIn (3) (tgt := 56) d11_trade_13 (by rw [hc6]; decide +kernel) (by decide) (by decide) rfl (by decide) ?_
            refine mm_aload_n d11_trade_56 rfl ?_
            refine mm_getR fl_X11_7 d11_trade_57 (mm_wtR hS 50 h0 rfl rfl) ?_
            refine mm_iconst (v := 4) d11_trade_60 (by decide +kernel) ?_
            refine mm_iload_n d11_trade_61 rfl ?_
            refine mm_imul d11_trade_62 ?_
            refine mm_iload_n d11_trade_63 rfl ?_
            refine mm_iadd d11_trade_64 ?_
            obtain ⟨hb13, h⟩ := mm_gd h
            refine mm_iald d11_trade_65 (mm_wtA hS 1 0 h0 rfl rfl) (mm_inb_ok hb13) ?_
            have h := Option.some.inj h
            subst h
            exact mm_iret rfl d11_trade_66 ⟨rfl, rfl, rfl⟩
          · rw [if_neg hc6] at h
            by_cases hc7 : v2 = 4
            · rw [if_pos hc7] at h
              refine mm_tabIn (4) (tgt := 67) d11_trade_13 (by rw [hc7]; decide +kernel) (by decide) (by decide) rfl (by decide) ?_
              refine mm_aload_n d11_trade_67 rfl ?_
              refine mm_iload_n d11_trade_68 rfl ?_
              refine mm_iconst (v := 1) d11_trade_69 (by decide +kernel) ?_
              obtain ⟨o12, hk12, h⟩ := mm_bd h
              refine mm_cVi 11 (As := [.int v1, .int 1]) (ok11_knowers l hS h0 hk12) lk_X11_258 rfl d11_trade_70 (mm_room rfl rfl) rfl h0 rfl rfl ?_
              have h := Option.some.inj h
              subst h
              exact mm_iret rfl d11_trade_73 ⟨rfl, rfl, rfl⟩
            · rw [if_neg hc7] at h
              by_cases hc8 : v2 = 5
              · rw [if_pos hc8] at h
                refine mm_tabIn (5) (tgt := 74) d11_trade_13 (by rw [hc8]; decide +kernel) (by decide) (by decide) rfl (by decide) ?_
                refine mm_aload_n d11_trade_74 rfl ?_
                refine mm_iload_n d11_trade_75 rfl ?_
                refine mm_bipush (v := 50) d11_trade_76 (by decide +kernel) ?_
                obtain ⟨o11, hk11, h⟩ := mm_bd h
                refine mm_cVi 11 (As := [.int v1, .int 50]) (ok11_knowers l hS h0 hk11) lk_X11_258 rfl d11_trade_78 (mm_room rfl rfl) rfl h0 rfl rfl ?_
                have h := Option.some.inj h
                subst h
                exact mm_iret rfl d11_trade_81 ⟨rfl, rfl, rfl⟩
              · rw [if_neg hc8] at h
                by_cases hc9 : v2 = 6
                · rw [if_pos hc9] at h
                  refine mm_tabIn (6) (tgt := 82) d11_trade_13 (by rw [hc9]; decide +kernel) (by decide) (by decide) rfl (by decide) ?_
                  refine mm_aload_n d11_trade_82 rfl ?_
                  refine mm_getR fl_X11_72 d11_trade_83 (mm_wtR hS 50 h0 rfl rfl) ?_
                  refine mm_iload_n d11_trade_86 rfl ?_
                  obtain ⟨hb10, h⟩ := mm_gd h
                  refine mm_iald d11_trade_87 (mm_wtA hS 25 0 h0 rfl rfl) (mm_inb_ok hb10) ?_
                  have h := Option.some.inj h
                  subst h
                  exact mm_iret rfl d11_trade_88 ⟨rfl, rfl, rfl⟩
                · rw [if_neg hc9] at h
                  have hn3 := lv_neT (a := 0) hc3 (by decide +kernel)
                  have hn4 := lv_neT (a := 1) hc4 (by decide +kernel)
                  have hn5 := lv_neT (a := 2) hc5 (by decide +kernel)
                  have hn6 := lv_neT (a := 3) hc6 (by decide +kernel)
                  have hn7 := lv_neT (a := 4) hc7 (by decide +kernel)
                  have hn8 := lv_neT (a := 5) hc8 (by decide +kernel)
                  have hn9 := lv_neT (a := 6) hc9 (by decide +kernel)
                  refine mm_tabOut (tgt := 89) d11_trade_13 (by omega) (by decide) ?_
                  refine mm_ldc (v := (-1000000002)) d11_trade_89 kX11_156 ?_
                  have h := Option.some.inj h
                  subst h
                  exact mm_iret rfl d11_trade_91 ⟨rfl, rfl, rfl⟩
  · rw [if_pos hc2] at h
    refine mm_ldcw (v := (-1000000001)) d11_trade_8 kX11_271 ?_
    have h := Option.some.inj h
    subst h
    exact mm_iret rfl d11_trade_11 ⟨rfl, rfl, rfl⟩
set_option maxHeartbeats 4000000 in
set_option maxRecDepth 100000 in
theorem ok11_tradeYear_73 (l : Launch) {S : mm_Sh} (hS : mm_WT S) {n : Nat}    {I : mm_I} {J : mm_J} {o : mm_I × mm_J} (h : f11_tradeYear_73 S n  I J = some o) : mm_W l M11_tradeYear (mm_rm (mm_rk M11_tradeYear)) 0 0 S (mm_end S (mm_Qv o.1 o.2)) 73 [] [] I J := by
  unfold f11_tradeYear_73 at h
  have h := Option.some.inj h
  subst h
  exact mm_vret rfl d11_tradeYear_73 ⟨rfl, rfl, rfl⟩
set_option maxHeartbeats 4000000 in
set_option maxRecDepth 100000 in
theorem ok11_tradeYear_199 (l : Launch) {S : mm_Sh} (hS : mm_WT S) {n : Nat}    {I : mm_I} {J : mm_J} {o : mm_I × mm_J} (h : f11_tradeYear_199 S n  I J = some o) : mm_W l M11_tradeYear (mm_rm (mm_rk M11_tradeYear)) 0 0 S (mm_end S (mm_Qv o.1 o.2)) 199 [] [] I J := by
  unfold f11_tradeYear_199 at h
  have h := Option.some.inj h
  subst h
  exact mm_vret rfl d11_tradeYear_199 ⟨rfl, rfl, rfl⟩
set_option maxHeartbeats 4000000 in
set_option maxRecDepth 100000 in
theorem ok11_tradeYear_132 (l : Launch) {S : mm_Sh} (hS : mm_WT S) {n : Nat}  {s0 : Nat} {s1 : Int32} {s2 : Int32} (g0 : S[s0]? = some (.inl (0, mm_al S s0))) {I : mm_I} {J : mm_J} {o : mm_I × mm_J} (h : f11_tradeYear_132 S n s0 s1 s2 I J = some o) : mm_W l M11_tradeYear (mm_rm (mm_rk M11_tradeYear)) 0 0 S (mm_end S (mm_Qv o.1 o.2)) 132 [] [.int s2, .int s1, .ref s0] I J := by
  unfold f11_tradeYear_132 at h
  obtain ⟨hb1, h⟩ := mm_gd h
  refine mm_iast d11_tradeYear_132 g0 (mm_inb_ok hb1) ?_
  refine mm_goto (tgt := 199) d11_tradeYear_133 (by decide) ?_
  refine mm_sub [] trivial ?_
  exact ok11_tradeYear_199 l hS   h
set_option maxHeartbeats 4000000 in
set_option maxRecDepth 100000 in
theorem ok11_tradeYear_63 (l : Launch) {S : mm_Sh} (hS : mm_WT S) {n : Nat}  {v0 : Nat} {v1 : Int32} {v2 : Int32} {v3 : Int32} {v4 : Int32} {v5 : Int32} (h0 : mm_is S v0 11) {I : mm_I} {J : mm_J} {o : mm_I × mm_J} (h : f11_tradeYear_63 S n v0 v1 v2 v3 v4 v5 I J = some o) : mm_W l M11_tradeYear (mm_rm (mm_rk M11_tradeYear)) 0 0 S (mm_end S (mm_Qv o.1 o.2)) 63 [(0, .ref v0), (1, .int v1), (2, .int v2), (3, .int v3), (4, .int v4), (5, .int v5)] [] I J := by
  unfold f11_tradeYear_63 at h
  refine mm_iload d11_tradeYear_63 rfl ?_
  refine mm_if_ne (tgt := 73) d11_tradeYear_65 (by decide) (fun hc1 => ?_) (fun hc1 => ?_)
  · rw [if_neg hc1] at h
    refine mm_sub [] trivial ?_
    exact ok11_tradeYear_73 l hS   h
  · rw [if_pos hc1] at h
    refine mm_iload d11_tradeYear_68 rfl ?_
    refine mm_if_eq (tgt := 74) d11_tradeYear_70 (by decide) (fun hc2 => ?_) (fun hc2 => ?_)
    · rw [if_pos hc2] at h
      refine mm_aload_n d11_tradeYear_74 rfl ?_
      refine mm_getR fl_X11_45 d11_tradeYear_75 (mm_wtR hS 50 h0 rfl rfl) ?_
      refine mm_iload_n d11_tradeYear_78 rfl ?_
      obtain ⟨hb3, h⟩ := mm_gd h
      refine mm_iald d11_tradeYear_79 (mm_wtA hS 14 0 h0 rfl rfl) (mm_inb_ok hb3) ?_
      refine mm_if_le (tgt := 136) d11_tradeYear_80 (by decide) (fun hc4 => ?_) (fun hc4 => ?_)
      · rw [if_pos hc4] at h
        refine mm_aload_n d11_tradeYear_136 rfl ?_
        refine mm_getR fl_X11_7 d11_tradeYear_137 (mm_wtR hS 50 h0 rfl rfl) ?_
        refine mm_iconst (v := 4) d11_tradeYear_140 (by decide +kernel) ?_
        refine mm_iload_n d11_tradeYear_141 rfl ?_
        refine mm_imul d11_tradeYear_142 ?_
        obtain ⟨hb5, h⟩ := mm_gd h
        refine mm_iald d11_tradeYear_143 (mm_wtA hS 1 0 h0 rfl rfl) (mm_inb_ok hb5) ?_
        refine mm_iconst (v := 1) d11_tradeYear_144 (by decide +kernel) ?_
        refine mm_icmp_ne (tgt := 199) d11_tradeYear_145 (by decide) (fun hc6 => ?_) (fun hc6 => ?_)
        · rw [if_neg hc6] at h
          refine mm_sub [] trivial ?_
          exact ok11_tradeYear_199 l hS   h
        · rw [if_pos hc6] at h
          refine mm_aload_n d11_tradeYear_148 rfl ?_
          refine mm_getR fl_X11_48 d11_tradeYear_149 (mm_wtR hS 50 h0 rfl rfl) ?_
          refine mm_iload_n d11_tradeYear_152 rfl ?_
          obtain ⟨hb7, h⟩ := mm_gd h
          refine mm_iald d11_tradeYear_153 (mm_wtA hS 15 0 h0 rfl rfl) (mm_inb_ok hb7) ?_
          refine mm_if_lt (tgt := 199) d11_tradeYear_154 (by decide) (fun hc8 => ?_) (fun hc8 => ?_)
          · rw [if_pos hc8] at h
            refine mm_sub [] trivial ?_
            exact ok11_tradeYear_199 l hS   h
          · rw [if_neg hc8] at h
            refine mm_aload_n d11_tradeYear_157 rfl ?_
            refine mm_getI fl_X11_147 d11_tradeYear_158 (mm_wtI hS h0 rfl) ?_
            refine mm_aload_n d11_tradeYear_161 rfl ?_
            refine mm_getR fl_X11_48 d11_tradeYear_162 (mm_wtR hS 50 h0 rfl rfl) ?_
            refine mm_iload_n d11_tradeYear_165 rfl ?_
            obtain ⟨hb9, h⟩ := mm_gd h
            refine mm_iald d11_tradeYear_166 (mm_wtA hS 15 0 h0 rfl rfl) (mm_inb_ok hb9) ?_
            refine mm_bipush (v := 9) d11_tradeYear_167 (by decide +kernel) ?_
            refine mm_iadd d11_tradeYear_169 ?_
            refine mm_icmp_lt (tgt := 199) d11_tradeYear_170 (by decide) (fun hc10 => ?_) (fun hc10 => ?_)
            · rw [if_pos hc10] at h
              refine mm_sub [] trivial ?_
              exact ok11_tradeYear_199 l hS   h
            · rw [if_neg hc10] at h
              refine mm_aload_n d11_tradeYear_173 rfl ?_
              refine mm_iload_n d11_tradeYear_174 rfl ?_
              obtain ⟨o11, hk11, h⟩ := mm_bd h
              refine mm_cVi 11 (As := [.int v1]) (ok11_knownMany l hS h0 hk11) lk_X11_281 rfl d11_tradeYear_175 (mm_room rfl rfl) rfl h0 rfl rfl ?_
              refine mm_aload_n d11_tradeYear_178 rfl ?_
              refine mm_getI fl_X11_22 d11_tradeYear_179 (mm_wtI hS h0 rfl) ?_
              refine mm_icmp_ge (tgt := 199) d11_tradeYear_182 (by decide) (fun hc12 => ?_) (fun hc12 => ?_)
              · rw [if_pos hc12] at h
                refine mm_sub [] trivial ?_
                exact ok11_tradeYear_199 l hS   h
              · rw [if_neg hc12] at h
                refine mm_aload_n d11_tradeYear_185 rfl ?_
                refine mm_getR fl_X11_45 d11_tradeYear_186 (mm_wtR hS 50 h0 rfl rfl) ?_
                refine mm_iload_n d11_tradeYear_189 rfl ?_
                refine mm_iconst (v := 1) d11_tradeYear_190 (by decide +kernel) ?_
                obtain ⟨hb13, h⟩ := mm_gd h
                refine mm_iast d11_tradeYear_191 (mm_wtA hS 14 0 h0 rfl rfl) (mm_inb_ok hb13) ?_
                refine mm_aload_n d11_tradeYear_192 rfl ?_
                refine mm_getR fl_X11_48 d11_tradeYear_193 (mm_wtR hS 50 h0 rfl rfl) ?_
                refine mm_iload_n d11_tradeYear_196 rfl ?_
                refine mm_iconst (v := (-1)) d11_tradeYear_197 (by decide +kernel) ?_
                obtain ⟨hb14, h⟩ := mm_gd h
                refine mm_iast d11_tradeYear_198 (mm_wtA hS 15 0 h0 rfl rfl) (mm_inb_ok hb14) ?_
                refine mm_sub [] trivial ?_
                exact ok11_tradeYear_199 l hS   h
      · rw [if_neg hc4] at h
        refine mm_aload_n d11_tradeYear_83 rfl ?_
        refine mm_getR fl_X11_45 d11_tradeYear_84 (mm_wtR hS 50 h0 rfl rfl) ?_
        refine mm_iload_n d11_tradeYear_87 rfl ?_
        obtain ⟨hb15, h⟩ := mm_gd h
        refine mm_iald d11_tradeYear_88 (mm_wtA hS 14 0 h0 rfl rfl) (mm_inb_ok hb15) ?_
        refine mm_aload_n d11_tradeYear_89 rfl ?_
        refine mm_getI fl_X11_32 d11_tradeYear_90 (mm_wtI hS h0 rfl) ?_
        refine mm_isub d11_tradeYear_93 ?_
        refine mm_istore d11_tradeYear_94 rfl rfl ?_
        refine mm_aload_n d11_tradeYear_96 rfl ?_
        refine mm_getR fl_X11_45 d11_tradeYear_97 (mm_wtR hS 50 h0 rfl rfl) ?_
        refine mm_iload_n d11_tradeYear_100 rfl ?_
        refine mm_aload_n d11_tradeYear_101 rfl ?_
        refine mm_getR fl_X11_51 d11_tradeYear_102 (mm_wtR hS 50 h0 rfl rfl) ?_
        refine mm_iload_n d11_tradeYear_105 rfl ?_
        obtain ⟨hb16, h⟩ := mm_gd h
        refine mm_iald d11_tradeYear_106 (mm_wtA hS 16 0 h0 rfl rfl) (mm_inb_ok hb16) ?_
        refine mm_iload_n d11_tradeYear_107 rfl ?_
        refine mm_icmp_ne (tgt := 120) d11_tradeYear_108 (by decide) (fun hc17 => ?_) (fun hc17 => ?_)
        · rw [if_neg hc17] at h
          refine mm_iload d11_tradeYear_120 rfl ?_
          refine mm_iconst (v := 1) d11_tradeYear_122 (by decide +kernel) ?_
          refine mm_icmp_ge (tgt := 130) d11_tradeYear_123 (by decide) (fun hc18 => ?_) (fun hc18 => ?_)
          · rw [if_pos hc18] at h
            refine mm_iload d11_tradeYear_130 rfl ?_
            refine mm_sub [] trivial ?_
            exact ok11_tradeYear_132 l hS  (mm_wtA hS 14 0 h0 rfl rfl) h
          · rw [if_neg hc18] at h
            refine mm_iconst (v := 1) d11_tradeYear_126 (by decide +kernel) ?_
            refine mm_goto (tgt := 132) d11_tradeYear_127 (by decide) ?_
            refine mm_sub [] trivial ?_
            exact ok11_tradeYear_132 l hS  (mm_wtA hS 14 0 h0 rfl rfl) h
        · rw [if_pos hc17] at h
          refine mm_aload_n d11_tradeYear_111 rfl ?_
          refine mm_getR fl_X11_45 d11_tradeYear_112 (mm_wtR hS 50 h0 rfl rfl) ?_
          refine mm_iload_n d11_tradeYear_115 rfl ?_
          obtain ⟨hb19, h⟩ := mm_gd h
          refine mm_iald d11_tradeYear_116 (mm_wtA hS 14 0 h0 rfl rfl) (mm_inb_ok hb19) ?_
          refine mm_goto (tgt := 132) d11_tradeYear_117 (by decide) ?_
          refine mm_sub [] trivial ?_
          exact ok11_tradeYear_132 l hS  (mm_wtA hS 14 0 h0 rfl rfl) h
    · rw [if_neg hc2] at h
      refine mm_sub [] trivial ?_
      exact ok11_tradeYear_73 l hS   h
set_option maxHeartbeats 4000000 in
set_option maxRecDepth 100000 in
theorem ok11_tradeYear_52 (l : Launch) {S : mm_Sh} (hS : mm_WT S) {n : Nat}  {v0 : Nat} {v1 : Int32} {v2 : Int32} {v3 : Int32} {v4 : Int32} {v5 : Int32} (h0 : mm_is S v0 11) {I : mm_I} {J : mm_J} {o : mm_I × mm_J} (h : f11_tradeYear_52 S n v0 v1 v2 v3 v4 v5 I J = some o) : mm_W l M11_tradeYear (mm_rm (mm_rk M11_tradeYear)) 0 0 S (mm_end S (mm_Qv o.1 o.2)) 52 [(0, .ref v0), (1, .int v1), (2, .int v2), (3, .int v3), (4, .int v4), (5, .int v5)] [] I J := by
  unfold f11_tradeYear_52 at h
  refine mm_iload d11_tradeYear_52 rfl ?_
  refine mm_if_eq (tgt := 63) d11_tradeYear_54 (by decide) (fun hc1 => ?_) (fun hc1 => ?_)
  · rw [if_pos hc1] at h
    refine mm_sub [(0, .ref v0), (1, .int v1), (2, .int v2), (3, .int v3), (4, .int v4), (5, .int v5)] ⟨rfl, rfl, rfl, rfl, rfl, rfl, trivial⟩ ?_
    exact ok11_tradeYear_63 l hS  h0 h
  · rw [if_neg hc1] at h
    refine mm_aload_n d11_tradeYear_57 rfl ?_
    refine mm_iload_n d11_tradeYear_58 rfl ?_
    refine mm_iload_n d11_tradeYear_59 rfl ?_
    obtain ⟨o2, hk2, h⟩ := mm_bd h
    refine mm_cVv 11 (As := [.int v1, .int v2]) (ok11_learnOn l hS h0 hk2) lk_X11_318 rfl d11_tradeYear_60 (mm_room rfl rfl) rfl h0 rfl rfl ?_
    refine mm_sub [(0, .ref v0), (1, .int v1), (2, .int v2), (3, .int v3), (4, .int v4), (5, .int v5)] ⟨rfl, rfl, rfl, rfl, rfl, rfl, trivial⟩ ?_
    exact ok11_tradeYear_63 l hS  h0 h
set_option maxHeartbeats 4000000 in
set_option maxRecDepth 100000 in
theorem ok11_tradeYear_39 (l : Launch) {S : mm_Sh} (hS : mm_WT S) {n : Nat}  {v0 : Nat} {v1 : Int32} {v2 : Int32} {v3 : Int32} {v4 : Int32} {s0 : Int32} (h0 : mm_is S v0 11) {I : mm_I} {J : mm_J} {o : mm_I × mm_J} (h : f11_tradeYear_39 S n v0 v1 v2 v3 v4 s0 I J = some o) : mm_W l M11_tradeYear (mm_rm (mm_rk M11_tradeYear)) 0 0 S (mm_end S (mm_Qv o.1 o.2)) 39 [(0, .ref v0), (1, .int v1), (2, .int v2), (3, .int v3), (4, .int v4)] [.int s0] I J := by
  unfold f11_tradeYear_39 at h
  refine mm_istore d11_tradeYear_39 rfl rfl ?_
  refine mm_iload d11_tradeYear_41 rfl ?_
  refine mm_if_eq (tgt := 52) d11_tradeYear_43 (by decide) (fun hc1 => ?_) (fun hc1 => ?_)
  · rw [if_pos hc1] at h
    refine mm_sub [(0, .ref v0), (1, .int v1), (2, .int v2), (3, .int v3), (4, .int v4), (5, .int s0)] ⟨rfl, rfl, rfl, rfl, rfl, rfl, trivial⟩ ?_
    exact ok11_tradeYear_52 l hS  h0 h
  · rw [if_neg hc1] at h
    refine mm_aload_n d11_tradeYear_46 rfl ?_
    refine mm_iload_n d11_tradeYear_47 rfl ?_
    refine mm_iload_n d11_tradeYear_48 rfl ?_
    obtain ⟨o2, hk2, h⟩ := mm_bd h
    refine mm_cVv 11 (As := [.int v1, .int v2]) (ok11_forgetOn l hS h0 hk2) lk_X11_314 rfl d11_tradeYear_49 (mm_room rfl rfl) rfl h0 rfl rfl ?_
    refine mm_sub [(0, .ref v0), (1, .int v1), (2, .int v2), (3, .int v3), (4, .int v4), (5, .int s0)] ⟨rfl, rfl, rfl, rfl, rfl, rfl, trivial⟩ ?_
    exact ok11_tradeYear_52 l hS  h0 h
set_option maxHeartbeats 4000000 in
set_option maxRecDepth 100000 in
theorem ok11_tradeYear_22 (l : Launch) {S : mm_Sh} (hS : mm_WT S) {n : Nat}  {v0 : Nat} {v1 : Int32} {v2 : Int32} {v3 : Int32} {s0 : Int32} (h0 : mm_is S v0 11) {I : mm_I} {J : mm_J} {o : mm_I × mm_J} (h : f11_tradeYear_22 S n v0 v1 v2 v3 s0 I J = some o) : mm_W l M11_tradeYear (mm_rm (mm_rk M11_tradeYear)) 0 0 S (mm_end S (mm_Qv o.1 o.2)) 22 [(0, .ref v0), (1, .int v1), (2, .int v2), (3, .int v3)] [.int s0] I J := by
  unfold f11_tradeYear_22 at h
  refine mm_istore d11_tradeYear_22 rfl rfl ?_
  refine mm_aload_n d11_tradeYear_24 rfl ?_
  refine mm_getR fl_X11_54 d11_tradeYear_25 (mm_wtR hS 50 h0 rfl rfl) ?_
  refine mm_iload_n d11_tradeYear_28 rfl ?_
  obtain ⟨hb1, h⟩ := mm_gd h
  refine mm_iald d11_tradeYear_29 (mm_wtA hS 17 0 h0 rfl rfl) (mm_inb_ok hb1) ?_
  refine mm_iload_n d11_tradeYear_30 rfl ?_
  refine mm_icmp_ne (tgt := 38) d11_tradeYear_31 (by decide) (fun hc2 => ?_) (fun hc2 => ?_)
  · rw [if_neg hc2] at h
    refine mm_iconst (v := 0) d11_tradeYear_38 (by decide +kernel) ?_
    refine mm_sub [(0, .ref v0), (1, .int v1), (2, .int v2), (3, .int v3), (4, .int s0)] ⟨rfl, rfl, rfl, rfl, rfl, trivial⟩ ?_
    exact ok11_tradeYear_39 l hS  h0 h
  · rw [if_pos hc2] at h
    refine mm_iconst (v := 1) d11_tradeYear_34 (by decide +kernel) ?_
    refine mm_goto (tgt := 39) d11_tradeYear_35 (by decide) ?_
    refine mm_sub [(0, .ref v0), (1, .int v1), (2, .int v2), (3, .int v3), (4, .int s0)] ⟨rfl, rfl, rfl, rfl, rfl, trivial⟩ ?_
    exact ok11_tradeYear_39 l hS  h0 h
set_option maxHeartbeats 4000000 in
set_option maxRecDepth 100000 in
theorem ok11_tradeYear (l : Launch) {S : mm_Sh} (hS : mm_WT S) {n : Nat}  {v0 : Nat} {v1 : Int32} {v2 : Int32} (h0 : mm_is S v0 11) {I : mm_I} {J : mm_J} {o : mm_I × mm_J} (h : f11_tradeYear S n v0 v1 v2 I J = some o) : mm_C l M11_tradeYear S [.ref v0, .int v1, .int v2] I J (mm_Qv o.1 o.2) := by
  unfold f11_tradeYear at h
  refine mm_enter rfl (by decide +kernel) rfl ?_
  refine mm_bipush (v := 6) d11_tradeYear_0 (by decide +kernel) ?_
  refine mm_iload_n d11_tradeYear_2 rfl ?_
  refine mm_imul d11_tradeYear_3 ?_
  refine mm_iload_n d11_tradeYear_4 rfl ?_
  refine mm_iadd d11_tradeYear_5 ?_
  refine mm_istore_n d11_tradeYear_6 rfl rfl ?_
  refine mm_aload_n d11_tradeYear_7 rfl ?_
  refine mm_getR fl_X11_60 d11_tradeYear_8 (mm_wtR hS 50 h0 rfl rfl) ?_
  refine mm_iload_n d11_tradeYear_11 rfl ?_
  obtain ⟨hb1, h⟩ := mm_gd h
  refine mm_iald d11_tradeYear_12 (mm_wtA hS 19 0 h0 rfl rfl) (mm_inb_ok hb1) ?_
  refine mm_iload_n d11_tradeYear_13 rfl ?_
  refine mm_icmp_ne (tgt := 21) d11_tradeYear_14 (by decide) (fun hc2 => ?_) (fun hc2 => ?_)
  · rw [if_neg hc2] at h
    refine mm_iconst (v := 0) d11_tradeYear_21 (by decide +kernel) ?_
    refine mm_sub [(0, .ref v0), (1, .int v1), (2, .int v2), (3, .int ((6 * v1) + v2))] ⟨rfl, rfl, rfl, rfl, trivial⟩ ?_
    exact ok11_tradeYear_22 l hS  h0 h
  · rw [if_pos hc2] at h
    refine mm_iconst (v := 1) d11_tradeYear_17 (by decide +kernel) ?_
    refine mm_goto (tgt := 22) d11_tradeYear_18 (by decide) ?_
    refine mm_sub [(0, .ref v0), (1, .int v1), (2, .int v2), (3, .int ((6 * v1) + v2))] ⟨rfl, rfl, rfl, rfl, trivial⟩ ?_
    exact ok11_tradeYear_22 l hS  h0 h
set_option maxHeartbeats 4000000 in
set_option maxRecDepth 100000 in
theorem ok11_want (l : Launch) {S : mm_Sh} (hS : mm_WT S)  {v0 : Nat} {v1 : Int32} {v2 : Int32} (h0 : mm_is S v0 11) {I : mm_I} {J : mm_J} {o : Int32 × mm_I × mm_J} (h : f11_want S v0 v1 v2 I J = some o) : mm_C l M11_want S [.ref v0, .int v1, .int v2] I J (mm_Qi o.1 o.2.1 o.2.2) := by
  unfold f11_want at h
  refine mm_enter rfl (by decide +kernel) rfl ?_
  refine mm_aload_n d11_want_0 rfl ?_
  refine mm_iload_n d11_want_1 rfl ?_
  obtain ⟨o1, hk1, h⟩ := mm_bd h
  refine mm_cVi 11 (As := [.int v1]) (ok11_isTrade l hS h0 hk1) lk_X11_267 rfl d11_want_2 (mm_room rfl rfl) rfl h0 rfl rfl ?_
  refine mm_if_ne (tgt := 12) d11_want_5 (by decide) (fun hc2 => ?_) (fun hc2 => ?_)
  · rw [if_neg hc2] at h
    refine mm_iload_n d11_want_12 rfl ?_
    refine mm_i2l d11_want_13 ?_
    refine mm_lconst (v := 0) d11_want_14 (by decide +kernel) ?_
    refine mm_ldc2 (v := 8) d11_want_15 kX11_154 ?_
    obtain ⟨o3, hk3, h⟩ := mm_bd h
    refine mm_cSi (As := [.long v2.toInt64, .long 0, .long 8]) (ok11_in l hS hk3) lk_X11_136 rfl d11_want_18 (mm_room rfl rfl) rfl rfl ?_
    refine mm_if_ne (tgt := 27) d11_want_21 (by decide) (fun hc4 => ?_) (fun hc4 => ?_)
    · rw [if_neg hc4] at h
      refine mm_aload_n d11_want_27 rfl ?_
      refine mm_getR fl_X11_72 d11_want_28 (mm_wtR hS 50 h0 rfl rfl) ?_
      refine mm_iload_n d11_want_31 rfl ?_
      obtain ⟨hb5, h⟩ := mm_gd h
      refine mm_iald d11_want_32 (mm_wtA hS 25 0 h0 rfl rfl) (mm_inb_ok hb5) ?_
      refine mm_istore_n d11_want_33 rfl rfl ?_
      refine mm_aload_n d11_want_34 rfl ?_
      refine mm_getR fl_X11_72 d11_want_35 (mm_wtR hS 50 h0 rfl rfl) ?_
      refine mm_iload_n d11_want_38 rfl ?_
      refine mm_iload_n d11_want_39 rfl ?_
      obtain ⟨hb6, h⟩ := mm_gd h
      refine mm_iast d11_want_40 (mm_wtA hS 25 0 h0 rfl rfl) (mm_inb_ok hb6) ?_
      refine mm_iload_n d11_want_41 rfl ?_
      have h := Option.some.inj h
      subst h
      exact mm_iret rfl d11_want_42 ⟨rfl, rfl, rfl⟩
    · rw [if_pos hc4] at h
      refine mm_ldc (v := (-1000000002)) d11_want_24 kX11_156 ?_
      have h := Option.some.inj h
      subst h
      exact mm_iret rfl d11_want_26 ⟨rfl, rfl, rfl⟩
  · rw [if_pos hc2] at h
    refine mm_ldcw (v := (-1000000001)) d11_want_8 kX11_271 ?_
    have h := Option.some.inj h
    subst h
    exact mm_iret rfl d11_want_11 ⟨rfl, rfl, rfl⟩
set_option maxHeartbeats 4000000 in
set_option maxRecDepth 100000 in
theorem ok11_write_16 (l : Launch) {S : mm_Sh} (hS : mm_WT S)    {I : mm_I} {J : mm_J} {o : Int32 × mm_I × mm_J} (h : f11_write_16 S  I J = some o) : mm_W l M11_write (mm_rm (mm_rk M11_write)) 0 0 S (mm_end S (mm_Qi o.1 o.2.1 o.2.2)) 16 [] [] I J := by
  unfold f11_write_16 at h
  refine mm_ldcw (v := (-1000000001)) d11_write_16 kX11_271 ?_
  have h := Option.some.inj h
  subst h
  exact mm_iret rfl d11_write_19 ⟨rfl, rfl, rfl⟩
set_option maxHeartbeats 4000000 in
set_option maxRecDepth 100000 in
theorem ok11_write (l : Launch) {S : mm_Sh} (hS : mm_WT S)  {v0 : Nat} {v1 : Int32} {v2 : Int32} {v3 : Int32} (h0 : mm_is S v0 11) {I : mm_I} {J : mm_J} {o : Int32 × mm_I × mm_J} (h : f11_write S v0 v1 v2 v3 I J = some o) : mm_C l M11_write S [.ref v0, .int v1, .int v2, .int v3] I J (mm_Qi o.1 o.2.1 o.2.2) := by
  unfold f11_write at h
  refine mm_enter rfl (by decide +kernel) rfl ?_
  refine mm_aload_n d11_write_0 rfl ?_
  refine mm_iload_n d11_write_1 rfl ?_
  obtain ⟨o1, hk1, h⟩ := mm_bd h
  refine mm_cVi 11 (As := [.int v1]) (ok11_isPerson l hS h0 hk1) lk_X11_272 rfl d11_write_2 (mm_room rfl rfl) rfl h0 rfl rfl ?_
  refine mm_if_eq (tgt := 16) d11_write_5 (by decide) (fun hc2 => ?_) (fun hc2 => ?_)
  · rw [if_pos hc2] at h
    refine mm_sub [] trivial ?_
    exact ok11_write_16 l hS   h
  · rw [if_neg hc2] at h
    refine mm_aload_n d11_write_8 rfl ?_
    refine mm_iload_n d11_write_9 rfl ?_
    obtain ⟨o3, hk3, h⟩ := mm_bd h
    refine mm_cVi 11 (As := [.int v2]) (ok11_isTrade l hS h0 hk3) lk_X11_267 rfl d11_write_10 (mm_room rfl rfl) rfl h0 rfl rfl ?_
    refine mm_if_ne (tgt := 20) d11_write_13 (by decide) (fun hc4 => ?_) (fun hc4 => ?_)
    · rw [if_neg hc4] at h
      refine mm_iload_n d11_write_20 rfl ?_
      refine mm_i2l d11_write_21 ?_
      refine mm_lconst (v := 0) d11_write_22 (by decide +kernel) ?_
      refine mm_ldc2 (v := 100) d11_write_23 kX11_338 ?_
      obtain ⟨o5, hk5, h⟩ := mm_bd h
      refine mm_cSi (As := [.long v3.toInt64, .long 0, .long 100]) (ok11_in l hS hk5) lk_X11_136 rfl d11_write_26 (mm_room rfl rfl) rfl rfl ?_
      refine mm_if_ne (tgt := 35) d11_write_29 (by decide) (fun hc6 => ?_) (fun hc6 => ?_)
      · rw [if_neg hc6] at h
        refine mm_aload_n d11_write_35 rfl ?_
        refine mm_getI fl_X11_247 d11_write_36 (mm_wtI hS h0 rfl) ?_
        refine mm_bipush (v := 40) d11_write_39 (by decide +kernel) ?_
        refine mm_icmp_ne (tgt := 47) d11_write_41 (by decide) (fun hc7 => ?_) (fun hc7 => ?_)
        · rw [if_neg hc7] at h
          refine mm_aload_n d11_write_47 rfl ?_
          refine mm_getR fl_X11_114 d11_write_48 (mm_wtR hS 50 h0 rfl rfl) ?_
          refine mm_aload_n d11_write_51 rfl ?_
          refine mm_getI fl_X11_247 d11_write_52 (mm_wtI hS h0 rfl) ?_
          refine mm_iload_n d11_write_55 rfl ?_
          obtain ⟨hb8, h⟩ := mm_gd h
          refine mm_iast d11_write_56 (mm_wtA hS 52 0 h0 rfl rfl) (mm_inb_ok hb8) ?_
          refine mm_aload_n d11_write_57 rfl ?_
          refine mm_getR fl_X11_117 d11_write_58 (mm_wtR hS 50 h0 rfl rfl) ?_
          refine mm_aload_n d11_write_61 rfl ?_
          refine mm_getI fl_X11_247 d11_write_62 (mm_wtI hS h0 rfl) ?_
          refine mm_iload_n d11_write_65 rfl ?_
          obtain ⟨hb9, h⟩ := mm_gd h
          refine mm_iast d11_write_66 (mm_wtA hS 53 0 h0 rfl rfl) (mm_inb_ok hb9) ?_
          refine mm_aload_n d11_write_67 rfl ?_
          refine mm_getR fl_X11_120 d11_write_68 (mm_wtR hS 50 h0 rfl rfl) ?_
          refine mm_aload_n d11_write_71 rfl ?_
          refine mm_getI fl_X11_247 d11_write_72 (mm_wtI hS h0 rfl) ?_
          refine mm_iload_n d11_write_75 rfl ?_
          obtain ⟨hb10, h⟩ := mm_gd h
          refine mm_iast d11_write_76 (mm_wtA hS 54 0 h0 rfl rfl) (mm_inb_ok hb10) ?_
          refine mm_aload_n d11_write_77 rfl ?_
          refine mm_dup d11_write_78 rfl ?_
          refine mm_getI fl_X11_247 d11_write_79 (mm_wtI hS h0 rfl) ?_
          refine mm_iconst (v := 1) d11_write_82 (by decide +kernel) ?_
          refine mm_iadd d11_write_83 ?_
          refine mm_putI fp_X11_247 d11_write_84 (mm_wtI hS h0 rfl) ?_
          refine mm_aload_n d11_write_87 rfl ?_
          refine mm_getI fl_X11_247 d11_write_88 (mm_wtI hS h0 rfl) ?_
          have h := Option.some.inj h
          subst h
          exact mm_iret rfl d11_write_91 ⟨rfl, rfl, rfl⟩
        · rw [if_pos hc7] at h
          refine mm_ldc (v := (-1000000004)) d11_write_44 kX11_160 ?_
          have h := Option.some.inj h
          subst h
          exact mm_iret rfl d11_write_46 ⟨rfl, rfl, rfl⟩
      · rw [if_pos hc6] at h
        refine mm_ldc (v := (-1000000002)) d11_write_32 kX11_156 ?_
        have h := Option.some.inj h
        subst h
        exact mm_iret rfl d11_write_34 ⟨rfl, rfl, rfl⟩
    · rw [if_pos hc4] at h
      refine mm_sub [] trivial ?_
      exact ok11_write_16 l hS   h
