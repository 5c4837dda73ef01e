/-! ===== the machine does what the functions say: written by wip/whole/gen.py ===== -/
set_option maxHeartbeats 4000000 in
set_option maxRecDepth 100000 in
theorem ok11_changeNow_21 (l : Launch) {S : mm_Sh} (hS : mm_WT S) {n : Nat}    {I : mm_I} {J : mm_J} {o : Int32 × mm_I × mm_J} (h : f11_changeNow_21 S n  I J = some o) : mm_W l M11_changeNow (mm_rm (mm_rk M11_changeNow)) 0 0 S (mm_end S (mm_Qi o.1 o.2.1 o.2.2)) 21 [] [] I J := by
  unfold f11_changeNow_21 at h
  refine mm_ldc (v := (-1000000003)) d11_changeNow_21 kX11_250 ?_
  have h := Option.some.inj h
  subst h
  exact mm_iret rfl d11_changeNow_23 ⟨rfl, rfl, rfl⟩
set_option maxHeartbeats 4000000 in
set_option maxRecDepth 100000 in
theorem ok11_changeNow_92 (l : Launch) {S : mm_Sh} (hS : mm_WT S) {n : Nat}  {rec52 : Nat → Int32 → Int32 → Int32 → Int32 → Int32 → Int32 → mm_I → mm_J → Option (Int32 × mm_I × mm_J)} (hrec52 : ∀ {v0 : Nat} {v1 : Int32} {v2 : Int32} {v3 : Int32} {v4 : Int32} {v5 : Int32} {v6 : Int32} (_ : mm_is S v0 11) {I : mm_I} {J : mm_J} {o : Int32 × mm_I × mm_J}, rec52 v0 v1 v2 v3 v4 v5 v6 I J = some o → mm_W l M11_changeNow (mm_rm (mm_rk M11_changeNow)) 0 0 S (mm_end S (mm_Qi o.1 o.2.1 o.2.2)) 52 [(0, .ref v0), (1, .int v1), (2, .int v2), (3, .int v3), (4, .int v4), (5, .int v5), (6, .int v6)] [] I J) {v0 : Nat} {v1 : Int32} {v2 : Int32} {v3 : Int32} {v4 : Int32} {v5 : Int32} {v6 : Int32} {s0 : Nat} {s1 : Int32} {s2 : Int32} (h0 : mm_is S v0 11) (g0 : S[s0]? = some (.inl (1, mm_al S s0))) {I : mm_I} {J : mm_J} {o : Int32 × mm_I × mm_J} (h : f11_changeNow_92 S n rec52 v0 v1 v2 v3 v4 v5 v6 s0 s1 s2 I J = some o) : mm_W l M11_changeNow (mm_rm (mm_rk M11_changeNow)) 0 0 S (mm_end S (mm_Qi o.1 o.2.1 o.2.2)) 92 [(0, .ref v0), (1, .int v1), (2, .int v2), (3, .int v3), (4, .int v4), (5, .int v5), (6, .int v6)] [.int s2, .int s1, .ref s0] I J := by
  unfold f11_changeNow_92 at h
  obtain ⟨hb1, h⟩ := mm_gd h
  obtain ⟨hy1, h⟩ := mm_gd h
  refine mm_zast d11_changeNow_92 g0 (mm_inb_ok hb1) (mm_bit_ok hy1) ?_
  refine mm_iinc (v := v6 + 1) d11_changeNow_93 rfl rfl rfl rfl ?_
  refine mm_goto (tgt := 52) d11_changeNow_96 (by decide) ?_
  refine mm_sub [(0, .ref v0), (1, .int v1), (2, .int v2), (3, .int v3), (4, .int v4), (5, .int v5), (6, .int (v6 + 1))] ⟨rfl, rfl, rfl, rfl, rfl, rfl, rfl, trivial⟩ ?_
  exact hrec52 h0 h
set_option maxHeartbeats 4000000 in
set_option maxRecDepth 100000 in
theorem ok11_changeNow_87 (l : Launch) {S : mm_Sh} (hS : mm_WT S) {n : Nat}  {rec52 : Nat → Int32 → Int32 → Int32 → Int32 → Int32 → Int32 → mm_I → mm_J → Option (Int32 × mm_I × mm_J)} (hrec52 : ∀ {v0 : Nat} {v1 : Int32} {v2 : Int32} {v3 : Int32} {v4 : Int32} {v5 : Int32} {v6 : Int32} (_ : mm_is S v0 11) {I : mm_I} {J : mm_J} {o : Int32 × mm_I × mm_J}, rec52 v0 v1 v2 v3 v4 v5 v6 I J = some o → mm_W l M11_changeNow (mm_rm (mm_rk M11_changeNow)) 0 0 S (mm_end S (mm_Qi o.1 o.2.1 o.2.2)) 52 [(0, .ref v0), (1, .int v1), (2, .int v2), (3, .int v3), (4, .int v4), (5, .int v5), (6, .int v6)] [] I J) {v0 : Nat} {v1 : Int32} {v2 : Int32} {v3 : Int32} {v4 : Int32} {v5 : Int32} {v6 : Int32} {s0 : Nat} {s1 : Int32} (h0 : mm_is S v0 11) (g0 : S[s0]? = some (.inl (1, mm_al S s0))) {I : mm_I} {J : mm_J} {o : Int32 × mm_I × mm_J} (h : f11_changeNow_87 S n rec52 v0 v1 v2 v3 v4 v5 v6 s0 s1 I J = some o) : mm_W l M11_changeNow (mm_rm (mm_rk M11_changeNow)) 0 0 S (mm_end S (mm_Qi o.1 o.2.1 o.2.2)) 87 [(0, .ref v0), (1, .int v1), (2, .int v2), (3, .int v3), (4, .int v4), (5, .int v5), (6, .int v6)] [.int s1, .ref s0] I J := by
  unfold f11_changeNow_87 at h
  refine mm_iconst (v := 1) d11_changeNow_87 (by decide +kernel) ?_
  refine mm_goto (tgt := 92) d11_changeNow_88 (by decide) ?_
  refine mm_sub [(0, .ref v0), (1, .int v1), (2, .int v2), (3, .int v3), (4, .int v4), (5, .int v5), (6, .int v6)] ⟨rfl, rfl, rfl, rfl, rfl, rfl, rfl, trivial⟩ ?_
  exact ok11_changeNow_92 l hS hrec52 h0 g0 h
set_option maxHeartbeats 4000000 in
set_option maxRecDepth 100000 in
theorem ok11_changeNow_134 (l : Launch) {S : mm_Sh} (hS : mm_WT S) {n : Nat}  {v5 : Int32}  {I : mm_I} {J : mm_J} {o : Int32 × mm_I × mm_J} (h : f11_changeNow_134 S n v5 I J = some o) : mm_W l M11_changeNow (mm_rm (mm_rk M11_changeNow)) 0 0 S (mm_end S (mm_Qi o.1 o.2.1 o.2.2)) 134 [(5, .int v5)] [] I J := by
  unfold f11_changeNow_134 at h
  refine mm_iload d11_changeNow_134 rfl ?_
  have h := Option.some.inj h
  subst h
  exact mm_iret rfl d11_changeNow_136 ⟨rfl, rfl, rfl⟩
set_option maxHeartbeats 4000000 in
set_option maxRecDepth 100000 in
theorem ok11_changeNow_132 (l : Launch) {S : mm_Sh} (hS : mm_WT S) {n : Nat}  {v3 : Int32} {v5 : Int32} {s0 : Nat} {s1 : Int32} (g0 : S[s0]? = some (.inl (0, mm_al S s0))) {I : mm_I} {J : mm_J} {o : Int32 × mm_I × mm_J} (h : f11_changeNow_132 S n v3 v5 s0 s1 I J = some o) : mm_W l M11_changeNow (mm_rm (mm_rk M11_changeNow)) 0 0 S (mm_end S (mm_Qi o.1 o.2.1 o.2.2)) 132 [(3, .int v3), (5, .int v5)] [.int s1, .ref s0] I J := by
  unfold f11_changeNow_132 at h
  refine mm_iload_n d11_changeNow_132 rfl ?_
  obtain ⟨hb1, h⟩ := mm_gd h
  refine mm_iast d11_changeNow_133 g0 (mm_inb_ok hb1) ?_
  refine mm_sub [(5, .int v5)] ⟨rfl, trivial⟩ ?_
  exact ok11_changeNow_134 l hS   h
set_option maxHeartbeats 4000000 in
set_option maxRecDepth 100000 in
theorem ok11_changeNow_52_b (l : Launch) {S : mm_Sh} (hS : mm_WT S) {n : Nat}  {rec52 : Nat → Int32 → Int32 → Int32 → Int32 → Int32 → Int32 → mm_I → mm_J → Option (Int32 × mm_I × mm_J)} (hrec52 : ∀ {v0 : Nat} {v1 : Int32} {v2 : Int32} {v3 : Int32} {v4 : Int32} {v5 : Int32} {v6 : Int32} (_ : mm_is S v0 11) {I : mm_I} {J : mm_J} {o : Int32 × mm_I × mm_J}, rec52 v0 v1 v2 v3 v4 v5 v6 I J = some o → mm_W l M11_changeNow (mm_rm (mm_rk M11_changeNow)) 0 0 S (mm_end S (mm_Qi o.1 o.2.1 o.2.2)) 52 [(0, .ref v0), (1, .int v1), (2, .int v2), (3, .int v3), (4, .int v4), (5, .int v5), (6, .int v6)] [] I J) {v0 : Nat} {v1 : Int32} {v2 : Int32} {v3 : Int32} {v4 : Int32} {v5 : Int32} {v6 : Int32} (h0 : mm_is S v0 11) {I : mm_I} {J : mm_J} {o : Int32 × mm_I × mm_J} (h : f11_changeNow_52_b S n rec52 v0 v1 v2 v3 v4 v5 v6 I J = some o) : mm_W l M11_changeNow (mm_rm (mm_rk M11_changeNow)) 0 0 S (mm_end S (mm_Qi o.1 o.2.1 o.2.2)) 52 [(0, .ref v0), (1, .int v1), (2, .int v2), (3, .int v3), (4, .int v4), (5, .int v5), (6, .int v6)] [] I J := by
  unfold f11_changeNow_52_b at h
  refine mm_iload d11_changeNow_52 rfl ?_
  refine mm_aload_n d11_changeNow_54 rfl ?_
  refine mm_getI fl_X11_140 d11_changeNow_55 (mm_wtI hS h0 rfl) ?_
  refine mm_icmp_ge (tgt := 99) d11_changeNow_58 (by decide) (fun hc1 => ?_) (fun hc1 => ?_)
  · rw [if_pos hc1] at h
    refine mm_aload_n d11_changeNow_99 rfl ?_
    refine mm_getR fl_X11_54 d11_changeNow_100 (mm_wtR hS 50 h0 rfl rfl) ?_
    refine mm_iload_n d11_changeNow_103 rfl ?_
    refine mm_iload_n d11_changeNow_104 rfl ?_
    obtain ⟨hb2, h⟩ := mm_gd h
    refine mm_iast d11_changeNow_105 (mm_wtA hS 17 0 h0 rfl rfl) (mm_inb_ok hb2) ?_
    refine mm_aload_n d11_changeNow_106 rfl ?_
    refine mm_getR fl_X11_57 d11_changeNow_107 (mm_wtR hS 50 h0 rfl rfl) ?_
    refine mm_iload_n d11_changeNow_110 rfl ?_
    refine mm_iconst (v := 0) d11_changeNow_111 (by decide +kernel) ?_
    obtain ⟨hb3, h⟩ := mm_gd h
    refine mm_iast d11_changeNow_112 (mm_wtA hS 18 0 h0 rfl rfl) (mm_inb_ok hb3) ?_
    refine mm_iload_n d11_changeNow_113 rfl ?_
    refine mm_if_lt (tgt := 134) d11_changeNow_114 (by decide) (fun hc4 => ?_) (fun hc4 => ?_)
    · rw [if_pos hc4] at h
      refine mm_sub [(5, .int v5)] ⟨rfl, trivial⟩ ?_
      exact ok11_changeNow_134 l hS   h
    · rw [if_neg hc4] at h
      refine mm_aload_n d11_changeNow_117 rfl ?_
      refine mm_getR fl_X11_60 d11_changeNow_118 (mm_wtR hS 50 h0 rfl rfl) ?_
      refine mm_iload d11_changeNow_121 rfl ?_
      refine mm_if_ge (tgt := 130) d11_changeNow_123 (by decide) (fun hc5 => ?_) (fun hc5 => ?_)
      · rw [if_pos hc5] at h
        refine mm_iload d11_changeNow_130 rfl ?_
        refine mm_sub [(3, .int v3), (5, .int v5)] ⟨rfl, rfl, trivial⟩ ?_
        exact ok11_changeNow_132 l hS  (mm_wtA hS 19 0 h0 rfl rfl) h
      · rw [if_neg hc5] at h
        refine mm_iload_n d11_changeNow_126 rfl ?_
        refine mm_goto (tgt := 132) d11_changeNow_127 (by decide) ?_
        refine mm_sub [(3, .int v3), (5, .int v5)] ⟨rfl, rfl, trivial⟩ ?_
        exact ok11_changeNow_132 l hS  (mm_wtA hS 19 0 h0 rfl rfl) h
  · rw [if_neg hc1] at h
    refine mm_aload_n d11_changeNow_61 rfl ?_
    refine mm_getR fl_X11_66 d11_changeNow_62 (mm_wtR hS 51 h0 rfl rfl) ?_
    refine mm_iload d11_changeNow_65 rfl ?_
    refine mm_aload_n d11_changeNow_67 rfl ?_
    refine mm_getR fl_X11_66 d11_changeNow_68 (mm_wtR hS 51 h0 rfl rfl) ?_
    refine mm_iload d11_changeNow_71 rfl ?_
    obtain ⟨hb6, h⟩ := mm_gd h
    refine mm_zald d11_changeNow_73 (mm_wtA hS 21 1 h0 rfl rfl) (mm_inb_ok hb6) ?_
    refine mm_if_ne (tgt := 87) d11_changeNow_74 (by decide) (fun hc7 => ?_) (fun hc7 => ?_)
    · rw [if_neg hc7] at h
      refine mm_sub [(0, .ref v0), (1, .int v1), (2, .int v2), (3, .int v3), (4, .int v4), (5, .int v5), (6, .int v6)] ⟨rfl, rfl, rfl, rfl, rfl, rfl, rfl, trivial⟩ ?_
      exact ok11_changeNow_87 l hS hrec52 h0 (mm_wtA hS 21 1 h0 rfl rfl) h
    · rw [if_pos hc7] at h
      refine mm_iload d11_changeNow_77 rfl ?_
      refine mm_iload d11_changeNow_79 rfl ?_
      obtain ⟨o8, hk8, h⟩ := mm_bd h
      refine mm_cSi (As := [.int v5, .int v6]) (ok11_has l hS hk8) lk_X11_294 rfl d11_changeNow_81 (mm_room rfl rfl) rfl rfl ?_
      refine mm_if_eq (tgt := 91) d11_changeNow_84 (by decide) (fun hc9 => ?_) (fun hc9 => ?_)
      · rw [if_pos hc9] at h
        refine mm_iconst (v := 0) d11_changeNow_91 (by decide +kernel) ?_
        refine mm_sub [(0, .ref v0), (1, .int v1), (2, .int v2), (3, .int v3), (4, .int v4), (5, .int v5), (6, .int v6)] ⟨rfl, rfl, rfl, rfl, rfl, rfl, rfl, trivial⟩ ?_
        exact ok11_changeNow_92 l hS hrec52 h0 (mm_wtA hS 21 1 h0 rfl rfl) h
      · rw [if_neg hc9] at h
        refine mm_sub [(0, .ref v0), (1, .int v1), (2, .int v2), (3, .int v3), (4, .int v4), (5, .int v5), (6, .int v6)] ⟨rfl, rfl, rfl, rfl, rfl, rfl, rfl, trivial⟩ ?_
        exact ok11_changeNow_87 l hS hrec52 h0 (mm_wtA hS 21 1 h0 rfl rfl) h
set_option maxHeartbeats 4000000 in
set_option maxRecDepth 100000 in
theorem ok11_changeNow_52 (l : Launch) {S : mm_Sh} (hS : mm_WT S) {n : Nat}  : ∀ (k : Nat) {v0 : Nat} {v1 : Int32} {v2 : Int32} {v3 : Int32} {v4 : Int32} {v5 : Int32} {v6 : Int32} (h0 : mm_is S v0 11) {I : mm_I} {J : mm_J} {o : Int32 × mm_I × mm_J}, f11_changeNow_52 S n k v0 v1 v2 v3 v4 v5 v6 I J = some o → mm_W l M11_changeNow (mm_rm (mm_rk M11_changeNow)) 0 0 S (mm_end S (mm_Qi o.1 o.2.1 o.2.2)) 52 [(0, .ref v0), (1, .int v1), (2, .int v2), (3, .int v3), (4, .int v4), (5, .int v5), (6, .int v6)] [] I J := by
  intro k
  induction k with
  | zero =>
    intros
    rename_i h
    cases h
  | succ k ih =>
    intro v0 v1 v2 v3 v4 v5 v6 h0 I J o h
    exact ok11_changeNow_52_b l hS (fun {v0 v1 v2 v3 v4 v5 v6} h0 {I J o} h => ih h0 h) h0 h
set_option maxHeartbeats 4000000 in
set_option maxRecDepth 100000 in
theorem ok11_changeNow_39 (l : Launch) {S : mm_Sh} (hS : mm_WT S) {n : Nat}  {v0 : Nat} {v1 : Int32} {v2 : Int32} {v3 : Int32} {v4 : Int32} {s0 : Int32} (h0 : mm_is S v0 11) {I : mm_I} {J : mm_J} {o : Int32 × mm_I × mm_J} (h : f11_changeNow_39 S n v0 v1 v2 v3 v4 s0 I J = some o) : mm_W l M11_changeNow (mm_rm (mm_rk M11_changeNow)) 0 0 S (mm_end S (mm_Qi o.1 o.2.1 o.2.2)) 39 [(0, .ref v0), (1, .int v1), (2, .int v2), (3, .int v3), (4, .int v4)] [.int s0] I J := by
  unfold f11_changeNow_39 at h
  refine mm_istore d11_changeNow_39 rfl rfl ?_
  refine mm_iload d11_changeNow_41 rfl ?_
  refine mm_if_ge (tgt := 49) d11_changeNow_43 (by decide) (fun hc1 => ?_) (fun hc1 => ?_)
  · rw [if_pos hc1] at h
    refine mm_iconst (v := 0) d11_changeNow_49 (by decide +kernel) ?_
    refine mm_istore d11_changeNow_50 rfl rfl ?_
    refine mm_sub [(0, .ref v0), (1, .int v1), (2, .int v2), (3, .int v3), (4, .int v4), (5, .int s0), (6, .int 0)] ⟨rfl, rfl, rfl, rfl, rfl, rfl, rfl, trivial⟩ ?_
    exact ok11_changeNow_52 l hS  n h0 h
  · rw [if_neg hc1] at h
    refine mm_ldc (v := (-1000000003)) d11_changeNow_46 kX11_250 ?_
    have h := Option.some.inj h
    subst h
    exact mm_iret rfl d11_changeNow_48 ⟨rfl, rfl, rfl⟩
set_option maxHeartbeats 4000000 in
set_option maxRecDepth 100000 in
theorem ok11_changeNow (l : Launch) {S : mm_Sh} (hS : mm_WT S) {n : Nat}  {v0 : Nat} {v1 : Int32} {v2 : Int32} {v3 : Int32} {v4 : Int32} (h0 : mm_is S v0 11) {I : mm_I} {J : mm_J} {o : Int32 × mm_I × mm_J} (h : f11_changeNow S n v0 v1 v2 v3 v4 I J = some o) : mm_C l M11_changeNow S [.ref v0, .int v1, .int v2, .int v3, .int v4] I J (mm_Qi o.1 o.2.1 o.2.2) := by
  unfold f11_changeNow at h
  refine mm_enter rfl (by decide +kernel) rfl ?_
  refine mm_aload_n d11_changeNow_0 rfl ?_
  refine mm_iload_n d11_changeNow_1 rfl ?_
  refine mm_iload_n d11_changeNow_2 rfl ?_
  obtain ⟨o1, hk1, h⟩ := mm_bd h
  refine mm_cVi 11 (As := [.int v1, .int v2]) (ok11_mayLearn l hS h0 hk1) lk_X11_284 rfl d11_changeNow_3 (mm_room rfl rfl) rfl h0 rfl rfl ?_
  refine mm_if_eq (tgt := 21) d11_changeNow_6 (by decide) (fun hc2 => ?_) (fun hc2 => ?_)
  · rw [if_pos hc2] at h
    refine mm_sub [] trivial ?_
    exact ok11_changeNow_21 l hS   h
  · rw [if_neg hc2] at h
    refine mm_aload_n d11_changeNow_9 rfl ?_
    refine mm_iload_n d11_changeNow_10 rfl ?_
    refine mm_iload_n d11_changeNow_11 rfl ?_
    refine mm_iload_n d11_changeNow_12 rfl ?_
    refine mm_iload d11_changeNow_13 rfl ?_
    obtain ⟨o3, hk3, h⟩ := mm_bd h
    refine mm_cVi 11 (As := [.int v1, .int v2, .int v3, .int v4]) (ok11_mayGive l hS h0 hk3) lk_X11_287 rfl d11_changeNow_15 (mm_room rfl rfl) rfl h0 rfl rfl ?_
    refine mm_if_ne (tgt := 24) d11_changeNow_18 (by decide) (fun hc4 => ?_) (fun hc4 => ?_)
    · rw [if_neg hc4] at h
      refine mm_iload_n d11_changeNow_24 rfl ?_
      refine mm_if_ge (tgt := 32) d11_changeNow_25 (by decide) (fun hc5 => ?_) (fun hc5 => ?_)
      · rw [if_pos hc5] at h
        refine mm_aload_n d11_changeNow_32 rfl ?_
        refine mm_iload_n d11_changeNow_33 rfl ?_
        refine mm_iload d11_changeNow_34 rfl ?_
        obtain ⟨o6, hk6, h⟩ := mm_bd h
        refine mm_cVi 11 (As := [.int v1, .int v4]) (ok11_findWitnesses l hS h0 hk6) lk_X11_291 rfl d11_changeNow_36 (mm_room rfl rfl) rfl h0 rfl rfl ?_
        refine mm_sub [(0, .ref v0), (1, .int v1), (2, .int v2), (3, .int v3), (4, .int v4)] ⟨rfl, rfl, rfl, rfl, rfl, trivial⟩ ?_
        exact ok11_changeNow_39 l hS  h0 h
      · rw [if_neg hc5] at h
        refine mm_iconst (v := 0) d11_changeNow_28 (by decide +kernel) ?_
        refine mm_goto (tgt := 39) d11_changeNow_29 (by decide) ?_
        refine mm_sub [(0, .ref v0), (1, .int v1), (2, .int v2), (3, .int v3), (4, .int v4)] ⟨rfl, rfl, rfl, rfl, rfl, trivial⟩ ?_
        exact ok11_changeNow_39 l hS  h0 h
    · rw [if_pos hc4] at h
      refine mm_sub [] trivial ?_
      exact ok11_changeNow_21 l hS   h
set_option maxHeartbeats 4000000 in
set_option maxRecDepth 100000 in
theorem ok11_findLeast_63 (l : Launch) {S : mm_Sh} (hS : mm_WT S) {n : Nat}  {rec9 : Nat → Int32 → Int32 → mm_I → mm_J → Option (Int32 × mm_I × mm_J)} (hrec9 : ∀ {v0 : Nat} {v1 : Int32} {v2 : Int32} (_ : mm_is S v0 11) {I : mm_I} {J : mm_J} {o : Int32 × mm_I × mm_J}, rec9 v0 v1 v2 I J = some o → mm_W l M11_findLeast (mm_rm (mm_rk M11_findLeast)) 0 0 S (mm_end S (mm_Qi o.1 o.2.1 o.2.2)) 9 [(0, .ref v0), (1, .int v1), (2, .int v2)] [] I J) {v0 : Nat} {v1 : Int32} {v2 : Int32} {s0 : Nat} {s1 : Int32} (h0 : mm_is S v0 11) (g0 : mm_is S s0 11) {I : mm_I} {J : mm_J} {o : Int32 × mm_I × mm_J} (h : f11_findLeast_63 S n rec9 v0 v1 v2 s0 s1 I J = some o) : mm_W l M11_findLeast (mm_rm (mm_rk M11_findLeast)) 0 0 S (mm_end S (mm_Qi o.1 o.2.1 o.2.2)) 63 [(0, .ref v0), (1, .int v1), (2, .int v2)] [.int s1, .ref s0] I J := by
  unfold f11_findLeast_63 at h
  refine mm_putI fp_X11_355 d11_findLeast_63 (mm_wtI hS g0 rfl) ?_
  refine mm_iinc (v := v2 + 1) d11_findLeast_66 rfl rfl rfl rfl ?_
  refine mm_goto (tgt := 9) d11_findLeast_69 (by decide) ?_
  refine mm_sub [(0, .ref v0), (1, .int v1), (2, .int (v2 + 1))] ⟨rfl, rfl, rfl, trivial⟩ ?_
  exact hrec9 h0 h
set_option maxHeartbeats 4000000 in
set_option maxRecDepth 100000 in
theorem ok11_findLeast_215 (l : Launch) {S : mm_Sh} (hS : mm_WT S) {n : Nat}  {rec85 : Nat → Int32 → mm_I → mm_J → Option (Int32 × mm_I × mm_J)} (hrec85 : ∀ {v0 : Nat} {v2 : Int32} (_ : mm_is S v0 11) {I : mm_I} {J : mm_J} {o : Int32 × mm_I × mm_J}, rec85 v0 v2 I J = some o → mm_W l M11_findLeast (mm_rm (mm_rk M11_findLeast)) 0 0 S (mm_end S (mm_Qi o.1 o.2.1 o.2.2)) 85 [(0, .ref v0), (2, .int v2)] [] I J) {rec91 : Nat → Int32 → Int32 → mm_I → mm_J → Option (Int32 × mm_I × mm_J)} (hrec91 : ∀ {v0 : Nat} {v2 : Int32} {v3 : Int32} (_ : mm_is S v0 11) {I : mm_I} {J : mm_J} {o : Int32 × mm_I × mm_J}, rec91 v0 v2 v3 I J = some o → mm_W l M11_findLeast (mm_rm (mm_rk M11_findLeast)) 0 0 S (mm_end S (mm_Qi o.1 o.2.1 o.2.2)) 91 [(0, .ref v0), (2, .int v2), (3, .int v3)] [] I J) {rec143 : Nat → Int32 → Int32 → Int32 → mm_I → mm_J → Option (Int32 × mm_I × mm_J)} (hrec143 : ∀ {v0 : Nat} {v2 : Int32} {v3 : Int32} {v4 : Int32} (_ : mm_is S v0 11) {I : mm_I} {J : mm_J} {o : Int32 × mm_I × mm_J}, rec143 v0 v2 v3 v4 I J = some o → mm_W l M11_findLeast (mm_rm (mm_rk M11_findLeast)) 0 0 S (mm_end S (mm_Qi o.1 o.2.1 o.2.2)) 143 [(0, .ref v0), (2, .int v2), (3, .int v3), (4, .int v4)] [] I J) {v0 : Nat} {v2 : Int32} {v3 : Int32} {v4 : Int32} {s0 : Nat} {s1 : Int32} {s2 : Int32} (h0 : mm_is S v0 11) (g0 : S[s0]? = some (.inl (0, mm_al S s0))) {I : mm_I} {J : mm_J} {o : Int32 × mm_I × mm_J} (h : f11_findLeast_215 S n rec85 rec91 rec143 v0 v2 v3 v4 s0 s1 s2 I J = some o) : mm_W l M11_findLeast (mm_rm (mm_rk M11_findLeast)) 0 0 S (mm_end S (mm_Qi o.1 o.2.1 o.2.2)) 215 [(0, .ref v0), (2, .int v2), (3, .int v3), (4, .int v4)] [.int s2, .int s1, .ref s0] I J := by
  unfold f11_findLeast_215 at h
  obtain ⟨hb1, h⟩ := mm_gd h
  refine mm_iast d11_findLeast_215 g0 (mm_inb_ok hb1) ?_
  refine mm_iinc (v := v4 + 1) d11_findLeast_216 rfl rfl rfl rfl ?_
  refine mm_goto (tgt := 143) d11_findLeast_219 (by decide) ?_
  refine mm_sub [(0, .ref v0), (2, .int v2), (3, .int v3), (4, .int (v4 + 1))] ⟨rfl, rfl, rfl, rfl, trivial⟩ ?_
  exact hrec143 h0 h
set_option maxHeartbeats 4000000 in
set_option maxRecDepth 100000 in
theorem ok11_findLeast_222 (l : Launch) {S : mm_Sh} (hS : mm_WT S) {n : Nat}  {rec85 : Nat → Int32 → mm_I → mm_J → Option (Int32 × mm_I × mm_J)} (hrec85 : ∀ {v0 : Nat} {v2 : Int32} (_ : mm_is S v0 11) {I : mm_I} {J : mm_J} {o : Int32 × mm_I × mm_J}, rec85 v0 v2 I J = some o → mm_W l M11_findLeast (mm_rm (mm_rk M11_findLeast)) 0 0 S (mm_end S (mm_Qi o.1 o.2.1 o.2.2)) 85 [(0, .ref v0), (2, .int v2)] [] I J) {rec91 : Nat → Int32 → Int32 → mm_I → mm_J → Option (Int32 × mm_I × mm_J)} (hrec91 : ∀ {v0 : Nat} {v2 : Int32} {v3 : Int32} (_ : mm_is S v0 11) {I : mm_I} {J : mm_J} {o : Int32 × mm_I × mm_J}, rec91 v0 v2 v3 I J = some o → mm_W l M11_findLeast (mm_rm (mm_rk M11_findLeast)) 0 0 S (mm_end S (mm_Qi o.1 o.2.1 o.2.2)) 91 [(0, .ref v0), (2, .int v2), (3, .int v3)] [] I J) {v0 : Nat} {v2 : Int32} {v3 : Int32} (h0 : mm_is S v0 11) {I : mm_I} {J : mm_J} {o : Int32 × mm_I × mm_J} (h : f11_findLeast_222 S n rec85 rec91 v0 v2 v3 I J = some o) : mm_W l M11_findLeast (mm_rm (mm_rk M11_findLeast)) 0 0 S (mm_end S (mm_Qi o.1 o.2.1 o.2.2)) 222 [(0, .ref v0), (2, .int v2), (3, .int v3)] [] I J := by
  unfold f11_findLeast_222 at h
  refine mm_iinc (v := v3 + 1) d11_findLeast_222 rfl rfl rfl rfl ?_
  refine mm_goto (tgt := 91) d11_findLeast_225 (by decide) ?_
  refine mm_sub [(0, .ref v0), (2, .int v2), (3, .int (v3 + 1))] ⟨rfl, rfl, rfl, trivial⟩ ?_
  exact hrec91 h0 h
set_option maxHeartbeats 4000000 in
set_option maxRecDepth 100000 in
theorem ok11_findLeast_143_b (l : Launch) {S : mm_Sh} (hS : mm_WT S) {n : Nat}  {rec85 : Nat → Int32 → mm_I → mm_J → Option (Int32 × mm_I × mm_J)} (hrec85 : ∀ {v0 : Nat} {v2 : Int32} (_ : mm_is S v0 11) {I : mm_I} {J : mm_J} {o : Int32 × mm_I × mm_J}, rec85 v0 v2 I J = some o → mm_W l M11_findLeast (mm_rm (mm_rk M11_findLeast)) 0 0 S (mm_end S (mm_Qi o.1 o.2.1 o.2.2)) 85 [(0, .ref v0), (2, .int v2)] [] I J) {rec91 : Nat → Int32 → Int32 → mm_I → mm_J → Option (Int32 × mm_I × mm_J)} (hrec91 : ∀ {v0 : Nat} {v2 : Int32} {v3 : Int32} (_ : mm_is S v0 11) {I : mm_I} {J : mm_J} {o : Int32 × mm_I × mm_J}, rec91 v0 v2 v3 I J = some o → mm_W l M11_findLeast (mm_rm (mm_rk M11_findLeast)) 0 0 S (mm_end S (mm_Qi o.1 o.2.1 o.2.2)) 91 [(0, .ref v0), (2, .int v2), (3, .int v3)] [] I J) {rec143 : Nat → Int32 → Int32 → Int32 → mm_I → mm_J → Option (Int32 × mm_I × mm_J)} (hrec143 : ∀ {v0 : Nat} {v2 : Int32} {v3 : Int32} {v4 : Int32} (_ : mm_is S v0 11) {I : mm_I} {J : mm_J} {o : Int32 × mm_I × mm_J}, rec143 v0 v2 v3 v4 I J = some o → mm_W l M11_findLeast (mm_rm (mm_rk M11_findLeast)) 0 0 S (mm_end S (mm_Qi o.1 o.2.1 o.2.2)) 143 [(0, .ref v0), (2, .int v2), (3, .int v3), (4, .int v4)] [] I J) {v0 : Nat} {v2 : Int32} {v3 : Int32} {v4 : Int32} (h0 : mm_is S v0 11) {I : mm_I} {J : mm_J} {o : Int32 × mm_I × mm_J} (h : f11_findLeast_143_b S n rec85 rec91 rec143 v0 v2 v3 v4 I J = some o) : mm_W l M11_findLeast (mm_rm (mm_rk M11_findLeast)) 0 0 S (mm_end S (mm_Qi o.1 o.2.1 o.2.2)) 143 [(0, .ref v0), (2, .int v2), (3, .int v3), (4, .int v4)] [] I J := by
  unfold f11_findLeast_143_b at h
  refine mm_iload d11_findLeast_143 rfl ?_
  refine mm_aload_n d11_findLeast_145 rfl ?_
  refine mm_getI fl_X11_133 d11_findLeast_146 (mm_wtI hS h0 rfl) ?_
  refine mm_icmp_ge (tgt := 222) d11_findLeast_149 (by decide) (fun hc1 => ?_) (fun hc1 => ?_)
  · rw [if_pos hc1] at h
    refine mm_sub [(0, .ref v0), (2, .int v2), (3, .int v3)] ⟨rfl, rfl, rfl, trivial⟩ ?_
    exact ok11_findLeast_222 l hS hrec85 hrec91 h0 h
  · rw [if_neg hc1] at h
    refine mm_iload_n d11_findLeast_152 rfl ?_
    refine mm_aload_n d11_findLeast_153 rfl ?_
    refine mm_getI fl_X11_140 d11_findLeast_154 (mm_wtI hS h0 rfl) ?_
    refine mm_icmp_ge (tgt := 222) d11_findLeast_157 (by decide) (fun hc2 => ?_) (fun hc2 => ?_)
    · rw [if_pos hc2] at h
      refine mm_sub [(0, .ref v0), (2, .int v2), (3, .int v3)] ⟨rfl, rfl, rfl, trivial⟩ ?_
      exact ok11_findLeast_222 l hS hrec85 hrec91 h0 h
    · rw [if_neg hc2] at h
      refine mm_aload_n d11_findLeast_160 rfl ?_
      refine mm_iload_n d11_findLeast_161 rfl ?_
      refine mm_iload_n d11_findLeast_162 rfl ?_
      refine mm_iload d11_findLeast_163 rfl ?_
      obtain ⟨o3, hk3, h⟩ := mm_bd h
      refine mm_cVi 11 (As := [.int v2, .int v3, .int v4]) (ok11_byGiving l hS h0 hk3) lk_X11_358 rfl d11_findLeast_165 (mm_room rfl rfl) rfl h0 rfl rfl ?_
      refine mm_istore d11_findLeast_168 rfl rfl ?_
      refine mm_aload_n d11_findLeast_170 rfl ?_
      refine mm_getR fl_X11_96 d11_findLeast_171 (mm_wtR hS 50 h0 rfl rfl) ?_
      refine mm_sipush (v := 256) d11_findLeast_174 (by decide +kernel) ?_
      refine mm_iload_n d11_findLeast_177 rfl ?_
      refine mm_imul d11_findLeast_178 ?_
      refine mm_iload_n d11_findLeast_179 rfl ?_
      refine mm_iadd d11_findLeast_180 ?_
      refine mm_iload d11_findLeast_181 rfl ?_
      refine mm_aload_n d11_findLeast_183 rfl ?_
      refine mm_getR fl_X11_96 d11_findLeast_184 (mm_wtR hS 50 h0 rfl rfl) ?_
      refine mm_sipush (v := 256) d11_findLeast_187 (by decide +kernel) ?_
      refine mm_iload_n d11_findLeast_190 rfl ?_
      refine mm_imul d11_findLeast_191 ?_
      refine mm_iload_n d11_findLeast_192 rfl ?_
      refine mm_iadd d11_findLeast_193 ?_
      obtain ⟨hb4, h⟩ := mm_gd h
      refine mm_iald d11_findLeast_194 (mm_wtA hS 42 0 h0 rfl rfl) (mm_inb_ok hb4) ?_
      refine mm_icmp_ge (tgt := 203) d11_findLeast_195 (by decide) (fun hc5 => ?_) (fun hc5 => ?_)
      · rw [if_pos hc5] at h
        refine mm_aload_n d11_findLeast_203 rfl ?_
        refine mm_getR fl_X11_96 d11_findLeast_204 (mm_wtR hS 50 h0 rfl rfl) ?_
        refine mm_sipush (v := 256) d11_findLeast_207 (by decide +kernel) ?_
        refine mm_iload_n d11_findLeast_210 rfl ?_
        refine mm_imul d11_findLeast_211 ?_
        refine mm_iload_n d11_findLeast_212 rfl ?_
        refine mm_iadd d11_findLeast_213 ?_
        obtain ⟨hb6, h⟩ := mm_gd h
        refine mm_iald d11_findLeast_214 (mm_wtA hS 42 0 h0 rfl rfl) (mm_inb_ok hb6) ?_
        refine mm_sub [(0, .ref v0), (2, .int v2), (3, .int v3), (4, .int v4)] ⟨rfl, rfl, rfl, rfl, trivial⟩ ?_
        exact ok11_findLeast_215 l hS hrec85 hrec91 hrec143 h0 (mm_wtA hS 42 0 h0 rfl rfl) h
      · rw [if_neg hc5] at h
        refine mm_iload d11_findLeast_198 rfl ?_
        refine mm_goto (tgt := 215) d11_findLeast_200 (by decide) ?_
        refine mm_sub [(0, .ref v0), (2, .int v2), (3, .int v3), (4, .int v4)] ⟨rfl, rfl, rfl, rfl, trivial⟩ ?_
        exact ok11_findLeast_215 l hS hrec85 hrec91 hrec143 h0 (mm_wtA hS 42 0 h0 rfl rfl) h
set_option maxHeartbeats 4000000 in
set_option maxRecDepth 100000 in
theorem ok11_findLeast_143 (l : Launch) {S : mm_Sh} (hS : mm_WT S) {n : Nat}  {rec85 : Nat → Int32 → mm_I → mm_J → Option (Int32 × mm_I × mm_J)} (hrec85 : ∀ {v0 : Nat} {v2 : Int32} (_ : mm_is S v0 11) {I : mm_I} {J : mm_J} {o : Int32 × mm_I × mm_J}, rec85 v0 v2 I J = some o → mm_W l M11_findLeast (mm_rm (mm_rk M11_findLeast)) 0 0 S (mm_end S (mm_Qi o.1 o.2.1 o.2.2)) 85 [(0, .ref v0), (2, .int v2)] [] I J) {rec91 : Nat → Int32 → Int32 → mm_I → mm_J → Option (Int32 × mm_I × mm_J)} (hrec91 : ∀ {v0 : Nat} {v2 : Int32} {v3 : Int32} (_ : mm_is S v0 11) {I : mm_I} {J : mm_J} {o : Int32 × mm_I × mm_J}, rec91 v0 v2 v3 I J = some o → mm_W l M11_findLeast (mm_rm (mm_rk M11_findLeast)) 0 0 S (mm_end S (mm_Qi o.1 o.2.1 o.2.2)) 91 [(0, .ref v0), (2, .int v2), (3, .int v3)] [] I J) : ∀ (k : Nat) {v0 : Nat} {v2 : Int32} {v3 : Int32} {v4 : Int32} (h0 : mm_is S v0 11) {I : mm_I} {J : mm_J} {o : Int32 × mm_I × mm_J}, f11_findLeast_143 S n rec85 rec91 k v0 v2 v3 v4 I J = some o → mm_W l M11_findLeast (mm_rm (mm_rk M11_findLeast)) 0 0 S (mm_end S (mm_Qi o.1 o.2.1 o.2.2)) 143 [(0, .ref v0), (2, .int v2), (3, .int v3), (4, .int v4)] [] I J := by
  intro k
  induction k with
  | zero =>
    intros
    rename_i h
    cases h
  | succ k ih =>
    intro v0 v2 v3 v4 h0 I J o h
    exact ok11_findLeast_143_b l hS hrec85 hrec91 (fun {v0 v2 v3 v4} h0 {I J o} h => ih h0 h) h0 h
set_option maxHeartbeats 4000000 in
set_option maxRecDepth 100000 in
theorem ok11_findLeast_139 (l : Launch) {S : mm_Sh} (hS : mm_WT S) {n : Nat}  {rec85 : Nat → Int32 → mm_I → mm_J → Option (Int32 × mm_I × mm_J)} (hrec85 : ∀ {v0 : Nat} {v2 : Int32} (_ : mm_is S v0 11) {I : mm_I} {J : mm_J} {o : Int32 × mm_I × mm_J}, rec85 v0 v2 I J = some o → mm_W l M11_findLeast (mm_rm (mm_rk M11_findLeast)) 0 0 S (mm_end S (mm_Qi o.1 o.2.1 o.2.2)) 85 [(0, .ref v0), (2, .int v2)] [] I J) {rec91 : Nat → Int32 → Int32 → mm_I → mm_J → Option (Int32 × mm_I × mm_J)} (hrec91 : ∀ {v0 : Nat} {v2 : Int32} {v3 : Int32} (_ : mm_is S v0 11) {I : mm_I} {J : mm_J} {o : Int32 × mm_I × mm_J}, rec91 v0 v2 v3 I J = some o → mm_W l M11_findLeast (mm_rm (mm_rk M11_findLeast)) 0 0 S (mm_end S (mm_Qi o.1 o.2.1 o.2.2)) 91 [(0, .ref v0), (2, .int v2), (3, .int v3)] [] I J) {v0 : Nat} {v2 : Int32} {v3 : Int32} {s0 : Nat} {s1 : Int32} {s2 : Int32} (h0 : mm_is S v0 11) (g0 : S[s0]? = some (.inl (0, mm_al S s0))) {I : mm_I} {J : mm_J} {o : Int32 × mm_I × mm_J} (h : f11_findLeast_139 S n rec85 rec91 v0 v2 v3 s0 s1 s2 I J = some o) : mm_W l M11_findLeast (mm_rm (mm_rk M11_findLeast)) 0 0 S (mm_end S (mm_Qi o.1 o.2.1 o.2.2)) 139 [(0, .ref v0), (2, .int v2), (3, .int v3)] [.int s2, .int s1, .ref s0] I J := by
  unfold f11_findLeast_139 at h
  obtain ⟨hb1, h⟩ := mm_gd h
  refine mm_iast d11_findLeast_139 g0 (mm_inb_ok hb1) ?_
  refine mm_iconst (v := 0) d11_findLeast_140 (by decide +kernel) ?_
  refine mm_istore d11_findLeast_141 rfl rfl ?_
  refine mm_sub [(0, .ref v0), (2, .int v2), (3, .int v3), (4, .int 0)] ⟨rfl, rfl, rfl, rfl, trivial⟩ ?_
  exact ok11_findLeast_143 l hS hrec85 hrec91 n h0 h
set_option maxHeartbeats 4000000 in
set_option maxRecDepth 100000 in
theorem ok11_findLeast_91_b (l : Launch) {S : mm_Sh} (hS : mm_WT S) {n : Nat}  {rec85 : Nat → Int32 → mm_I → mm_J → Option (Int32 × mm_I × mm_J)} (hrec85 : ∀ {v0 : Nat} {v2 : Int32} (_ : mm_is S v0 11) {I : mm_I} {J : mm_J} {o : Int32 × mm_I × mm_J}, rec85 v0 v2 I J = some o → mm_W l M11_findLeast (mm_rm (mm_rk M11_findLeast)) 0 0 S (mm_end S (mm_Qi o.1 o.2.1 o.2.2)) 85 [(0, .ref v0), (2, .int v2)] [] I J) {rec91 : Nat → Int32 → Int32 → mm_I → mm_J → Option (Int32 × mm_I × mm_J)} (hrec91 : ∀ {v0 : Nat} {v2 : Int32} {v3 : Int32} (_ : mm_is S v0 11) {I : mm_I} {J : mm_J} {o : Int32 × mm_I × mm_J}, rec91 v0 v2 v3 I J = some o → mm_W l M11_findLeast (mm_rm (mm_rk M11_findLeast)) 0 0 S (mm_end S (mm_Qi o.1 o.2.1 o.2.2)) 91 [(0, .ref v0), (2, .int v2), (3, .int v3)] [] I J) {v0 : Nat} {v2 : Int32} {v3 : Int32} (h0 : mm_is S v0 11) {I : mm_I} {J : mm_J} {o : Int32 × mm_I × mm_J} (h : f11_findLeast_91_b S n rec85 rec91 v0 v2 v3 I J = some o) : mm_W l M11_findLeast (mm_rm (mm_rk M11_findLeast)) 0 0 S (mm_end S (mm_Qi o.1 o.2.1 o.2.2)) 91 [(0, .ref v0), (2, .int v2), (3, .int v3)] [] I J := by
  unfold f11_findLeast_91_b at h
  refine mm_iload_n d11_findLeast_91 rfl ?_
  refine mm_aload_n d11_findLeast_92 rfl ?_
  refine mm_getI fl_X11_355 d11_findLeast_93 (mm_wtI hS h0 rfl) ?_
  refine mm_icmp_ge (tgt := 228) d11_findLeast_96 (by decide) (fun hc1 => ?_) (fun hc1 => ?_)
  · rw [if_pos hc1] at h
    refine mm_iinc (v := v2 + (-1)) d11_findLeast_228 rfl rfl rfl rfl ?_
    refine mm_goto (tgt := 85) d11_findLeast_231 (by decide) ?_
    refine mm_sub [(0, .ref v0), (2, .int (v2 + (-1)))] ⟨rfl, rfl, trivial⟩ ?_
    exact hrec85 h0 h
  · rw [if_neg hc1] at h
    refine mm_aload_n d11_findLeast_99 rfl ?_
    refine mm_getR fl_X11_96 d11_findLeast_100 (mm_wtR hS 50 h0 rfl rfl) ?_
    refine mm_sipush (v := 256) d11_findLeast_103 (by decide +kernel) ?_
    refine mm_iload_n d11_findLeast_106 rfl ?_
    refine mm_imul d11_findLeast_107 ?_
    refine mm_iload_n d11_findLeast_108 rfl ?_
    refine mm_iadd d11_findLeast_109 ?_
    refine mm_iload_n d11_findLeast_110 rfl ?_
    refine mm_aload_n d11_findLeast_111 rfl ?_
    refine mm_getI fl_X11_140 d11_findLeast_112 (mm_wtI hS h0 rfl) ?_
    refine mm_icmp_ne (tgt := 132) d11_findLeast_115 (by decide) (fun hc2 => ?_) (fun hc2 => ?_)
    · rw [if_neg hc2] at h
      refine mm_aload_n d11_findLeast_132 rfl ?_
      refine mm_iload_n d11_findLeast_133 rfl ?_
      refine mm_iload_n d11_findLeast_134 rfl ?_
      refine mm_iconst (v := (-1)) d11_findLeast_135 (by decide +kernel) ?_
      obtain ⟨o3, hk3, h⟩ := mm_bd h
      refine mm_cVi 11 (As := [.int v2, .int v3, .int (-1)]) (ok11_byGiving l hS h0 hk3) lk_X11_358 rfl d11_findLeast_136 (mm_room rfl rfl) rfl h0 rfl rfl ?_
      refine mm_sub [(0, .ref v0), (2, .int v2), (3, .int v3)] ⟨rfl, rfl, rfl, trivial⟩ ?_
      exact ok11_findLeast_139 l hS hrec85 hrec91 h0 (mm_wtA hS 42 0 h0 rfl rfl) h
    · rw [if_pos hc2] at h
      refine mm_iload_n d11_findLeast_118 rfl ?_
      refine mm_if_ne (tgt := 126) d11_findLeast_119 (by decide) (fun hc4 => ?_) (fun hc4 => ?_)
      · rw [if_neg hc4] at h
        refine mm_ldcw (v := 1000000) d11_findLeast_126 kX11_354 ?_
        refine mm_goto (tgt := 139) d11_findLeast_129 (by decide) ?_
        refine mm_sub [(0, .ref v0), (2, .int v2), (3, .int v3)] ⟨rfl, rfl, rfl, trivial⟩ ?_
        exact ok11_findLeast_139 l hS hrec85 hrec91 h0 (mm_wtA hS 42 0 h0 rfl rfl) h
      · rw [if_pos hc4] at h
        refine mm_iconst (v := 0) d11_findLeast_122 (by decide +kernel) ?_
        refine mm_goto (tgt := 139) d11_findLeast_123 (by decide) ?_
        refine mm_sub [(0, .ref v0), (2, .int v2), (3, .int v3)] ⟨rfl, rfl, rfl, trivial⟩ ?_
        exact ok11_findLeast_139 l hS hrec85 hrec91 h0 (mm_wtA hS 42 0 h0 rfl rfl) h
set_option maxHeartbeats 4000000 in
set_option maxRecDepth 100000 in
theorem ok11_findLeast_91 (l : Launch) {S : mm_Sh} (hS : mm_WT S) {n : Nat}  {rec85 : Nat → Int32 → mm_I → mm_J → Option (Int32 × mm_I × mm_J)} (hrec85 : ∀ {v0 : Nat} {v2 : Int32} (_ : mm_is S v0 11) {I : mm_I} {J : mm_J} {o : Int32 × mm_I × mm_J}, rec85 v0 v2 I J = some o → mm_W l M11_findLeast (mm_rm (mm_rk M11_findLeast)) 0 0 S (mm_end S (mm_Qi o.1 o.2.1 o.2.2)) 85 [(0, .ref v0), (2, .int v2)] [] I J) : ∀ (k : Nat) {v0 : Nat} {v2 : Int32} {v3 : Int32} (h0 : mm_is S v0 11) {I : mm_I} {J : mm_J} {o : Int32 × mm_I × mm_J}, f11_findLeast_91 S n rec85 k v0 v2 v3 I J = some o → mm_W l M11_findLeast (mm_rm (mm_rk M11_findLeast)) 0 0 S (mm_end S (mm_Qi o.1 o.2.1 o.2.2)) 91 [(0, .ref v0), (2, .int v2), (3, .int v3)] [] I J := by
  intro k
  induction k with
  | zero =>
    intros
    rename_i h
    cases h
  | succ k ih =>
    intro v0 v2 v3 h0 I J o h
    exact ok11_findLeast_91_b l hS hrec85 (fun {v0 v2 v3} h0 {I J o} h => ih h0 h) h0 h
set_option maxHeartbeats 4000000 in
set_option maxRecDepth 100000 in
theorem ok11_findLeast_256 (l : Launch) {S : mm_Sh} (hS : mm_WT S) {n : Nat}  {s0 : Int32}  {I : mm_I} {J : mm_J} {o : Int32 × mm_I × mm_J} (h : f11_findLeast_256 S n s0 I J = some o) : mm_W l M11_findLeast (mm_rm (mm_rk M11_findLeast)) 0 0 S (mm_end S (mm_Qi o.1 o.2.1 o.2.2)) 256 [] [.int s0] I J := by
  unfold f11_findLeast_256 at h
  obtain ⟨hb1, h⟩ := mm_gd h
  have h := Option.some.inj h
  subst h
  exact mm_zret rfl d11_findLeast_256 (mm_bit_ok hb1) ⟨rfl, rfl, rfl⟩
set_option maxHeartbeats 4000000 in
set_option maxRecDepth 100000 in
theorem ok11_findLeast_85_b (l : Launch) {S : mm_Sh} (hS : mm_WT S) {n : Nat}  {rec85 : Nat → Int32 → mm_I → mm_J → Option (Int32 × mm_I × mm_J)} (hrec85 : ∀ {v0 : Nat} {v2 : Int32} (_ : mm_is S v0 11) {I : mm_I} {J : mm_J} {o : Int32 × mm_I × mm_J}, rec85 v0 v2 I J = some o → mm_W l M11_findLeast (mm_rm (mm_rk M11_findLeast)) 0 0 S (mm_end S (mm_Qi o.1 o.2.1 o.2.2)) 85 [(0, .ref v0), (2, .int v2)] [] I J) {v0 : Nat} {v2 : Int32} (h0 : mm_is S v0 11) {I : mm_I} {J : mm_J} {o : Int32 × mm_I × mm_J} (h : f11_findLeast_85_b S n rec85 v0 v2 I J = some o) : mm_W l M11_findLeast (mm_rm (mm_rk M11_findLeast)) 0 0 S (mm_end S (mm_Qi o.1 o.2.1 o.2.2)) 85 [(0, .ref v0), (2, .int v2)] [] I J := by
  unfold f11_findLeast_85_b at h
  refine mm_iload_n d11_findLeast_85 rfl ?_
  refine mm_if_lt (tgt := 234) d11_findLeast_86 (by decide) (fun hc1 => ?_) (fun hc1 => ?_)
  · rw [if_pos hc1] at h
    refine mm_aload_n d11_findLeast_234 rfl ?_
    refine mm_getR fl_X11_96 d11_findLeast_235 (mm_wtR hS 50 h0 rfl rfl) ?_
    refine mm_aload_n d11_findLeast_238 rfl ?_
    refine mm_getI fl_X11_355 d11_findLeast_239 (mm_wtI hS h0 rfl) ?_
    refine mm_iconst (v := 1) d11_findLeast_242 (by decide +kernel) ?_
    refine mm_isub d11_findLeast_243 ?_
    obtain ⟨hb2, h⟩ := mm_gd h
    refine mm_iald d11_findLeast_244 (mm_wtA hS 42 0 h0 rfl rfl) (mm_inb_ok hb2) ?_
    refine mm_ldcw (v := 1000000) d11_findLeast_245 kX11_354 ?_
    refine mm_icmp_ge (tgt := 255) d11_findLeast_248 (by decide) (fun hc3 => ?_) (fun hc3 => ?_)
    · rw [if_pos hc3] at h
      refine mm_iconst (v := 0) d11_findLeast_255 (by decide +kernel) ?_
      refine mm_sub [] trivial ?_
      exact ok11_findLeast_256 l hS   h
    · rw [if_neg hc3] at h
      refine mm_iconst (v := 1) d11_findLeast_251 (by decide +kernel) ?_
      refine mm_goto (tgt := 256) d11_findLeast_252 (by decide) ?_
      refine mm_sub [] trivial ?_
      exact ok11_findLeast_256 l hS   h
  · rw [if_neg hc1] at h
    refine mm_iconst (v := 0) d11_findLeast_89 (by decide +kernel) ?_
    refine mm_istore_n d11_findLeast_90 rfl rfl ?_
    refine mm_sub [(0, .ref v0), (2, .int v2), (3, .int 0)] ⟨rfl, rfl, rfl, trivial⟩ ?_
    exact ok11_findLeast_91 l hS hrec85 n h0 h
set_option maxHeartbeats 4000000 in
set_option maxRecDepth 100000 in
theorem ok11_findLeast_85 (l : Launch) {S : mm_Sh} (hS : mm_WT S) {n : Nat}  : ∀ (k : Nat) {v0 : Nat} {v2 : Int32} (h0 : mm_is S v0 11) {I : mm_I} {J : mm_J} {o : Int32 × mm_I × mm_J}, f11_findLeast_85 S n k v0 v2 I J = some o → mm_W l M11_findLeast (mm_rm (mm_rk M11_findLeast)) 0 0 S (mm_end S (mm_Qi o.1 o.2.1 o.2.2)) 85 [(0, .ref v0), (2, .int v2)] [] I J := by
  intro k
  induction k with
  | zero =>
    intros
    rename_i h
    cases h
  | succ k ih =>
    intro v0 v2 h0 I J o h
    exact ok11_findLeast_85_b l hS (fun {v0 v2} h0 {I J o} h => ih h0 h) h0 h
set_option maxHeartbeats 4000000 in
set_option maxRecDepth 100000 in
theorem ok11_findLeast_9_b (l : Launch) {S : mm_Sh} (hS : mm_WT S) {n : Nat}  {rec9 : Nat → Int32 → Int32 → mm_I → mm_J → Option (Int32 × mm_I × mm_J)} (hrec9 : ∀ {v0 : Nat} {v1 : Int32} {v2 : Int32} (_ : mm_is S v0 11) {I : mm_I} {J : mm_J} {o : Int32 × mm_I × mm_J}, rec9 v0 v1 v2 I J = some o → mm_W l M11_findLeast (mm_rm (mm_rk M11_findLeast)) 0 0 S (mm_end S (mm_Qi o.1 o.2.1 o.2.2)) 9 [(0, .ref v0), (1, .int v1), (2, .int v2)] [] I J) {v0 : Nat} {v1 : Int32} {v2 : Int32} (h0 : mm_is S v0 11) {I : mm_I} {J : mm_J} {o : Int32 × mm_I × mm_J} (h : f11_findLeast_9_b S n rec9 v0 v1 v2 I J = some o) : mm_W l M11_findLeast (mm_rm (mm_rk M11_findLeast)) 0 0 S (mm_end S (mm_Qi o.1 o.2.1 o.2.2)) 9 [(0, .ref v0), (1, .int v1), (2, .int v2)] [] I J := by
  unfold f11_findLeast_9_b at h
  refine mm_iload_n d11_findLeast_9 rfl ?_
  refine mm_aload_n d11_findLeast_10 rfl ?_
  refine mm_getI fl_X11_133 d11_findLeast_11 (mm_wtI hS h0 rfl) ?_
  refine mm_icmp_ge (tgt := 72) d11_findLeast_14 (by decide) (fun hc1 => ?_) (fun hc1 => ?_)
  · rw [if_pos hc1] at h
    refine mm_iload_n d11_findLeast_72 rfl ?_
    refine mm_bipush (v := 8) d11_findLeast_73 (by decide +kernel) ?_
    refine mm_icmp_le (tgt := 80) d11_findLeast_75 (by decide) (fun hc2 => ?_) (fun hc2 => ?_)
    · rw [if_pos hc2] at h
      refine mm_aload_n d11_findLeast_80 rfl ?_
      refine mm_getI fl_X11_140 d11_findLeast_81 (mm_wtI hS h0 rfl) ?_
      refine mm_istore_n d11_findLeast_84 rfl rfl ?_
      refine mm_sub [(0, .ref v0), (2, .int (I v0 2))] ⟨rfl, rfl, trivial⟩ ?_
      exact ok11_findLeast_85 l hS  n h0 h
    · rw [if_neg hc2] at h
      refine mm_iconst (v := 0) d11_findLeast_78 (by decide +kernel) ?_
      have h := Option.some.inj h
      subst h
      exact mm_zret rfl d11_findLeast_79 (by decide) ⟨rfl, rfl, rfl⟩
  · rw [if_neg hc1] at h
    refine mm_iload_n d11_findLeast_17 rfl ?_
    refine mm_aload_n d11_findLeast_18 rfl ?_
    refine mm_getR fl_X11_72 d11_findLeast_19 (mm_wtR hS 50 h0 rfl rfl) ?_
    refine mm_iload_n d11_findLeast_22 rfl ?_
    obtain ⟨hb3, h⟩ := mm_gd h
    refine mm_iald d11_findLeast_23 (mm_wtA hS 25 0 h0 rfl rfl) (mm_inb_ok hb3) ?_
    refine mm_iadd d11_findLeast_24 ?_
    refine mm_istore_n d11_findLeast_25 rfl rfl ?_
    refine mm_aload_n d11_findLeast_26 rfl ?_
    refine mm_getR fl_X11_99 d11_findLeast_27 (mm_wtR hS 50 h0 rfl rfl) ?_
    refine mm_iload_n d11_findLeast_30 rfl ?_
    refine mm_aload_n d11_findLeast_31 rfl ?_
    refine mm_getI fl_X11_355 d11_findLeast_32 (mm_wtI hS h0 rfl) ?_
    obtain ⟨hb4, h⟩ := mm_gd h
    refine mm_iast d11_findLeast_35 (mm_wtA hS 43 0 h0 rfl rfl) (mm_inb_ok hb4) ?_
    refine mm_aload_n d11_findLeast_36 rfl ?_
    refine mm_iload_n d11_findLeast_37 rfl ?_
    refine mm_bipush (v := 8) d11_findLeast_38 (by decide +kernel) ?_
    refine mm_icmp_le (tgt := 50) d11_findLeast_40 (by decide) (fun hc5 => ?_) (fun hc5 => ?_)
    · rw [if_pos hc5] at h
      refine mm_aload_n d11_findLeast_50 rfl ?_
      refine mm_getI fl_X11_355 d11_findLeast_51 (mm_wtI hS h0 rfl) ?_
      refine mm_aload_n d11_findLeast_54 rfl ?_
      refine mm_getR fl_X11_72 d11_findLeast_55 (mm_wtR hS 50 h0 rfl rfl) ?_
      refine mm_iload_n d11_findLeast_58 rfl ?_
      obtain ⟨hb6, h⟩ := mm_gd h
      refine mm_iald d11_findLeast_59 (mm_wtA hS 25 0 h0 rfl rfl) (mm_inb_ok hb6) ?_
      refine mm_iconst (v := 1) d11_findLeast_60 (by decide +kernel) ?_
      refine mm_iadd d11_findLeast_61 ?_
      refine mm_imul d11_findLeast_62 ?_
      refine mm_sub [(0, .ref v0), (1, .int (v1 + (I (mm_rf S v0 25) v2.toNatClampNeg))), (2, .int v2)] ⟨rfl, rfl, rfl, trivial⟩ ?_
      exact ok11_findLeast_63 l hS hrec9 h0 h0 h
    · rw [if_neg hc5] at h
      refine mm_aload_n d11_findLeast_43 rfl ?_
      refine mm_getI fl_X11_355 d11_findLeast_44 (mm_wtI hS h0 rfl) ?_
      refine mm_goto (tgt := 63) d11_findLeast_47 (by decide) ?_
      refine mm_sub [(0, .ref v0), (1, .int (v1 + (I (mm_rf S v0 25) v2.toNatClampNeg))), (2, .int v2)] ⟨rfl, rfl, rfl, trivial⟩ ?_
      exact ok11_findLeast_63 l hS hrec9 h0 h0 h
set_option maxHeartbeats 4000000 in
set_option maxRecDepth 100000 in
theorem ok11_findLeast_9 (l : Launch) {S : mm_Sh} (hS : mm_WT S) {n : Nat}  : ∀ (k : Nat) {v0 : Nat} {v1 : Int32} {v2 : Int32} (h0 : mm_is S v0 11) {I : mm_I} {J : mm_J} {o : Int32 × mm_I × mm_J}, f11_findLeast_9 S n k v0 v1 v2 I J = some o → mm_W l M11_findLeast (mm_rm (mm_rk M11_findLeast)) 0 0 S (mm_end S (mm_Qi o.1 o.2.1 o.2.2)) 9 [(0, .ref v0), (1, .int v1), (2, .int v2)] [] I J := by
  intro k
  induction k with
  | zero =>
    intros
    rename_i h
    cases h
  | succ k ih =>
    intro v0 v1 v2 h0 I J o h
    exact ok11_findLeast_9_b l hS (fun {v0 v1 v2} h0 {I J o} h => ih h0 h) h0 h
set_option maxHeartbeats 4000000 in
set_option maxRecDepth 100000 in
theorem ok11_findLeast (l : Launch) {S : mm_Sh} (hS : mm_WT S) {n : Nat}  {v0 : Nat} (h0 : mm_is S v0 11) {I : mm_I} {J : mm_J} {o : Int32 × mm_I × mm_J} (h : f11_findLeast S n v0 I J = some o) : mm_C l M11_findLeast S [.ref v0] I J (mm_Qi o.1 o.2.1 o.2.2) := by
  unfold f11_findLeast at h
  refine mm_enter rfl (by decide +kernel) rfl ?_
  refine mm_iconst (v := 0) d11_findLeast_0 (by decide +kernel) ?_
  refine mm_istore_n d11_findLeast_1 rfl rfl ?_
  refine mm_aload_n d11_findLeast_2 rfl ?_
  refine mm_iconst (v := 1) d11_findLeast_3 (by decide +kernel) ?_
  refine mm_putI fp_X11_355 d11_findLeast_4 (mm_wtI hS h0 rfl) ?_
  refine mm_iconst (v := 0) d11_findLeast_7 (by decide +kernel) ?_
  refine mm_istore_n d11_findLeast_8 rfl rfl ?_
  refine mm_sub [(0, .ref v0), (1, .int 0), (2, .int 0)] ⟨rfl, rfl, rfl, trivial⟩ ?_
  exact ok11_findLeast_9 l hS  n h0 h
set_option maxHeartbeats 4000000 in
set_option maxRecDepth 100000 in
theorem ok11_ringSum_32_b (l : Launch) {S : mm_Sh} (hS : mm_WT S) {n : Nat}  {rec32 : Nat → Int32 → Int32 → Int32 → mm_I → mm_J → Option (Int32)} (hrec32 : ∀ {v0 : Nat} {v1 : Int32} {v2 : Int32} {v3 : Int32} (_ : mm_is S v0 11) {I : mm_I} {J : mm_J} {o : Int32}, rec32 v0 v1 v2 v3 I J = some o → mm_W l M11_ringSum (mm_rm (mm_rk M11_ringSum)) 0 0 S (mm_end S (mm_Qi o I J)) 32 [(0, .ref v0), (1, .int v1), (2, .int v2), (3, .int v3)] [] I J) {v0 : Nat} {v1 : Int32} {v2 : Int32} {v3 : Int32} (h0 : mm_is S v0 11) {I : mm_I} {J : mm_J} {o : Int32} (h : f11_ringSum_32_b S n rec32 v0 v1 v2 v3 I J = some o) : mm_W l M11_ringSum (mm_rm (mm_rk M11_ringSum)) 0 0 S (mm_end S (mm_Qi o I J)) 32 [(0, .ref v0), (1, .int v1), (2, .int v2), (3, .int v3)] [] I J := by
  unfold f11_ringSum_32_b at h
  refine mm_iload_n d11_ringSum_32 rfl ?_
  refine mm_iload_n d11_ringSum_33 rfl ?_
  refine mm_icmp_ge (tgt := 77) d11_ringSum_34 (by decide) (fun hc1 => ?_) (fun hc1 => ?_)
  · rw [if_pos hc1] at h
    refine mm_iload_n d11_ringSum_77 rfl ?_
    have h := Option.some.inj h
    subst h
    exact mm_iret rfl d11_ringSum_78 ⟨rfl, rfl, rfl⟩
  · rw [if_neg hc1] at h
    refine mm_aload_n d11_ringSum_37 rfl ?_
    refine mm_aload_n d11_ringSum_38 rfl ?_
    refine mm_getR fl_X11_102 d11_ringSum_39 (mm_wtR hS 50 h0 rfl rfl) ?_
    refine mm_iload_n d11_ringSum_42 rfl ?_
    obtain ⟨hb2, h⟩ := mm_gd h
    refine mm_iald d11_ringSum_43 (mm_wtA hS 45 0 h0 rfl rfl) (mm_inb_ok hb2) ?_
    refine mm_aload_n d11_ringSum_44 rfl ?_
    refine mm_getR fl_X11_102 d11_ringSum_45 (mm_wtR hS 50 h0 rfl rfl) ?_
    refine mm_iload_n d11_ringSum_48 rfl ?_
    refine mm_iconst (v := 1) d11_ringSum_49 (by decide +kernel) ?_
    refine mm_iadd d11_ringSum_50 ?_
    refine mm_iload_n d11_ringSum_51 rfl ?_
    obtain ⟨hz6, h⟩ := mm_gz h
    refine mm_irem d11_ringSum_52 hz6 ?_
    obtain ⟨hb3, h⟩ := mm_gd h
    refine mm_iald d11_ringSum_53 (mm_wtA hS 45 0 h0 rfl rfl) (mm_inb_ok hb3) ?_
    obtain ⟨o4, hk4, h⟩ := mm_bd h
    refine mm_cVi 11 (As := [.int (I (mm_rf S v0 45) v3.toNatClampNeg), .int (I (mm_rf S v0 45) ((v3 + 1) - (v3 + 1) / v1 * v1).toNatClampNeg)]) (ok11_gainBy l hS h0 hk4) lk_X11_372 rfl d11_ringSum_54 (mm_room rfl rfl) rfl h0 rfl rfl ?_
    refine mm_istore d11_ringSum_57 rfl rfl ?_
    refine mm_iload d11_ringSum_59 rfl ?_
    refine mm_if_ne (tgt := 66) d11_ringSum_61 (by decide) (fun hc5 => ?_) (fun hc5 => ?_)
    · rw [if_neg hc5] at h
      refine mm_iload_n d11_ringSum_66 rfl ?_
      refine mm_iload d11_ringSum_67 rfl ?_
      refine mm_iadd d11_ringSum_69 ?_
      refine mm_istore_n d11_ringSum_70 rfl rfl ?_
      refine mm_iinc (v := v3 + 1) d11_ringSum_71 rfl rfl rfl rfl ?_
      refine mm_goto (tgt := 32) d11_ringSum_74 (by decide) ?_
      refine mm_sub [(0, .ref v0), (1, .int v1), (2, .int (v2 + o4)), (3, .int (v3 + 1))] ⟨rfl, rfl, rfl, rfl, trivial⟩ ?_
      exact hrec32 h0 h
    · rw [if_pos hc5] at h
      refine mm_iconst (v := 0) d11_ringSum_64 (by decide +kernel) ?_
      have h := Option.some.inj h
      subst h
      exact mm_iret rfl d11_ringSum_65 ⟨rfl, rfl, rfl⟩
set_option maxHeartbeats 4000000 in
set_option maxRecDepth 100000 in
theorem ok11_ringSum_32 (l : Launch) {S : mm_Sh} (hS : mm_WT S) {n : Nat}  : ∀ (k : Nat) {v0 : Nat} {v1 : Int32} {v2 : Int32} {v3 : Int32} (h0 : mm_is S v0 11) {I : mm_I} {J : mm_J} {o : Int32}, f11_ringSum_32 S n k v0 v1 v2 v3 I J = some o → mm_W l M11_ringSum (mm_rm (mm_rk M11_ringSum)) 0 0 S (mm_end S (mm_Qi o I J)) 32 [(0, .ref v0), (1, .int v1), (2, .int v2), (3, .int v3)] [] I J := by
  intro k
  induction k with
  | zero =>
    intros
    rename_i h
    cases h
  | succ k ih =>
    intro v0 v1 v2 v3 h0 I J o h
    exact ok11_ringSum_32_b l hS (fun {v0 v1 v2 v3} h0 {I J o} h => ih h0 h) h0 h
set_option maxHeartbeats 4000000 in
set_option maxRecDepth 100000 in
theorem ok11_ringSum_4_b (l : Launch) {S : mm_Sh} (hS : mm_WT S) {n : Nat}  {rec4 : Nat → Int32 → Int32 → Int32 → mm_I → mm_J → Option (Int32)} (hrec4 : ∀ {v0 : Nat} {v1 : Int32} {v2 : Int32} {v3 : Int32} (_ : mm_is S v0 11) {I : mm_I} {J : mm_J} {o : Int32}, rec4 v0 v1 v2 v3 I J = some o → mm_W l M11_ringSum (mm_rm (mm_rk M11_ringSum)) 0 0 S (mm_end S (mm_Qi o I J)) 4 [(0, .ref v0), (1, .int v1), (2, .int v2), (3, .int v3)] [] I J) {v0 : Nat} {v1 : Int32} {v2 : Int32} {v3 : Int32} (h0 : mm_is S v0 11) {I : mm_I} {J : mm_J} {o : Int32} (h : f11_ringSum_4_b S n rec4 v0 v1 v2 v3 I J = some o) : mm_W l M11_ringSum (mm_rm (mm_rk M11_ringSum)) 0 0 S (mm_end S (mm_Qi o I J)) 4 [(0, .ref v0), (1, .int v1), (2, .int v2), (3, .int v3)] [] I J := by
  unfold f11_ringSum_4_b at h
  refine mm_iload_n d11_ringSum_4 rfl ?_
  refine mm_iload_n d11_ringSum_5 rfl ?_
  refine mm_icmp_ge (tgt := 30) d11_ringSum_6 (by decide) (fun hc1 => ?_) (fun hc1 => ?_)
  · rw [if_pos hc1] at h
    refine mm_iconst (v := 0) d11_ringSum_30 (by decide +kernel) ?_
    refine mm_istore_n d11_ringSum_31 rfl rfl ?_
    refine mm_sub [(0, .ref v0), (1, .int v1), (2, .int v2), (3, .int 0)] ⟨rfl, rfl, rfl, rfl, trivial⟩ ?_
    exact ok11_ringSum_32 l hS  n h0 h
  · rw [if_neg hc1] at h
    refine mm_aload_n d11_ringSum_9 rfl ?_
    refine mm_aload_n d11_ringSum_10 rfl ?_
    refine mm_getR fl_X11_102 d11_ringSum_11 (mm_wtR hS 50 h0 rfl rfl) ?_
    refine mm_iload_n d11_ringSum_14 rfl ?_
    obtain ⟨hb2, h⟩ := mm_gd h
    refine mm_iald d11_ringSum_15 (mm_wtA hS 45 0 h0 rfl rfl) (mm_inb_ok hb2) ?_
    obtain ⟨o3, hk3, h⟩ := mm_bd h
    refine mm_cVi 11 (As := [.int (I (mm_rf S v0 45) v3.toNatClampNeg)]) (ok11_maySwap l hS h0 hk3) lk_X11_369 rfl d11_ringSum_16 (mm_room rfl rfl) rfl h0 rfl rfl ?_
    refine mm_if_ne (tgt := 24) d11_ringSum_19 (by decide) (fun hc4 => ?_) (fun hc4 => ?_)
    · rw [if_neg hc4] at h
      refine mm_iinc (v := v3 + 1) d11_ringSum_24 rfl rfl rfl rfl ?_
      refine mm_goto (tgt := 4) d11_ringSum_27 (by decide) ?_
      refine mm_sub [(0, .ref v0), (1, .int v1), (2, .int v2), (3, .int (v3 + 1))] ⟨rfl, rfl, rfl, rfl, trivial⟩ ?_
      exact hrec4 h0 h
    · rw [if_pos hc4] at h
      refine mm_iconst (v := 0) d11_ringSum_22 (by decide +kernel) ?_
      have h := Option.some.inj h
      subst h
      exact mm_iret rfl d11_ringSum_23 ⟨rfl, rfl, rfl⟩
set_option maxHeartbeats 4000000 in
set_option maxRecDepth 100000 in
theorem ok11_ringSum_4 (l : Launch) {S : mm_Sh} (hS : mm_WT S) {n : Nat}  : ∀ (k : Nat) {v0 : Nat} {v1 : Int32} {v2 : Int32} {v3 : Int32} (h0 : mm_is S v0 11) {I : mm_I} {J : mm_J} {o : Int32}, f11_ringSum_4 S n k v0 v1 v2 v3 I J = some o → mm_W l M11_ringSum (mm_rm (mm_rk M11_ringSum)) 0 0 S (mm_end S (mm_Qi o I J)) 4 [(0, .ref v0), (1, .int v1), (2, .int v2), (3, .int v3)] [] I J := by
  intro k
  induction k with
  | zero =>
    intros
    rename_i h
    cases h
  | succ k ih =>
    intro v0 v1 v2 v3 h0 I J o h
    exact ok11_ringSum_4_b l hS (fun {v0 v1 v2 v3} h0 {I J o} h => ih h0 h) h0 h
set_option maxHeartbeats 4000000 in
set_option maxRecDepth 100000 in
theorem ok11_ringSum (l : Launch) {S : mm_Sh} (hS : mm_WT S) {n : Nat}  {v0 : Nat} {v1 : Int32} (h0 : mm_is S v0 11) {I : mm_I} {J : mm_J} {o : Int32} (h : f11_ringSum S n v0 v1 I J = some o) : mm_C l M11_ringSum S [.ref v0, .int v1] I J (mm_Qi o I J) := by
  unfold f11_ringSum at h
  refine mm_enter rfl (by decide +kernel) rfl ?_
  refine mm_iconst (v := 0) d11_ringSum_0 (by decide +kernel) ?_
  refine mm_istore_n d11_ringSum_1 rfl rfl ?_
  refine mm_iconst (v := 0) d11_ringSum_2 (by decide +kernel) ?_
  refine mm_istore_n d11_ringSum_3 rfl rfl ?_
  refine mm_sub [(0, .ref v0), (1, .int v1), (2, .int 0), (3, .int 0)] ⟨rfl, rfl, rfl, rfl, trivial⟩ ?_
  exact ok11_ringSum_4 l hS  n h0 h
set_option maxHeartbeats 4000000 in
set_option maxRecDepth 100000 in
theorem ok11_takeLaw_217 (l : Launch) {S : mm_Sh} (hS : mm_WT S) {n : Nat}  {v0 : Nat} {s0 : Nat} {s1 : Int32} (h0 : mm_is S v0 11) (g0 : mm_is S s0 11) {I : mm_I} {J : mm_J} {o : Int32 × mm_I × mm_J} (h : f11_takeLaw_217 S n v0 s0 s1 I J = some o) : mm_W l M11_takeLaw (mm_rm (mm_rk M11_takeLaw)) 0 0 S (mm_end S (mm_Qi o.1 o.2.1 o.2.2)) 217 [(0, .ref v0)] [.int s1, .ref s0] I J := by
  unfold f11_takeLaw_217 at h
  refine mm_aload_n d11_takeLaw_217 rfl ?_
  refine mm_getI fl_X11_163 d11_takeLaw_218 (mm_wtI hS h0 rfl) ?_
  obtain ⟨o1, hk1, h⟩ := mm_bd h
  refine mm_cVi 11 (As := [.int s1, .int (I v0 29)]) (ok11_fails l hS g0 hk1) lk_X11_192 rfl d11_takeLaw_221 (mm_room rfl rfl) rfl g0 rfl rfl ?_
  have h := Option.some.inj h
  subst h
  exact mm_iret rfl d11_takeLaw_224 ⟨rfl, rfl, rfl⟩
set_option maxHeartbeats 4000000 in
set_option maxRecDepth 100000 in
theorem ok11_takeLaw_207 (l : Launch) {S : mm_Sh} (hS : mm_WT S) {n : Nat}  {v0 : Nat} {v2 : Int32} (h0 : mm_is S v0 11) {I : mm_I} {J : mm_J} {o : Int32 × mm_I × mm_J} (h : f11_takeLaw_207 S n v0 v2 I J = some o) : mm_W l M11_takeLaw (mm_rm (mm_rk M11_takeLaw)) 0 0 S (mm_end S (mm_Qi o.1 o.2.1 o.2.2)) 207 [(0, .ref v0), (2, .int v2)] [] I J := by
  unfold f11_takeLaw_207 at h
  refine mm_aload_n d11_takeLaw_207 rfl ?_
  refine mm_iload_n d11_takeLaw_208 rfl ?_
  refine mm_if_ge (tgt := 216) d11_takeLaw_209 (by decide) (fun hc1 => ?_) (fun hc1 => ?_)
  · rw [if_pos hc1] at h
    refine mm_iconst (v := 3) d11_takeLaw_216 (by decide +kernel) ?_
    refine mm_sub [(0, .ref v0)] ⟨rfl, trivial⟩ ?_
    exact ok11_takeLaw_217 l hS  h0 h0 h
  · rw [if_neg hc1] at h
    refine mm_iconst (v := 1) d11_takeLaw_212 (by decide +kernel) ?_
    refine mm_goto (tgt := 217) d11_takeLaw_213 (by decide) ?_
    refine mm_sub [(0, .ref v0)] ⟨rfl, trivial⟩ ?_
    exact ok11_takeLaw_217 l hS  h0 h0 h
set_option maxHeartbeats 4000000 in
set_option maxRecDepth 100000 in
theorem ok11_takeLaw_317 (l : Launch) {S : mm_Sh} (hS : mm_WT S) {n : Nat}  {s0 : Int32}  {I : mm_I} {J : mm_J} {o : Int32 × mm_I × mm_J} (h : f11_takeLaw_317 S n s0 I J = some o) : mm_W l M11_takeLaw (mm_rm (mm_rk M11_takeLaw)) 0 0 S (mm_end S (mm_Qi o.1 o.2.1 o.2.2)) 317 [] [.int s0] I J := by
  unfold f11_takeLaw_317 at h
  have h := Option.some.inj h
  subst h
  exact mm_iret rfl d11_takeLaw_317 ⟨rfl, rfl, rfl⟩
set_option maxHeartbeats 4000000 in
set_option maxRecDepth 100000 in
theorem ok11_takeLaw_305 (l : Launch) {S : mm_Sh} (hS : mm_WT S) {n : Nat}  {v0 : Nat} {v3 : Int32} (h0 : mm_is S v0 11) {I : mm_I} {J : mm_J} {o : Int32 × mm_I × mm_J} (h : f11_takeLaw_305 S n v0 v3 I J = some o) : mm_W l M11_takeLaw (mm_rm (mm_rk M11_takeLaw)) 0 0 S (mm_end S (mm_Qi o.1 o.2.1 o.2.2)) 305 [(0, .ref v0), (3, .int v3)] [] I J := by
  unfold f11_takeLaw_305 at h
  refine mm_iload_n d11_takeLaw_305 rfl ?_
  refine mm_if_le (tgt := 313) d11_takeLaw_306 (by decide) (fun hc1 => ?_) (fun hc1 => ?_)
  · rw [if_pos hc1] at h
    refine mm_aload_n d11_takeLaw_313 rfl ?_
    obtain ⟨o2, hk2, h⟩ := mm_bd h
    refine mm_cVi 11 (As := []) (ok11_takeStop l hS h0 hk2) lk_X11_238 rfl d11_takeLaw_314 (mm_room rfl rfl) rfl h0 rfl rfl ?_
    refine mm_sub [] trivial ?_
    exact ok11_takeLaw_317 l hS   h
  · rw [if_neg hc1] at h
    refine mm_iload_n d11_takeLaw_309 rfl ?_
    refine mm_goto (tgt := 317) d11_takeLaw_310 (by decide) ?_
    refine mm_sub [] trivial ?_
    exact ok11_takeLaw_317 l hS   h
set_option maxHeartbeats 4000000 in
set_option maxRecDepth 100000 in
theorem ok11_takeLaw_301 (l : Launch) {S : mm_Sh} (hS : mm_WT S) {n : Nat}  {v0 : Nat} {s0 : Nat} {s1 : Nat} {s2 : Int32} {s3 : Int32} {s4 : Int32} (h0 : mm_is S v0 11) (g0 : mm_is S s0 11) (g1 : S[s1]? = some (.inl (0, mm_al S s1))) {I : mm_I} {J : mm_J} {o : Int32 × mm_I × mm_J} (h : f11_takeLaw_301 S n v0 s0 s1 s2 s3 s4 I J = some o) : mm_W l M11_takeLaw (mm_rm (mm_rk M11_takeLaw)) 0 0 S (mm_end S (mm_Qi o.1 o.2.1 o.2.2)) 301 [(0, .ref v0)] [.int s4, .int s3, .int s2, .ref s1, .ref s0] I J := by
  unfold f11_takeLaw_301 at h
  obtain ⟨o1, hk1, h⟩ := mm_bd h
  refine mm_cVi 11 (As := [.ref s1, .int s2, .int s3, .int s4]) (ok11_into l hS g0 g1 hk1) lk_X11_219 rfl d11_takeLaw_301 (mm_room rfl rfl) rfl g0 rfl rfl ?_
  refine mm_istore_n d11_takeLaw_304 rfl rfl ?_
  refine mm_sub [(0, .ref v0), (3, .int o1.1)] ⟨rfl, rfl, trivial⟩ ?_
  exact ok11_takeLaw_305 l hS  h0 h
set_option maxHeartbeats 4000000 in
set_option maxRecDepth 100000 in
theorem ok11_takeLaw_271 (l : Launch) {S : mm_Sh} (hS : mm_WT S) {n : Nat}  {v0 : Nat} {v2 : Int32} {s0 : Nat} {s1 : Nat} {s2 : Int32} {s3 : Int32} (h0 : mm_is S v0 11) (g0 : mm_is S s0 11) (g1 : S[s1]? = some (.inl (0, mm_al S s1))) {I : mm_I} {J : mm_J} {o : Int32 × mm_I × mm_J} (h : f11_takeLaw_271 S n v0 v2 s0 s1 s2 s3 I J = some o) : mm_W l M11_takeLaw (mm_rm (mm_rk M11_takeLaw)) 0 0 S (mm_end S (mm_Qi o.1 o.2.1 o.2.2)) 271 [(0, .ref v0), (2, .int v2)] [.int s3, .int s2, .ref s1, .ref s0] I J := by
  unfold f11_takeLaw_271 at h
  refine mm_iload_n d11_takeLaw_271 rfl ?_
  refine mm_if_ne (tgt := 280) d11_takeLaw_272 (by decide) (fun hc1 => ?_) (fun hc1 => ?_)
  · rw [if_neg hc1] at h
    refine mm_iload_n d11_takeLaw_280 rfl ?_
    refine mm_iconst (v := 1) d11_takeLaw_281 (by decide +kernel) ?_
    refine mm_icmp_ne (tgt := 289) d11_takeLaw_282 (by decide) (fun hc2 => ?_) (fun hc2 => ?_)
    · rw [if_neg hc2] at h
      refine mm_iload_n d11_takeLaw_289 rfl ?_
      refine mm_iconst (v := 4) d11_takeLaw_290 (by decide +kernel) ?_
      refine mm_icmp_ne (tgt := 299) d11_takeLaw_291 (by decide) (fun hc3 => ?_) (fun hc3 => ?_)
      · rw [if_neg hc3] at h
        refine mm_bipush (v := 100) d11_takeLaw_299 (by decide +kernel) ?_
        refine mm_sub [(0, .ref v0)] ⟨rfl, trivial⟩ ?_
        exact ok11_takeLaw_301 l hS  h0 g0 g1 h
      · rw [if_pos hc3] at h
        refine mm_bipush (v := 120) d11_takeLaw_294 (by decide +kernel) ?_
        refine mm_goto (tgt := 301) d11_takeLaw_296 (by decide) ?_
        refine mm_sub [(0, .ref v0)] ⟨rfl, trivial⟩ ?_
        exact ok11_takeLaw_301 l hS  h0 g0 g1 h
    · rw [if_pos hc2] at h
      refine mm_iconst (v := 3) d11_takeLaw_285 (by decide +kernel) ?_
      refine mm_goto (tgt := 301) d11_takeLaw_286 (by decide) ?_
      refine mm_sub [(0, .ref v0)] ⟨rfl, trivial⟩ ?_
      exact ok11_takeLaw_301 l hS  h0 g0 g1 h
  · rw [if_pos hc1] at h
    refine mm_bipush (v := 6) d11_takeLaw_275 (by decide +kernel) ?_
    refine mm_goto (tgt := 301) d11_takeLaw_277 (by decide) ?_
    refine mm_sub [(0, .ref v0)] ⟨rfl, trivial⟩ ?_
    exact ok11_takeLaw_301 l hS  h0 g0 g1 h
set_option maxHeartbeats 4000000 in
set_option maxRecDepth 100000 in
theorem ok11_takeLaw_266 (l : Launch) {S : mm_Sh} (hS : mm_WT S) {n : Nat}  {v0 : Nat} {v2 : Int32} {s0 : Nat} {s1 : Nat} {s2 : Int32} (h0 : mm_is S v0 11) (g0 : mm_is S s0 11) (g1 : S[s1]? = some (.inl (0, mm_al S s1))) {I : mm_I} {J : mm_J} {o : Int32 × mm_I × mm_J} (h : f11_takeLaw_266 S n v0 v2 s0 s1 s2 I J = some o) : mm_W l M11_takeLaw (mm_rm (mm_rk M11_takeLaw)) 0 0 S (mm_end S (mm_Qi o.1 o.2.1 o.2.2)) 266 [(0, .ref v0), (2, .int v2)] [.int s2, .ref s1, .ref s0] I J := by
  unfold f11_takeLaw_266 at h
  refine mm_iconst (v := 0) d11_takeLaw_266 (by decide +kernel) ?_
  refine mm_goto (tgt := 271) d11_takeLaw_267 (by decide) ?_
  refine mm_sub [(0, .ref v0), (2, .int v2)] ⟨rfl, rfl, trivial⟩ ?_
  exact ok11_takeLaw_271 l hS  h0 g0 g1 h
set_option maxHeartbeats 4000000 in
set_option maxRecDepth 100000 in
theorem ok11_takeLaw_193 (l : Launch) {S : mm_Sh} (hS : mm_WT S) {n : Nat}  {v0 : Nat} {s0 : Int32} (h0 : mm_is S v0 11) {I : mm_I} {J : mm_J} {o : Int32 × mm_I × mm_J} (h : f11_takeLaw_193 S n v0 s0 I J = some o) : mm_W l M11_takeLaw (mm_rm (mm_rk M11_takeLaw)) 0 0 S (mm_end S (mm_Qi o.1 o.2.1 o.2.2)) 193 [(0, .ref v0)] [.int s0] I J := by
  unfold f11_takeLaw_193 at h
  refine mm_istore_n d11_takeLaw_193 rfl rfl ?_
  refine mm_iload_n d11_takeLaw_194 rfl ?_
  refine mm_if_lt (tgt := 207) d11_takeLaw_195 (by decide) (fun hc1 => ?_) (fun hc1 => ?_)
  · rw [if_pos hc1] at h
    refine mm_sub [(0, .ref v0), (2, .int s0)] ⟨rfl, rfl, trivial⟩ ?_
    exact ok11_takeLaw_207 l hS  h0 h
  · rw [if_neg hc1] at h
    refine mm_aload_n d11_takeLaw_198 rfl ?_
    refine mm_getR fl_X11_93 d11_takeLaw_199 (mm_wtR hS 50 h0 rfl rfl) ?_
    refine mm_iload_n d11_takeLaw_202 rfl ?_
    obtain ⟨hb2, h⟩ := mm_gd h
    refine mm_iald d11_takeLaw_203 (mm_wtA hS 41 0 h0 rfl rfl) (mm_inb_ok hb2) ?_
    refine mm_if_lt (tgt := 225) d11_takeLaw_204 (by decide) (fun hc3 => ?_) (fun hc3 => ?_)
    · rw [if_pos hc3] at h
      refine mm_aload_n d11_takeLaw_225 rfl ?_
      refine mm_aload_n d11_takeLaw_226 rfl ?_
      refine mm_getI fl_X11_173 d11_takeLaw_227 (mm_wtI hS h0 rfl) ?_
      refine mm_putI fp_X11_163 d11_takeLaw_230 (mm_wtI hS h0 rfl) ?_
      refine mm_iconst (v := 0) d11_takeLaw_233 (by decide +kernel) ?_
      refine mm_istore_n d11_takeLaw_234 rfl rfl ?_
      refine mm_iload_n d11_takeLaw_235 rfl ?_
      refine mm_iconst (v := 5) d11_takeLaw_236 (by decide +kernel) ?_
      refine mm_icmp_ne (tgt := 250) d11_takeLaw_237 (by decide) (fun hc4 => ?_) (fun hc4 => ?_)
      · rw [if_neg hc4] at h
        refine mm_aload_n d11_takeLaw_250 rfl ?_
        refine mm_aload_n d11_takeLaw_251 rfl ?_
        refine mm_getR fl_X11_93 d11_takeLaw_252 (mm_wtR hS 50 h0 rfl rfl) ?_
        refine mm_iload_n d11_takeLaw_255 rfl ?_
        refine mm_iload_n d11_takeLaw_256 rfl ?_
        refine mm_iconst (v := 1) d11_takeLaw_257 (by decide +kernel) ?_
        refine mm_icmp_eq (tgt := 266) d11_takeLaw_258 (by decide) (fun hc5 => ?_) (fun hc5 => ?_)
        · rw [if_pos hc5] at h
          refine mm_sub [(0, .ref v0), (2, .int s0)] ⟨rfl, rfl, trivial⟩ ?_
          exact ok11_takeLaw_266 l hS  h0 h0 (mm_wtA hS 41 0 h0 rfl rfl) h
        · rw [if_neg hc5] at h
          refine mm_iload_n d11_takeLaw_261 rfl ?_
          refine mm_iconst (v := 3) d11_takeLaw_262 (by decide +kernel) ?_
          refine mm_icmp_ne (tgt := 270) d11_takeLaw_263 (by decide) (fun hc6 => ?_) (fun hc6 => ?_)
          · rw [if_neg hc6] at h
            refine mm_iconst (v := 1) d11_takeLaw_270 (by decide +kernel) ?_
            refine mm_sub [(0, .ref v0), (2, .int s0)] ⟨rfl, rfl, trivial⟩ ?_
            exact ok11_takeLaw_271 l hS  h0 h0 (mm_wtA hS 41 0 h0 rfl rfl) h
          · rw [if_pos hc6] at h
            refine mm_sub [(0, .ref v0), (2, .int s0)] ⟨rfl, rfl, trivial⟩ ?_
            exact ok11_takeLaw_266 l hS  h0 h0 (mm_wtA hS 41 0 h0 rfl rfl) h
      · rw [if_pos hc4] at h
        refine mm_aload_n d11_takeLaw_240 rfl ?_
        refine mm_getR fl_X11_93 d11_takeLaw_241 (mm_wtR hS 50 h0 rfl rfl) ?_
        refine mm_iconst (v := 5) d11_takeLaw_244 (by decide +kernel) ?_
        refine mm_iconst (v := 1) d11_takeLaw_245 (by decide +kernel) ?_
        obtain ⟨hb7, h⟩ := mm_gd h
        refine mm_iast d11_takeLaw_246 (mm_wtA hS 41 0 h0 rfl rfl) (mm_inb_ok hb7) ?_
        refine mm_goto (tgt := 305) d11_takeLaw_247 (by decide) ?_
        refine mm_sub [(0, .ref v0), (3, .int 0)] ⟨rfl, rfl, trivial⟩ ?_
        exact ok11_takeLaw_305 l hS  h0 h
    · rw [if_neg hc3] at h
      refine mm_sub [(0, .ref v0), (2, .int s0)] ⟨rfl, rfl, trivial⟩ ?_
      exact ok11_takeLaw_207 l hS  h0 h
set_option maxHeartbeats 4000000 in
set_option maxRecDepth 100000 in
theorem ok11_takeLaw_109 (l : Launch) {S : mm_Sh} (hS : mm_WT S) {n : Nat}  {v0 : Nat} {s0 : Int32} (h0 : mm_is S v0 11) {I : mm_I} {J : mm_J} {o : Int32 × mm_I × mm_J} (h : f11_takeLaw_109 S n v0 s0 I J = some o) : mm_W l M11_takeLaw (mm_rm (mm_rk M11_takeLaw)) 0 0 S (mm_end S (mm_Qi o.1 o.2.1 o.2.2)) 109 [(0, .ref v0)] [.int s0] I J := by
  unfold f11_takeLaw_109 at h
  refine mm_istore_n d11_takeLaw_109 rfl rfl ?_
  refine mm_iload_n d11_takeLaw_110 rfl ?_
  refine mm_if_lt (tgt := 118) d11_takeLaw_111 (by decide) (fun hc1 => ?_) (fun hc1 => ?_)
  · rw [if_pos hc1] at h
    refine mm_aload_n d11_takeLaw_118 rfl ?_
    refine mm_getJ fl_X11_169 d11_takeLaw_119 (mm_wtJ hS h0 rfl) ?_
    refine mm_bipush (v := 114) d11_takeLaw_122 (by decide +kernel) ?_
    refine mm_bipush (v := 117) d11_takeLaw_124 (by decide +kernel) ?_
    refine mm_bipush (v := 115) d11_takeLaw_126 (by decide +kernel) ?_
    refine mm_bipush (v := 116) d11_takeLaw_128 (by decide +kernel) ?_
    obtain ⟨o2, hk2, h⟩ := mm_bd h
    refine mm_cSl (As := [.int 114, .int 117, .int 115, .int 116]) (ok11_code l hS hk2) lk_X11_211 rfl d11_takeLaw_130 (mm_room rfl rfl) rfl rfl ?_
    refine mm_bipush (v := 115) d11_takeLaw_133 (by decide +kernel) ?_
    obtain ⟨o3, hk3, h⟩ := mm_bd h
    refine mm_cSl (As := [.long o2, .int 115]) (ok11_longer l hS hk3) lk_X11_215 rfl d11_takeLaw_135 (mm_room rfl rfl) rfl rfl ?_
    refine mm_lcmp d11_takeLaw_138 ?_
    refine mm_if_ne (tgt := 146) d11_takeLaw_139 (by decide) (fun hc4 => ?_) (fun hc4 => ?_)
    · rw [if_neg hc4] at h
      refine mm_aload_n d11_takeLaw_146 rfl ?_
      refine mm_getJ fl_X11_169 d11_takeLaw_147 (mm_wtJ hS h0 rfl) ?_
      refine mm_bipush (v := 100) d11_takeLaw_150 (by decide +kernel) ?_
      refine mm_bipush (v := 105) d11_takeLaw_152 (by decide +kernel) ?_
      refine mm_bipush (v := 101) d11_takeLaw_154 (by decide +kernel) ?_
      refine mm_bipush (v := 115) d11_takeLaw_156 (by decide +kernel) ?_
      obtain ⟨o5, hk5, h⟩ := mm_bd h
      refine mm_cSl (As := [.int 100, .int 105, .int 101, .int 115]) (ok11_code l hS hk5) lk_X11_211 rfl d11_takeLaw_158 (mm_room rfl rfl) rfl rfl ?_
      refine mm_lcmp d11_takeLaw_161 ?_
      refine mm_if_ne (tgt := 169) d11_takeLaw_162 (by decide) (fun hc6 => ?_) (fun hc6 => ?_)
      · rw [if_neg hc6] at h
        refine mm_aload_n d11_takeLaw_169 rfl ?_
        refine mm_getJ fl_X11_169 d11_takeLaw_170 (mm_wtJ hS h0 rfl) ?_
        refine mm_bipush (v := 108) d11_takeLaw_173 (by decide +kernel) ?_
        refine mm_bipush (v := 101) d11_takeLaw_175 (by decide +kernel) ?_
        refine mm_bipush (v := 110) d11_takeLaw_177 (by decide +kernel) ?_
        refine mm_bipush (v := 116) d11_takeLaw_179 (by decide +kernel) ?_
        obtain ⟨o7, hk7, h⟩ := mm_bd h
        refine mm_cSl (As := [.int 108, .int 101, .int 110, .int 116]) (ok11_code l hS hk7) lk_X11_211 rfl d11_takeLaw_181 (mm_room rfl rfl) rfl rfl ?_
        refine mm_lcmp d11_takeLaw_184 ?_
        refine mm_if_ne (tgt := 192) d11_takeLaw_185 (by decide) (fun hc8 => ?_) (fun hc8 => ?_)
        · rw [if_neg hc8] at h
          refine mm_iconst (v := (-1)) d11_takeLaw_192 (by decide +kernel) ?_
          refine mm_sub [(0, .ref v0)] ⟨rfl, trivial⟩ ?_
          exact ok11_takeLaw_193 l hS  h0 h
        · rw [if_pos hc8] at h
          refine mm_iconst (v := 5) d11_takeLaw_188 (by decide +kernel) ?_
          refine mm_goto (tgt := 193) d11_takeLaw_189 (by decide) ?_
          refine mm_sub [(0, .ref v0)] ⟨rfl, trivial⟩ ?_
          exact ok11_takeLaw_193 l hS  h0 h
      · rw [if_pos hc6] at h
        refine mm_iconst (v := 4) d11_takeLaw_165 (by decide +kernel) ?_
        refine mm_goto (tgt := 193) d11_takeLaw_166 (by decide) ?_
        refine mm_sub [(0, .ref v0)] ⟨rfl, trivial⟩ ?_
        exact ok11_takeLaw_193 l hS  h0 h
    · rw [if_pos hc4] at h
      refine mm_iconst (v := 3) d11_takeLaw_142 (by decide +kernel) ?_
      refine mm_goto (tgt := 193) d11_takeLaw_143 (by decide) ?_
      refine mm_sub [(0, .ref v0)] ⟨rfl, trivial⟩ ?_
      exact ok11_takeLaw_193 l hS  h0 h
  · rw [if_neg hc1] at h
    refine mm_iload_n d11_takeLaw_114 rfl ?_
    refine mm_goto (tgt := 193) d11_takeLaw_115 (by decide) ?_
    refine mm_sub [(0, .ref v0)] ⟨rfl, trivial⟩ ?_
    exact ok11_takeLaw_193 l hS  h0 h
set_option maxHeartbeats 4000000 in
set_option maxRecDepth 100000 in
theorem ok11_takeLaw (l : Launch) {S : mm_Sh} (hS : mm_WT S) {n : Nat}  {v0 : Nat} (h0 : mm_is S v0 11) {I : mm_I} {J : mm_J} {o : Int32 × mm_I × mm_J} (h : f11_takeLaw S n v0 I J = some o) : mm_C l M11_takeLaw S [.ref v0] I J (mm_Qi o.1 o.2.1 o.2.2) := by
  unfold f11_takeLaw at h
  refine mm_enter rfl (by decide +kernel) rfl ?_
  refine mm_aload_n d11_takeLaw_0 rfl ?_
  obtain ⟨o1, hk1, h⟩ := mm_bd h
  refine mm_cVv 11 (As := []) (ok11_readWord l hS h0 hk1) lk_X11_205 rfl d11_takeLaw_1 (mm_room rfl rfl) rfl h0 rfl rfl ?_
  refine mm_aload_n d11_takeLaw_4 rfl ?_
  refine mm_getJ fl_X11_169 d11_takeLaw_5 (mm_wtJ hS h0 rfl) ?_
  refine mm_bipush (v := 104) d11_takeLaw_8 (by decide +kernel) ?_
  refine mm_bipush (v := 111) d11_takeLaw_10 (by decide +kernel) ?_
  refine mm_bipush (v := 108) d11_takeLaw_12 (by decide +kernel) ?_
  refine mm_bipush (v := 100) d11_takeLaw_14 (by decide +kernel) ?_
  obtain ⟨o2, hk2, h⟩ := mm_bd h
  refine mm_cSl (As := [.int 104, .int 111, .int 108, .int 100]) (ok11_code l hS hk2) lk_X11_211 rfl d11_takeLaw_16 (mm_room rfl rfl) rfl rfl ?_
  refine mm_bipush (v := 115) d11_takeLaw_19 (by decide +kernel) ?_
  obtain ⟨o3, hk3, h⟩ := mm_bd h
  refine mm_cSl (As := [.long o2, .int 115]) (ok11_longer l hS hk3) lk_X11_215 rfl d11_takeLaw_21 (mm_room rfl rfl) rfl rfl ?_
  refine mm_lcmp d11_takeLaw_24 ?_
  refine mm_if_ne (tgt := 32) d11_takeLaw_25 (by decide) (fun hc4 => ?_) (fun hc4 => ?_)
  · rw [if_neg hc4] at h
    refine mm_aload_n d11_takeLaw_32 rfl ?_
    refine mm_getJ fl_X11_169 d11_takeLaw_33 (mm_wtJ hS h0 rfl) ?_
    refine mm_bipush (v := 119) d11_takeLaw_36 (by decide +kernel) ?_
    refine mm_bipush (v := 105) d11_takeLaw_38 (by decide +kernel) ?_
    refine mm_bipush (v := 116) d11_takeLaw_40 (by decide +kernel) ?_
    refine mm_bipush (v := 110) d11_takeLaw_42 (by decide +kernel) ?_
    obtain ⟨o5, hk5, h⟩ := mm_bd h
    refine mm_cSl (As := [.int 119, .int 105, .int 116, .int 110]) (ok11_code l hS hk5) lk_X11_211 rfl d11_takeLaw_44 (mm_room rfl rfl) rfl rfl ?_
    refine mm_bipush (v := 101) d11_takeLaw_47 (by decide +kernel) ?_
    obtain ⟨o6, hk6, h⟩ := mm_bd h
    refine mm_cSl (As := [.long o5, .int 101]) (ok11_longer l hS hk6) lk_X11_215 rfl d11_takeLaw_49 (mm_room rfl rfl) rfl rfl ?_
    refine mm_bipush (v := 115) d11_takeLaw_52 (by decide +kernel) ?_
    obtain ⟨o7, hk7, h⟩ := mm_bd h
    refine mm_cSl (As := [.long o6, .int 115]) (ok11_longer l hS hk7) lk_X11_215 rfl d11_takeLaw_54 (mm_room rfl rfl) rfl rfl ?_
    refine mm_bipush (v := 115) d11_takeLaw_57 (by decide +kernel) ?_
    obtain ⟨o8, hk8, h⟩ := mm_bd h
    refine mm_cSl (As := [.long o7, .int 115]) (ok11_longer l hS hk8) lk_X11_215 rfl d11_takeLaw_59 (mm_room rfl rfl) rfl rfl ?_
    refine mm_bipush (v := 101) d11_takeLaw_62 (by decide +kernel) ?_
    obtain ⟨o9, hk9, h⟩ := mm_bd h
    refine mm_cSl (As := [.long o8, .int 101]) (ok11_longer l hS hk9) lk_X11_215 rfl d11_takeLaw_64 (mm_room rfl rfl) rfl rfl ?_
    refine mm_bipush (v := 115) d11_takeLaw_67 (by decide +kernel) ?_
    obtain ⟨o10, hk10, h⟩ := mm_bd h
    refine mm_cSl (As := [.long o9, .int 115]) (ok11_longer l hS hk10) lk_X11_215 rfl d11_takeLaw_69 (mm_room rfl rfl) rfl rfl ?_
    refine mm_lcmp d11_takeLaw_72 ?_
    refine mm_if_ne (tgt := 80) d11_takeLaw_73 (by decide) (fun hc11 => ?_) (fun hc11 => ?_)
    · rw [if_neg hc11] at h
      refine mm_aload_n d11_takeLaw_80 rfl ?_
      refine mm_getJ fl_X11_169 d11_takeLaw_81 (mm_wtJ hS h0 rfl) ?_
      refine mm_bipush (v := 102) d11_takeLaw_84 (by decide +kernel) ?_
      refine mm_bipush (v := 97) d11_takeLaw_86 (by decide +kernel) ?_
      refine mm_bipush (v := 100) d11_takeLaw_88 (by decide +kernel) ?_
      refine mm_bipush (v := 101) d11_takeLaw_90 (by decide +kernel) ?_
      obtain ⟨o12, hk12, h⟩ := mm_bd h
      refine mm_cSl (As := [.int 102, .int 97, .int 100, .int 101]) (ok11_code l hS hk12) lk_X11_211 rfl d11_takeLaw_92 (mm_room rfl rfl) rfl rfl ?_
      refine mm_bipush (v := 115) d11_takeLaw_95 (by decide +kernel) ?_
      obtain ⟨o13, hk13, h⟩ := mm_bd h
      refine mm_cSl (As := [.long o12, .int 115]) (ok11_longer l hS hk13) lk_X11_215 rfl d11_takeLaw_97 (mm_room rfl rfl) rfl rfl ?_
      refine mm_lcmp d11_takeLaw_100 ?_
      refine mm_if_ne (tgt := 108) d11_takeLaw_101 (by decide) (fun hc14 => ?_) (fun hc14 => ?_)
      · rw [if_neg hc14] at h
        refine mm_iconst (v := (-1)) d11_takeLaw_108 (by decide +kernel) ?_
        refine mm_sub [(0, .ref v0)] ⟨rfl, trivial⟩ ?_
        exact ok11_takeLaw_109 l hS  h0 h
      · rw [if_pos hc14] at h
        refine mm_iconst (v := 2) d11_takeLaw_104 (by decide +kernel) ?_
        refine mm_goto (tgt := 109) d11_takeLaw_105 (by decide) ?_
        refine mm_sub [(0, .ref v0)] ⟨rfl, trivial⟩ ?_
        exact ok11_takeLaw_109 l hS  h0 h
    · rw [if_pos hc11] at h
      refine mm_iconst (v := 1) d11_takeLaw_76 (by decide +kernel) ?_
      refine mm_goto (tgt := 109) d11_takeLaw_77 (by decide) ?_
      refine mm_sub [(0, .ref v0)] ⟨rfl, trivial⟩ ?_
      exact ok11_takeLaw_109 l hS  h0 h
  · rw [if_pos hc4] at h
    refine mm_iconst (v := 0) d11_takeLaw_28 (by decide +kernel) ?_
    refine mm_goto (tgt := 109) d11_takeLaw_29 (by decide) ?_
    refine mm_sub [(0, .ref v0)] ⟨rfl, trivial⟩ ?_
    exact ok11_takeLaw_109 l hS  h0 h
set_option maxHeartbeats 4000000 in
set_option maxRecDepth 100000 in
theorem ok11_takeLikes (l : Launch) {S : mm_Sh} (hS : mm_WT S) {n : Nat}  {v0 : Nat} (h0 : mm_is S v0 11) {I : mm_I} {J : mm_J} {o : Int32 × mm_I × mm_J} (h : f11_takeLikes S n v0 I J = some o) : mm_C l M11_takeLikes S [.ref v0] I J (mm_Qi o.1 o.2.1 o.2.2) := by
  unfold f11_takeLikes at h
  refine mm_enter rfl (by decide +kernel) rfl ?_
  refine mm_aload_n d11_takeLikes_0 rfl ?_
  refine mm_iconst (v := 0) d11_takeLikes_1 (by decide +kernel) ?_
  refine mm_aload_n d11_takeLikes_2 rfl ?_
  refine mm_getI fl_X11_223 d11_takeLikes_3 (mm_wtI hS h0 rfl) ?_
  refine mm_iconst (v := 1) d11_takeLikes_6 (by decide +kernel) ?_
  refine mm_isub d11_takeLikes_7 ?_
  obtain ⟨o1, hk1, h⟩ := mm_bd h
  refine mm_cVi 11 (As := [.int 0, .int ((I v0 36) - 1)]) (ok11_takeNumber l hS h0 hk1) lk_X11_202 rfl d11_takeLikes_8 (mm_room rfl rfl) rfl h0 rfl rfl ?_
  refine mm_istore_n d11_takeLikes_11 rfl rfl ?_
  refine mm_iload_n d11_takeLikes_12 rfl ?_
  refine mm_if_le (tgt := 18) d11_takeLikes_13 (by decide) (fun hc2 => ?_) (fun hc2 => ?_)
  · rw [if_pos hc2] at h
    refine mm_bipush (v := 6) d11_takeLikes_18 (by decide +kernel) ?_
    refine mm_aload_n d11_takeLikes_20 rfl ?_
    refine mm_getI fl_X11_199 d11_takeLikes_21 (mm_wtI hS h0 rfl) ?_
    refine mm_imul d11_takeLikes_24 ?_
    refine mm_istore_n d11_takeLikes_25 rfl rfl ?_
    refine mm_aload_n d11_takeLikes_26 rfl ?_
    refine mm_iconst (v := 0) d11_takeLikes_27 (by decide +kernel) ?_
    refine mm_aload_n d11_takeLikes_28 rfl ?_
    refine mm_getI fl_X11_208 d11_takeLikes_29 (mm_wtI hS h0 rfl) ?_
    refine mm_iconst (v := 1) d11_takeLikes_32 (by decide +kernel) ?_
    refine mm_isub d11_takeLikes_33 ?_
    obtain ⟨o3, hk3, h⟩ := mm_bd h
    refine mm_cVi 11 (As := [.int 0, .int ((o1.2.1 v0 34) - 1)]) (ok11_takeNumber l hS h0 hk3) lk_X11_202 rfl d11_takeLikes_34 (mm_room rfl rfl) rfl h0 rfl rfl ?_
    refine mm_istore_n d11_takeLikes_37 rfl rfl ?_
    refine mm_iload_n d11_takeLikes_38 rfl ?_
    refine mm_if_le (tgt := 44) d11_takeLikes_39 (by decide) (fun hc4 => ?_) (fun hc4 => ?_)
    · rw [if_pos hc4] at h
      refine mm_iload_n d11_takeLikes_44 rfl ?_
      refine mm_aload_n d11_takeLikes_45 rfl ?_
      refine mm_getI fl_X11_199 d11_takeLikes_46 (mm_wtI hS h0 rfl) ?_
      refine mm_iadd d11_takeLikes_49 ?_
      refine mm_istore_n d11_takeLikes_50 rfl rfl ?_
      refine mm_aload_n d11_takeLikes_51 rfl ?_
      refine mm_getR fl_X11_90 d11_takeLikes_52 (mm_wtR hS 50 h0 rfl rfl) ?_
      refine mm_iload_n d11_takeLikes_55 rfl ?_
      obtain ⟨hb5, h⟩ := mm_gd h
      refine mm_iald d11_takeLikes_56 (mm_wtA hS 40 0 h0 rfl rfl) (mm_inb_ok hb5) ?_
      refine mm_if_lt (tgt := 70) d11_takeLikes_57 (by decide) (fun hc6 => ?_) (fun hc6 => ?_)
      · rw [if_pos hc6] at h
        refine mm_aload_n d11_takeLikes_70 rfl ?_
        refine mm_dup d11_takeLikes_71 rfl ?_
        refine mm_getI fl_X11_226 d11_takeLikes_72 (mm_wtI hS h0 rfl) ?_
        refine mm_iconst (v := 1) d11_takeLikes_75 (by decide +kernel) ?_
        refine mm_iadd d11_takeLikes_76 ?_
        refine mm_putI fp_X11_226 d11_takeLikes_77 (mm_wtI hS h0 rfl) ?_
        refine mm_aload_n d11_takeLikes_80 rfl ?_
        refine mm_aload_n d11_takeLikes_81 rfl ?_
        refine mm_getR fl_X11_90 d11_takeLikes_82 (mm_wtR hS 50 h0 rfl rfl) ?_
        refine mm_iload_n d11_takeLikes_85 rfl ?_
        refine mm_iconst (v := 0) d11_takeLikes_86 (by decide +kernel) ?_
        refine mm_bipush (v := 99) d11_takeLikes_87 (by decide +kernel) ?_
        obtain ⟨o7, hk7, h⟩ := mm_bd h
        refine mm_cVi 11 (As := [.ref (mm_rf S v0 40), .int ((6 * (o1.2.1 v0 32)) + (o3.2.1 v0 32)), .int 0, .int 99]) (ok11_into l hS h0 (mm_wtA hS 40 0 h0 rfl rfl) hk7) lk_X11_219 rfl d11_takeLikes_89 (mm_room rfl rfl) rfl h0 rfl rfl ?_
        have h := Option.some.inj h
        subst h
        exact mm_iret rfl d11_takeLikes_92 ⟨rfl, rfl, rfl⟩
      · rw [if_neg hc6] at h
        refine mm_aload_n d11_takeLikes_60 rfl ?_
        refine mm_iconst (v := 4) d11_takeLikes_61 (by decide +kernel) ?_
        refine mm_aload_n d11_takeLikes_62 rfl ?_
        refine mm_getI fl_X11_196 d11_takeLikes_63 (mm_wtI hS h0 rfl) ?_
        obtain ⟨o8, hk8, h⟩ := mm_bd h
        refine mm_cVi 11 (As := [.int 4, .int (o3.2.1 v0 33)]) (ok11_fails l hS h0 hk8) lk_X11_192 rfl d11_takeLikes_66 (mm_room rfl rfl) rfl h0 rfl rfl ?_
        have h := Option.some.inj h
        subst h
        exact mm_iret rfl d11_takeLikes_69 ⟨rfl, rfl, rfl⟩
    · rw [if_neg hc4] at h
      refine mm_iload_n d11_takeLikes_42 rfl ?_
      have h := Option.some.inj h
      subst h
      exact mm_iret rfl d11_takeLikes_43 ⟨rfl, rfl, rfl⟩
  · rw [if_neg hc2] at h
    refine mm_iload_n d11_takeLikes_16 rfl ?_
    have h := Option.some.inj h
    subst h
    exact mm_iret rfl d11_takeLikes_17 ⟨rfl, rfl, rfl⟩
set_option maxHeartbeats 4000000 in
set_option maxRecDepth 100000 in
theorem ok11_takePerson_161 (l : Launch) {S : mm_Sh} (hS : mm_WT S) {n : Nat}  {rec66 : Nat → Int32 → Int32 → mm_I → mm_J → Option (Int32 × mm_I × mm_J)} (hrec66 : ∀ {v0 : Nat} {v1 : Int32} {v2 : Int32} (_ : mm_is S v0 11) {I : mm_I} {J : mm_J} {o : Int32 × mm_I × mm_J}, rec66 v0 v1 v2 I J = some o → mm_W l M11_takePerson (mm_rm (mm_rk M11_takePerson)) 0 0 S (mm_end S (mm_Qi o.1 o.2.1 o.2.2)) 66 [(0, .ref v0), (1, .int v1), (2, .int v2)] [] I J) {v0 : Nat} {v1 : Int32} {s0 : Int32} (h0 : mm_is S v0 11) {I : mm_I} {J : mm_J} {o : Int32 × mm_I × mm_J} (h : f11_takePerson_161 S n rec66 v0 v1 s0 I J = some o) : mm_W l M11_takePerson (mm_rm (mm_rk M11_takePerson)) 0 0 S (mm_end S (mm_Qi o.1 o.2.1 o.2.2)) 161 [(0, .ref v0), (1, .int v1)] [.int s0] I J := by
  unfold f11_takePerson_161 at h
  refine mm_istore_n d11_takePerson_161 rfl rfl ?_
  refine mm_goto (tgt := 66) d11_takePerson_162 (by decide) ?_
  refine mm_sub [(0, .ref v0), (1, .int v1), (2, .int s0)] ⟨rfl, rfl, rfl, trivial⟩ ?_
  exact hrec66 h0 h
set_option maxHeartbeats 4000000 in
set_option maxRecDepth 100000 in
theorem ok11_takePerson_135 (l : Launch) {S : mm_Sh} (hS : mm_WT S) {n : Nat}  {rec66 : Nat → Int32 → Int32 → mm_I → mm_J → Option (Int32 × mm_I × mm_J)} (hrec66 : ∀ {v0 : Nat} {v1 : Int32} {v2 : Int32} (_ : mm_is S v0 11) {I : mm_I} {J : mm_J} {o : Int32 × mm_I × mm_J}, rec66 v0 v1 v2 I J = some o → mm_W l M11_takePerson (mm_rm (mm_rk M11_takePerson)) 0 0 S (mm_end S (mm_Qi o.1 o.2.1 o.2.2)) 66 [(0, .ref v0), (1, .int v1), (2, .int v2)] [] I J) {v0 : Nat} {v1 : Int32} {v3 : Int32} {s0 : Int32} (h0 : mm_is S v0 11) {I : mm_I} {J : mm_J} {o : Int32 × mm_I × mm_J} (h : f11_takePerson_135 S n rec66 v0 v1 v3 s0 I J = some o) : mm_W l M11_takePerson (mm_rm (mm_rk M11_takePerson)) 0 0 S (mm_end S (mm_Qi o.1 o.2.1 o.2.2)) 135 [(0, .ref v0), (1, .int v1), (3, .int v3)] [.int s0] I J := by
  unfold f11_takePerson_135 at h
  refine mm_istore_n d11_takePerson_135 rfl rfl ?_
  refine mm_iload_n d11_takePerson_136 rfl ?_
  refine mm_if_le (tgt := 144) d11_takePerson_137 (by decide) (fun hc1 => ?_) (fun hc1 => ?_)
  · rw [if_pos hc1] at h
    refine mm_aload_n d11_takePerson_144 rfl ?_
    refine mm_aload_n d11_takePerson_145 rfl ?_
    refine mm_getR fl_X11_87 d11_takePerson_146 (mm_wtR hS 50 h0 rfl rfl) ?_
    refine mm_bipush (v := 6) d11_takePerson_149 (by decide +kernel) ?_
    refine mm_iload_n d11_takePerson_151 rfl ?_
    refine mm_imul d11_takePerson_152 ?_
    refine mm_iload_n d11_takePerson_153 rfl ?_
    refine mm_iadd d11_takePerson_154 ?_
    refine mm_iconst (v := 1) d11_takePerson_155 (by decide +kernel) ?_
    refine mm_bipush (v := 100) d11_takePerson_156 (by decide +kernel) ?_
    obtain ⟨o2, hk2, h⟩ := mm_bd h
    refine mm_cVi 11 (As := [.ref (mm_rf S v0 38), .int ((6 * v1) + v3), .int 1, .int 100]) (ok11_into l hS h0 (mm_wtA hS 38 0 h0 rfl rfl) hk2) lk_X11_219 rfl d11_takePerson_158 (mm_room rfl rfl) rfl h0 rfl rfl ?_
    refine mm_sub [(0, .ref v0), (1, .int v1)] ⟨rfl, rfl, trivial⟩ ?_
    exact ok11_takePerson_161 l hS hrec66 h0 h
  · rw [if_neg hc1] at h
    refine mm_iload_n d11_takePerson_140 rfl ?_
    refine mm_goto (tgt := 161) d11_takePerson_141 (by decide) ?_
    refine mm_sub [(0, .ref v0), (1, .int v1)] ⟨rfl, rfl, trivial⟩ ?_
    exact ok11_takePerson_161 l hS hrec66 h0 h
set_option maxHeartbeats 4000000 in
set_option maxRecDepth 100000 in
theorem ok11_takePerson_134 (l : Launch) {S : mm_Sh} (hS : mm_WT S) {n : Nat}  {rec66 : Nat → Int32 → Int32 → mm_I → mm_J → Option (Int32 × mm_I × mm_J)} (hrec66 : ∀ {v0 : Nat} {v1 : Int32} {v2 : Int32} (_ : mm_is S v0 11) {I : mm_I} {J : mm_J} {o : Int32 × mm_I × mm_J}, rec66 v0 v1 v2 I J = some o → mm_W l M11_takePerson (mm_rm (mm_rk M11_takePerson)) 0 0 S (mm_end S (mm_Qi o.1 o.2.1 o.2.2)) 66 [(0, .ref v0), (1, .int v1), (2, .int v2)] [] I J) {v0 : Nat} {v1 : Int32} {v2 : Int32} {v3 : Int32} (h0 : mm_is S v0 11) {I : mm_I} {J : mm_J} {o : Int32 × mm_I × mm_J} (h : f11_takePerson_134 S n rec66 v0 v1 v2 v3 I J = some o) : mm_W l M11_takePerson (mm_rm (mm_rk M11_takePerson)) 0 0 S (mm_end S (mm_Qi o.1 o.2.1 o.2.2)) 134 [(0, .ref v0), (1, .int v1), (2, .int v2), (3, .int v3)] [] I J := by
  unfold f11_takePerson_134 at h
  refine mm_iload_n d11_takePerson_134 rfl ?_
  refine mm_sub [(0, .ref v0), (1, .int v1), (3, .int v3)] ⟨rfl, rfl, rfl, trivial⟩ ?_
  exact ok11_takePerson_135 l hS hrec66 h0 h
set_option maxHeartbeats 4000000 in
set_option maxRecDepth 100000 in
theorem ok11_takePerson_165 (l : Launch) {S : mm_Sh} (hS : mm_WT S) {n : Nat}  {v2 : Int32}  {I : mm_I} {J : mm_J} {o : Int32 × mm_I × mm_J} (h : f11_takePerson_165 S n v2 I J = some o) : mm_W l M11_takePerson (mm_rm (mm_rk M11_takePerson)) 0 0 S (mm_end S (mm_Qi o.1 o.2.1 o.2.2)) 165 [(2, .int v2)] [] I J := by
  unfold f11_takePerson_165 at h
  refine mm_iload_n d11_takePerson_165 rfl ?_
  have h := Option.some.inj h
  subst h
  exact mm_iret rfl d11_takePerson_166 ⟨rfl, rfl, rfl⟩
set_option maxHeartbeats 4000000 in
set_option maxRecDepth 100000 in
theorem ok11_takePerson_66_b (l : Launch) {S : mm_Sh} (hS : mm_WT S) {n : Nat}  {rec66 : Nat → Int32 → Int32 → mm_I → mm_J → Option (Int32 × mm_I × mm_J)} (hrec66 : ∀ {v0 : Nat} {v1 : Int32} {v2 : Int32} (_ : mm_is S v0 11) {I : mm_I} {J : mm_J} {o : Int32 × mm_I × mm_J}, rec66 v0 v1 v2 I J = some o → mm_W l M11_takePerson (mm_rm (mm_rk M11_takePerson)) 0 0 S (mm_end S (mm_Qi o.1 o.2.1 o.2.2)) 66 [(0, .ref v0), (1, .int v1), (2, .int v2)] [] I J) {v0 : Nat} {v1 : Int32} {v2 : Int32} (h0 : mm_is S v0 11) {I : mm_I} {J : mm_J} {o : Int32 × mm_I × mm_J} (h : f11_takePerson_66_b S n rec66 v0 v1 v2 I J = some o) : mm_W l M11_takePerson (mm_rm (mm_rk M11_takePerson)) 0 0 S (mm_end S (mm_Qi o.1 o.2.1 o.2.2)) 66 [(0, .ref v0), (1, .int v1), (2, .int v2)] [] I J := by
  unfold f11_takePerson_66_b at h
  refine mm_iload_n d11_takePerson_66 rfl ?_
  refine mm_if_ne (tgt := 165) d11_takePerson_67 (by decide) (fun hc1 => ?_) (fun hc1 => ?_)
  · rw [if_neg hc1] at h
    refine mm_sub [(2, .int v2)] ⟨rfl, trivial⟩ ?_
    exact ok11_takePerson_165 l hS   h
  · rw [if_pos hc1] at h
    refine mm_aload_n d11_takePerson_70 rfl ?_
    obtain ⟨o2, hk2, h⟩ := mm_bd h
    refine mm_cVi 11 (As := []) (ok11_here l hS h0 hk2) lk_X11_166 rfl d11_takePerson_71 (mm_room rfl rfl) rfl h0 rfl rfl ?_
    refine mm_i2l d11_takePerson_74 ?_
    refine mm_ldc2 (v := 48) d11_takePerson_75 kX11_188 ?_
    refine mm_ldc2 (v := 57) d11_takePerson_78 kX11_190 ?_
    obtain ⟨o3, hk3, h⟩ := mm_bd h
    refine mm_cSi (As := [.long o2.1.toInt64, .long 48, .long 57]) (ok11_in l hS hk3) lk_X11_136 rfl d11_takePerson_81 (mm_room rfl rfl) rfl rfl ?_
    refine mm_if_eq (tgt := 165) d11_takePerson_84 (by decide) (fun hc4 => ?_) (fun hc4 => ?_)
    · rw [if_pos hc4] at h
      refine mm_sub [(2, .int v2)] ⟨rfl, trivial⟩ ?_
      exact ok11_takePerson_165 l hS   h
    · rw [if_neg hc4] at h
      refine mm_aload_n d11_takePerson_87 rfl ?_
      refine mm_iconst (v := 0) d11_takePerson_88 (by decide +kernel) ?_
      refine mm_aload_n d11_takePerson_89 rfl ?_
      refine mm_getI fl_X11_208 d11_takePerson_90 (mm_wtI hS h0 rfl) ?_
      refine mm_iconst (v := 1) d11_takePerson_93 (by decide +kernel) ?_
      refine mm_isub d11_takePerson_94 ?_
      obtain ⟨o5, hk5, h⟩ := mm_bd h
      refine mm_cVi 11 (As := [.int 0, .int ((o2.2.1 v0 34) - 1)]) (ok11_takeNumber l hS h0 hk5) lk_X11_202 rfl d11_takePerson_95 (mm_room rfl rfl) rfl h0 rfl rfl ?_
      refine mm_istore_n d11_takePerson_98 rfl rfl ?_
      refine mm_aload_n d11_takePerson_99 rfl ?_
      refine mm_getI fl_X11_199 d11_takePerson_100 (mm_wtI hS h0 rfl) ?_
      refine mm_istore_n d11_takePerson_103 rfl rfl ?_
      refine mm_iload_n d11_takePerson_104 rfl ?_
      refine mm_if_ne (tgt := 134) d11_takePerson_105 (by decide) (fun hc6 => ?_) (fun hc6 => ?_)
      · rw [if_neg hc6] at h
        refine mm_sub [(0, .ref v0), (1, .int v1), (2, .int o5.1), (3, .int (o5.2.1 v0 32))] ⟨rfl, rfl, rfl, rfl, trivial⟩ ?_
        exact ok11_takePerson_134 l hS hrec66 h0 h
      · rw [if_pos hc6] at h
        refine mm_aload_n d11_takePerson_108 rfl ?_
        refine mm_getR fl_X11_87 d11_takePerson_109 (mm_wtR hS 50 h0 rfl rfl) ?_
        refine mm_bipush (v := 6) d11_takePerson_112 (by decide +kernel) ?_
        refine mm_iload_n d11_takePerson_114 rfl ?_
        refine mm_imul d11_takePerson_115 ?_
        refine mm_iload_n d11_takePerson_116 rfl ?_
        refine mm_iadd d11_takePerson_117 ?_
        obtain ⟨hb7, h⟩ := mm_gd h
        refine mm_iald d11_takePerson_118 (mm_wtA hS 38 0 h0 rfl rfl) (mm_inb_ok hb7) ?_
        refine mm_if_le (tgt := 134) d11_takePerson_119 (by decide) (fun hc8 => ?_) (fun hc8 => ?_)
        · rw [if_pos hc8] at h
          refine mm_sub [(0, .ref v0), (1, .int v1), (2, .int o5.1), (3, .int (o5.2.1 v0 32))] ⟨rfl, rfl, rfl, rfl, trivial⟩ ?_
          exact ok11_takePerson_134 l hS hrec66 h0 h
        · rw [if_neg hc8] at h
          refine mm_aload_n d11_takePerson_122 rfl ?_
          refine mm_iconst (v := 4) d11_takePerson_123 (by decide +kernel) ?_
          refine mm_aload_n d11_takePerson_124 rfl ?_
          refine mm_getI fl_X11_196 d11_takePerson_125 (mm_wtI hS h0 rfl) ?_
          obtain ⟨o9, hk9, h⟩ := mm_bd h
          refine mm_cVi 11 (As := [.int 4, .int (o5.2.1 v0 33)]) (ok11_fails l hS h0 hk9) lk_X11_192 rfl d11_takePerson_128 (mm_room rfl rfl) rfl h0 rfl rfl ?_
          refine mm_goto (tgt := 135) d11_takePerson_131 (by decide) ?_
          refine mm_sub [(0, .ref v0), (1, .int v1), (3, .int (o5.2.1 v0 32))] ⟨rfl, rfl, rfl, trivial⟩ ?_
          exact ok11_takePerson_135 l hS hrec66 h0 h
set_option maxHeartbeats 4000000 in
set_option maxRecDepth 100000 in
theorem ok11_takePerson_66 (l : Launch) {S : mm_Sh} (hS : mm_WT S) {n : Nat}  : ∀ (k : Nat) {v0 : Nat} {v1 : Int32} {v2 : Int32} (h0 : mm_is S v0 11) {I : mm_I} {J : mm_J} {o : Int32 × mm_I × mm_J}, f11_takePerson_66 S n k v0 v1 v2 I J = some o → mm_W l M11_takePerson (mm_rm (mm_rk M11_takePerson)) 0 0 S (mm_end S (mm_Qi o.1 o.2.1 o.2.2)) 66 [(0, .ref v0), (1, .int v1), (2, .int v2)] [] I J := by
  intro k
  induction k with
  | zero =>
    intros
    rename_i h
    cases h
  | succ k ih =>
    intro v0 v1 v2 h0 I J o h
    exact ok11_takePerson_66_b l hS (fun {v0 v1 v2} h0 {I J o} h => ih h0 h) h0 h
set_option maxHeartbeats 4000000 in
set_option maxRecDepth 100000 in
theorem ok11_takePerson_17_b (l : Launch) {S : mm_Sh} (hS : mm_WT S) {n : Nat}  {rec17 : Nat → Int32 → Int32 → mm_I → mm_J → Option (Int32 × mm_I × mm_J)} (hrec17 : ∀ {v0 : Nat} {v1 : Int32} {v2 : Int32} (_ : mm_is S v0 11) {I : mm_I} {J : mm_J} {o : Int32 × mm_I × mm_J}, rec17 v0 v1 v2 I J = some o → mm_W l M11_takePerson (mm_rm (mm_rk M11_takePerson)) 0 0 S (mm_end S (mm_Qi o.1 o.2.1 o.2.2)) 17 [(0, .ref v0), (1, .int v1), (2, .int v2)] [] I J) {v0 : Nat} {v1 : Int32} {v2 : Int32} (h0 : mm_is S v0 11) {I : mm_I} {J : mm_J} {o : Int32 × mm_I × mm_J} (h : f11_takePerson_17_b S n rec17 v0 v1 v2 I J = some o) : mm_W l M11_takePerson (mm_rm (mm_rk M11_takePerson)) 0 0 S (mm_end S (mm_Qi o.1 o.2.1 o.2.2)) 17 [(0, .ref v0), (1, .int v1), (2, .int v2)] [] I J := by
  unfold f11_takePerson_17_b at h
  refine mm_iload_n d11_takePerson_17 rfl ?_
  refine mm_bipush (v := 6) d11_takePerson_18 (by decide +kernel) ?_
  refine mm_icmp_ge (tgt := 53) d11_takePerson_20 (by decide) (fun hc1 => ?_) (fun hc1 => ?_)
  · rw [if_pos hc1] at h
    refine mm_aload_n d11_takePerson_53 rfl ?_
    refine mm_aload_n d11_takePerson_54 rfl ?_
    refine mm_getR fl_X11_84 d11_takePerson_55 (mm_wtR hS 50 h0 rfl rfl) ?_
    refine mm_iload_n d11_takePerson_58 rfl ?_
    refine mm_iconst (v := 0) d11_takePerson_59 (by decide +kernel) ?_
    refine mm_bipush (v := 99) d11_takePerson_60 (by decide +kernel) ?_
    obtain ⟨o2, hk2, h⟩ := mm_bd h
    refine mm_cVi 11 (As := [.ref (mm_rf S v0 37), .int v1, .int 0, .int 99]) (ok11_into l hS h0 (mm_wtA hS 37 0 h0 rfl rfl) hk2) lk_X11_219 rfl d11_takePerson_62 (mm_room rfl rfl) rfl h0 rfl rfl ?_
    refine mm_istore_n d11_takePerson_65 rfl rfl ?_
    refine mm_sub [(0, .ref v0), (1, .int v1), (2, .int o2.1)] ⟨rfl, rfl, rfl, trivial⟩ ?_
    exact ok11_takePerson_66 l hS  n h0 h
  · rw [if_neg hc1] at h
    refine mm_aload_n d11_takePerson_23 rfl ?_
    refine mm_getR fl_X11_87 d11_takePerson_24 (mm_wtR hS 50 h0 rfl rfl) ?_
    refine mm_bipush (v := 6) d11_takePerson_27 (by decide +kernel) ?_
    refine mm_iload_n d11_takePerson_29 rfl ?_
    refine mm_imul d11_takePerson_30 ?_
    refine mm_iload_n d11_takePerson_31 rfl ?_
    refine mm_iadd d11_takePerson_32 ?_
    refine mm_iconst (v := 0) d11_takePerson_33 (by decide +kernel) ?_
    obtain ⟨hb3, h⟩ := mm_gd h
    refine mm_iast d11_takePerson_34 (mm_wtA hS 38 0 h0 rfl rfl) (mm_inb_ok hb3) ?_
    refine mm_aload_n d11_takePerson_35 rfl ?_
    refine mm_getR fl_X11_90 d11_takePerson_36 (mm_wtR hS 50 h0 rfl rfl) ?_
    refine mm_bipush (v := 6) d11_takePerson_39 (by decide +kernel) ?_
    refine mm_iload_n d11_takePerson_41 rfl ?_
    refine mm_imul d11_takePerson_42 ?_
    refine mm_iload_n d11_takePerson_43 rfl ?_
    refine mm_iadd d11_takePerson_44 ?_
    refine mm_iconst (v := (-1)) d11_takePerson_45 (by decide +kernel) ?_
    obtain ⟨hb4, h⟩ := mm_gd h
    refine mm_iast d11_takePerson_46 (mm_wtA hS 40 0 h0 rfl rfl) (mm_inb_ok hb4) ?_
    refine mm_iinc (v := v2 + 1) d11_takePerson_47 rfl rfl rfl rfl ?_
    refine mm_goto (tgt := 17) d11_takePerson_50 (by decide) ?_
    refine mm_sub [(0, .ref v0), (1, .int v1), (2, .int (v2 + 1))] ⟨rfl, rfl, rfl, trivial⟩ ?_
    exact hrec17 h0 h
set_option maxHeartbeats 4000000 in
set_option maxRecDepth 100000 in
theorem ok11_takePerson_17 (l : Launch) {S : mm_Sh} (hS : mm_WT S) {n : Nat}  : ∀ (k : Nat) {v0 : Nat} {v1 : Int32} {v2 : Int32} (h0 : mm_is S v0 11) {I : mm_I} {J : mm_J} {o : Int32 × mm_I × mm_J}, f11_takePerson_17 S n k v0 v1 v2 I J = some o → mm_W l M11_takePerson (mm_rm (mm_rk M11_takePerson)) 0 0 S (mm_end S (mm_Qi o.1 o.2.1 o.2.2)) 17 [(0, .ref v0), (1, .int v1), (2, .int v2)] [] I J := by
  intro k
  induction k with
  | zero =>
    intros
    rename_i h
    cases h
  | succ k ih =>
    intro v0 v1 v2 h0 I J o h
    exact ok11_takePerson_17_b l hS (fun {v0 v1 v2} h0 {I J o} h => ih h0 h) h0 h
set_option maxHeartbeats 4000000 in
set_option maxRecDepth 100000 in
theorem ok11_takePerson (l : Launch) {S : mm_Sh} (hS : mm_WT S) {n : Nat}  {v0 : Nat} (h0 : mm_is S v0 11) {I : mm_I} {J : mm_J} {o : Int32 × mm_I × mm_J} (h : f11_takePerson S n v0 I J = some o) : mm_C l M11_takePerson S [.ref v0] I J (mm_Qi o.1 o.2.1 o.2.2) := by
  unfold f11_takePerson at h
  refine mm_enter rfl (by decide +kernel) rfl ?_
  refine mm_aload_n d11_takePerson_0 rfl ?_
  refine mm_getI fl_X11_223 d11_takePerson_1 (mm_wtI hS h0 rfl) ?_
  refine mm_istore_n d11_takePerson_4 rfl rfl ?_
  refine mm_aload_n d11_takePerson_5 rfl ?_
  refine mm_dup d11_takePerson_6 rfl ?_
  refine mm_getI fl_X11_223 d11_takePerson_7 (mm_wtI hS h0 rfl) ?_
  refine mm_iconst (v := 1) d11_takePerson_10 (by decide +kernel) ?_
  refine mm_iadd d11_takePerson_11 ?_
  refine mm_putI fp_X11_223 d11_takePerson_12 (mm_wtI hS h0 rfl) ?_
  refine mm_iconst (v := 0) d11_takePerson_15 (by decide +kernel) ?_
  refine mm_istore_n d11_takePerson_16 rfl rfl ?_
  refine mm_sub [(0, .ref v0), (1, .int (I v0 36)), (2, .int 0)] ⟨rfl, rfl, rfl, trivial⟩ ?_
  exact ok11_takePerson_17 l hS  n h0 h
set_option maxHeartbeats 4000000 in
set_option maxRecDepth 100000 in
theorem ok11_takeTrade_272 (l : Launch) {S : mm_Sh} (hS : mm_WT S) {n : Nat}  {v0 : Nat} {v3 : Int32} (h0 : mm_is S v0 11) {I : mm_I} {J : mm_J} {o : Int32 × mm_I × mm_J} (h : f11_takeTrade_272 S n v0 v3 I J = some o) : mm_W l M11_takeTrade (mm_rm (mm_rk M11_takeTrade)) 0 0 S (mm_end S (mm_Qi o.1 o.2.1 o.2.2)) 272 [(0, .ref v0), (3, .int v3)] [] I J := by
  unfold f11_takeTrade_272 at h
  refine mm_aload_n d11_takeTrade_272 rfl ?_
  refine mm_dup d11_takeTrade_273 rfl ?_
  refine mm_getI fl_X11_208 d11_takeTrade_274 (mm_wtI hS h0 rfl) ?_
  refine mm_iconst (v := 1) d11_takeTrade_277 (by decide +kernel) ?_
  refine mm_iadd d11_takeTrade_278 ?_
  refine mm_putI fp_X11_208 d11_takeTrade_279 (mm_wtI hS h0 rfl) ?_
  refine mm_iload_n d11_takeTrade_282 rfl ?_
  have h := Option.some.inj h
  subst h
  exact mm_iret rfl d11_takeTrade_283 ⟨rfl, rfl, rfl⟩
set_option maxHeartbeats 4000000 in
set_option maxRecDepth 100000 in
theorem ok11_takeTrade_210 (l : Launch) {S : mm_Sh} (hS : mm_WT S) {n : Nat}  {v0 : Nat} {v1 : Int32} {s0 : Int32} (h0 : mm_is S v0 11) {I : mm_I} {J : mm_J} {o : Int32 × mm_I × mm_J} (h : f11_takeTrade_210 S n v0 v1 s0 I J = some o) : mm_W l M11_takeTrade (mm_rm (mm_rk M11_takeTrade)) 0 0 S (mm_end S (mm_Qi o.1 o.2.1 o.2.2)) 210 [(0, .ref v0), (1, .int v1)] [.int s0] I J := by
  unfold f11_takeTrade_210 at h
  refine mm_istore_n d11_takeTrade_210 rfl rfl ?_
  refine mm_iload_n d11_takeTrade_211 rfl ?_
  refine mm_if_le (tgt := 217) d11_takeTrade_212 (by decide) (fun hc1 => ?_) (fun hc1 => ?_)
  · rw [if_pos hc1] at h
    refine mm_aload_n d11_takeTrade_217 rfl ?_
    obtain ⟨o2, hk2, h⟩ := mm_bd h
    refine mm_cVv 11 (As := []) (ok11_readWord l hS h0 hk2) lk_X11_205 rfl d11_takeTrade_218 (mm_room rfl rfl) rfl h0 rfl rfl ?_
    refine mm_aload_n d11_takeTrade_221 rfl ?_
    refine mm_getJ fl_X11_169 d11_takeTrade_222 (mm_wtJ hS h0 rfl) ?_
    refine mm_bipush (v := 110) d11_takeTrade_225 (by decide +kernel) ?_
    refine mm_bipush (v := 101) d11_takeTrade_227 (by decide +kernel) ?_
    refine mm_bipush (v := 101) d11_takeTrade_229 (by decide +kernel) ?_
    refine mm_bipush (v := 100) d11_takeTrade_231 (by decide +kernel) ?_
    obtain ⟨o3, hk3, h⟩ := mm_bd h
    refine mm_cSl (As := [.int 110, .int 101, .int 101, .int 100]) (ok11_code l hS hk3) lk_X11_211 rfl d11_takeTrade_233 (mm_room rfl rfl) rfl rfl ?_
    refine mm_bipush (v := 115) d11_takeTrade_236 (by decide +kernel) ?_
    obtain ⟨o4, hk4, h⟩ := mm_bd h
    refine mm_cSl (As := [.long o3, .int 115]) (ok11_longer l hS hk4) lk_X11_215 rfl d11_takeTrade_238 (mm_room rfl rfl) rfl rfl ?_
    refine mm_lcmp d11_takeTrade_241 ?_
    refine mm_if_ne (tgt := 272) d11_takeTrade_242 (by decide) (fun hc5 => ?_) (fun hc5 => ?_)
    · rw [if_neg hc5] at h
      refine mm_sub [(0, .ref v0), (3, .int s0)] ⟨rfl, rfl, trivial⟩ ?_
      exact ok11_takeTrade_272 l hS  h0 h
    · rw [if_pos hc5] at h
      refine mm_aload_n d11_takeTrade_245 rfl ?_
      refine mm_aload_n d11_takeTrade_246 rfl ?_
      refine mm_getI fl_X11_173 d11_takeTrade_247 (mm_wtI hS h0 rfl) ?_
      refine mm_putI fp_X11_163 d11_takeTrade_250 (mm_wtI hS h0 rfl) ?_
      refine mm_aload_n d11_takeTrade_253 rfl ?_
      refine mm_aload_n d11_takeTrade_254 rfl ?_
      refine mm_getR fl_X11_81 d11_takeTrade_255 (mm_wtR hS 50 h0 rfl rfl) ?_
      refine mm_iload_n d11_takeTrade_258 rfl ?_
      refine mm_iconst (v := 3) d11_takeTrade_259 (by decide +kernel) ?_
      refine mm_iadd d11_takeTrade_260 ?_
      refine mm_iconst (v := 0) d11_takeTrade_261 (by decide +kernel) ?_
      refine mm_aload_n d11_takeTrade_262 rfl ?_
      refine mm_getI fl_X11_208 d11_takeTrade_263 (mm_wtI hS h0 rfl) ?_
      refine mm_iconst (v := 1) d11_takeTrade_266 (by decide +kernel) ?_
      refine mm_isub d11_takeTrade_267 ?_
      obtain ⟨o6, hk6, h⟩ := mm_bd h
      refine mm_cVi 11 (As := [.ref (mm_rf S v0 35), .int (v1 + 3), .int 0, .int (((mm_up o2.1 v0 29 (o2.1 v0 31)) v0 34) - 1)]) (ok11_into l hS h0 (mm_wtA hS 35 0 h0 rfl rfl) hk6) lk_X11_219 rfl d11_takeTrade_268 (mm_room rfl rfl) rfl h0 rfl rfl ?_
      refine mm_istore_n d11_takeTrade_271 rfl rfl ?_
      refine mm_sub [(0, .ref v0), (3, .int o6.1)] ⟨rfl, rfl, trivial⟩ ?_
      exact ok11_takeTrade_272 l hS  h0 h
  · rw [if_neg hc1] at h
    refine mm_iload_n d11_takeTrade_215 rfl ?_
    have h := Option.some.inj h
    subst h
    exact mm_iret rfl d11_takeTrade_216 ⟨rfl, rfl, rfl⟩
set_option maxHeartbeats 4000000 in
set_option maxRecDepth 100000 in
theorem ok11_takeTrade_134 (l : Launch) {S : mm_Sh} (hS : mm_WT S) {n : Nat}  {v0 : Nat} {v1 : Int32} {s0 : Int32} (h0 : mm_is S v0 11) {I : mm_I} {J : mm_J} {o : Int32 × mm_I × mm_J} (h : f11_takeTrade_134 S n v0 v1 s0 I J = some o) : mm_W l M11_takeTrade (mm_rm (mm_rk M11_takeTrade)) 0 0 S (mm_end S (mm_Qi o.1 o.2.1 o.2.2)) 134 [(0, .ref v0), (1, .int v1)] [.int s0] I J := by
  unfold f11_takeTrade_134 at h
  refine mm_istore_n d11_takeTrade_134 rfl rfl ?_
  refine mm_iload_n d11_takeTrade_135 rfl ?_
  refine mm_if_ge (tgt := 149) d11_takeTrade_136 (by decide) (fun hc1 => ?_) (fun hc1 => ?_)
  · rw [if_pos hc1] at h
    refine mm_aload_n d11_takeTrade_149 rfl ?_
    refine mm_aload_n d11_takeTrade_150 rfl ?_
    refine mm_getI fl_X11_173 d11_takeTrade_151 (mm_wtI hS h0 rfl) ?_
    refine mm_putI fp_X11_163 d11_takeTrade_154 (mm_wtI hS h0 rfl) ?_
    refine mm_aload_n d11_takeTrade_157 rfl ?_
    refine mm_getR fl_X11_81 d11_takeTrade_158 (mm_wtR hS 50 h0 rfl rfl) ?_
    refine mm_iload_n d11_takeTrade_161 rfl ?_
    refine mm_iload_n d11_takeTrade_162 rfl ?_
    obtain ⟨hb2, h⟩ := mm_gd h
    refine mm_iast d11_takeTrade_163 (mm_wtA hS 35 0 h0 rfl rfl) (mm_inb_ok hb2) ?_
    refine mm_aload_n d11_takeTrade_164 rfl ?_
    refine mm_getR fl_X11_81 d11_takeTrade_165 (mm_wtR hS 50 h0 rfl rfl) ?_
    refine mm_iload_n d11_takeTrade_168 rfl ?_
    refine mm_iconst (v := 3) d11_takeTrade_169 (by decide +kernel) ?_
    refine mm_iadd d11_takeTrade_170 ?_
    refine mm_iconst (v := (-1)) d11_takeTrade_171 (by decide +kernel) ?_
    obtain ⟨hb3, h⟩ := mm_gd h
    refine mm_iast d11_takeTrade_172 (mm_wtA hS 35 0 h0 rfl rfl) (mm_inb_ok hb3) ?_
    refine mm_aload_n d11_takeTrade_173 rfl ?_
    refine mm_aload_n d11_takeTrade_174 rfl ?_
    refine mm_getR fl_X11_81 d11_takeTrade_175 (mm_wtR hS 50 h0 rfl rfl) ?_
    refine mm_iload_n d11_takeTrade_178 rfl ?_
    refine mm_iconst (v := 1) d11_takeTrade_179 (by decide +kernel) ?_
    refine mm_iadd d11_takeTrade_180 ?_
    refine mm_iconst (v := 1) d11_takeTrade_181 (by decide +kernel) ?_
    refine mm_bipush (v := 9) d11_takeTrade_182 (by decide +kernel) ?_
    obtain ⟨o4, hk4, h⟩ := mm_bd h
    refine mm_cVi 11 (As := [.ref (mm_rf S v0 35), .int (v1 + 1), .int 1, .int 9]) (ok11_into l hS h0 (mm_wtA hS 35 0 h0 rfl rfl) hk4) lk_X11_219 rfl d11_takeTrade_184 (mm_room rfl rfl) rfl h0 rfl rfl ?_
    refine mm_istore_n d11_takeTrade_187 rfl rfl ?_
    refine mm_iload_n d11_takeTrade_188 rfl ?_
    refine mm_if_le (tgt := 196) d11_takeTrade_189 (by decide) (fun hc5 => ?_) (fun hc5 => ?_)
    · rw [if_pos hc5] at h
      refine mm_aload_n d11_takeTrade_196 rfl ?_
      refine mm_aload_n d11_takeTrade_197 rfl ?_
      refine mm_getR fl_X11_81 d11_takeTrade_198 (mm_wtR hS 50 h0 rfl rfl) ?_
      refine mm_iload_n d11_takeTrade_201 rfl ?_
      refine mm_iconst (v := 2) d11_takeTrade_202 (by decide +kernel) ?_
      refine mm_iadd d11_takeTrade_203 ?_
      refine mm_iconst (v := 0) d11_takeTrade_204 (by decide +kernel) ?_
      refine mm_bipush (v := 99) d11_takeTrade_205 (by decide +kernel) ?_
      obtain ⟨o6, hk6, h⟩ := mm_bd h
      refine mm_cVi 11 (As := [.ref (mm_rf S v0 35), .int (v1 + 2), .int 0, .int 99]) (ok11_into l hS h0 (mm_wtA hS 35 0 h0 rfl rfl) hk6) lk_X11_219 rfl d11_takeTrade_207 (mm_room rfl rfl) rfl h0 rfl rfl ?_
      refine mm_sub [(0, .ref v0), (1, .int v1)] ⟨rfl, rfl, trivial⟩ ?_
      exact ok11_takeTrade_210 l hS  h0 h
    · rw [if_neg hc5] at h
      refine mm_iload_n d11_takeTrade_192 rfl ?_
      refine mm_goto (tgt := 210) d11_takeTrade_193 (by decide) ?_
      refine mm_sub [(0, .ref v0), (1, .int v1)] ⟨rfl, rfl, trivial⟩ ?_
      exact ok11_takeTrade_210 l hS  h0 h
  · rw [if_neg hc1] at h
    refine mm_aload_n d11_takeTrade_139 rfl ?_
    refine mm_iconst (v := 1) d11_takeTrade_140 (by decide +kernel) ?_
    refine mm_aload_n d11_takeTrade_141 rfl ?_
    refine mm_getI fl_X11_163 d11_takeTrade_142 (mm_wtI hS h0 rfl) ?_
    obtain ⟨o7, hk7, h⟩ := mm_bd h
    refine mm_cVi 11 (As := [.int 1, .int (I v0 29)]) (ok11_fails l hS h0 hk7) lk_X11_192 rfl d11_takeTrade_145 (mm_room rfl rfl) rfl h0 rfl rfl ?_
    have h := Option.some.inj h
    subst h
    exact mm_iret rfl d11_takeTrade_148 ⟨rfl, rfl, rfl⟩
set_option maxHeartbeats 4000000 in
set_option maxRecDepth 100000 in
theorem ok11_takeTrade (l : Launch) {S : mm_Sh} (hS : mm_WT S) {n : Nat}  {v0 : Nat} (h0 : mm_is S v0 11) {I : mm_I} {J : mm_J} {o : Int32 × mm_I × mm_J} (h : f11_takeTrade S n v0 I J = some o) : mm_C l M11_takeTrade S [.ref v0] I J (mm_Qi o.1 o.2.1 o.2.2) := by
  unfold f11_takeTrade at h
  refine mm_enter rfl (by decide +kernel) rfl ?_
  refine mm_aload_n d11_takeTrade_0 rfl ?_
  obtain ⟨o1, hk1, h⟩ := mm_bd h
  refine mm_cVv 11 (As := []) (ok11_readWord l hS h0 hk1) lk_X11_205 rfl d11_takeTrade_1 (mm_room rfl rfl) rfl h0 rfl rfl ?_
  refine mm_iconst (v := 4) d11_takeTrade_4 (by decide +kernel) ?_
  refine mm_aload_n d11_takeTrade_5 rfl ?_
  refine mm_getI fl_X11_208 d11_takeTrade_6 (mm_wtI hS h0 rfl) ?_
  refine mm_imul d11_takeTrade_9 ?_
  refine mm_istore_n d11_takeTrade_10 rfl rfl ?_
  refine mm_aload_n d11_takeTrade_11 rfl ?_
  refine mm_getJ fl_X11_169 d11_takeTrade_12 (mm_wtJ hS h0 rfl) ?_
  refine mm_bipush (v := 112) d11_takeTrade_15 (by decide +kernel) ?_
  refine mm_bipush (v := 108) d11_takeTrade_17 (by decide +kernel) ?_
  refine mm_bipush (v := 97) d11_takeTrade_19 (by decide +kernel) ?_
  refine mm_bipush (v := 105) d11_takeTrade_21 (by decide +kernel) ?_
  obtain ⟨o2, hk2, h⟩ := mm_bd h
  refine mm_cSl (As := [.int 112, .int 108, .int 97, .int 105]) (ok11_code l hS hk2) lk_X11_211 rfl d11_takeTrade_23 (mm_room rfl rfl) rfl rfl ?_
  refine mm_bipush (v := 110) d11_takeTrade_26 (by decide +kernel) ?_
  obtain ⟨o3, hk3, h⟩ := mm_bd h
  refine mm_cSl (As := [.long o2, .int 110]) (ok11_longer l hS hk3) lk_X11_215 rfl d11_takeTrade_28 (mm_room rfl rfl) rfl rfl ?_
  refine mm_lcmp d11_takeTrade_31 ?_
  refine mm_if_ne (tgt := 39) d11_takeTrade_32 (by decide) (fun hc4 => ?_) (fun hc4 => ?_)
  · rw [if_neg hc4] at h
    refine mm_aload_n d11_takeTrade_39 rfl ?_
    refine mm_getJ fl_X11_169 d11_takeTrade_40 (mm_wtJ hS h0 rfl) ?_
    refine mm_bipush (v := 98) d11_takeTrade_43 (by decide +kernel) ?_
    refine mm_bipush (v := 97) d11_takeTrade_45 (by decide +kernel) ?_
    refine mm_bipush (v := 99) d11_takeTrade_47 (by decide +kernel) ?_
    refine mm_bipush (v := 107) d11_takeTrade_49 (by decide +kernel) ?_
    obtain ⟨o5, hk5, h⟩ := mm_bd h
    refine mm_cSl (As := [.int 98, .int 97, .int 99, .int 107]) (ok11_code l hS hk5) lk_X11_211 rfl d11_takeTrade_51 (mm_room rfl rfl) rfl rfl ?_
    refine mm_lcmp d11_takeTrade_54 ?_
    refine mm_if_ne (tgt := 62) d11_takeTrade_55 (by decide) (fun hc6 => ?_) (fun hc6 => ?_)
    · rw [if_neg hc6] at h
      refine mm_aload_n d11_takeTrade_62 rfl ?_
      refine mm_getJ fl_X11_169 d11_takeTrade_63 (mm_wtJ hS h0 rfl) ?_
      refine mm_bipush (v := 104) d11_takeTrade_66 (by decide +kernel) ?_
      refine mm_bipush (v := 97) d11_takeTrade_68 (by decide +kernel) ?_
      refine mm_bipush (v := 108) d11_takeTrade_70 (by decide +kernel) ?_
      refine mm_bipush (v := 102) d11_takeTrade_72 (by decide +kernel) ?_
      obtain ⟨o7, hk7, h⟩ := mm_bd h
      refine mm_cSl (As := [.int 104, .int 97, .int 108, .int 102]) (ok11_code l hS hk7) lk_X11_211 rfl d11_takeTrade_74 (mm_room rfl rfl) rfl rfl ?_
      refine mm_lcmp d11_takeTrade_77 ?_
      refine mm_if_ne (tgt := 85) d11_takeTrade_78 (by decide) (fun hc8 => ?_) (fun hc8 => ?_)
      · rw [if_neg hc8] at h
        refine mm_aload_n d11_takeTrade_85 rfl ?_
        refine mm_getJ fl_X11_169 d11_takeTrade_86 (mm_wtJ hS h0 rfl) ?_
        refine mm_bipush (v := 102) d11_takeTrade_89 (by decide +kernel) ?_
        refine mm_bipush (v := 111) d11_takeTrade_91 (by decide +kernel) ?_
        refine mm_bipush (v := 114) d11_takeTrade_93 (by decide +kernel) ?_
        refine mm_bipush (v := 98) d11_takeTrade_95 (by decide +kernel) ?_
        obtain ⟨o9, hk9, h⟩ := mm_bd h
        refine mm_cSl (As := [.int 102, .int 111, .int 114, .int 98]) (ok11_code l hS hk9) lk_X11_211 rfl d11_takeTrade_97 (mm_room rfl rfl) rfl rfl ?_
        refine mm_bipush (v := 105) d11_takeTrade_100 (by decide +kernel) ?_
        obtain ⟨o10, hk10, h⟩ := mm_bd h
        refine mm_cSl (As := [.long o9, .int 105]) (ok11_longer l hS hk10) lk_X11_215 rfl d11_takeTrade_102 (mm_room rfl rfl) rfl rfl ?_
        refine mm_bipush (v := 100) d11_takeTrade_105 (by decide +kernel) ?_
        obtain ⟨o11, hk11, h⟩ := mm_bd h
        refine mm_cSl (As := [.long o10, .int 100]) (ok11_longer l hS hk11) lk_X11_215 rfl d11_takeTrade_107 (mm_room rfl rfl) rfl rfl ?_
        refine mm_bipush (v := 100) d11_takeTrade_110 (by decide +kernel) ?_
        obtain ⟨o12, hk12, h⟩ := mm_bd h
        refine mm_cSl (As := [.long o11, .int 100]) (ok11_longer l hS hk12) lk_X11_215 rfl d11_takeTrade_112 (mm_room rfl rfl) rfl rfl ?_
        refine mm_bipush (v := 101) d11_takeTrade_115 (by decide +kernel) ?_
        obtain ⟨o13, hk13, h⟩ := mm_bd h
        refine mm_cSl (As := [.long o12, .int 101]) (ok11_longer l hS hk13) lk_X11_215 rfl d11_takeTrade_117 (mm_room rfl rfl) rfl rfl ?_
        refine mm_bipush (v := 110) d11_takeTrade_120 (by decide +kernel) ?_
        obtain ⟨o14, hk14, h⟩ := mm_bd h
        refine mm_cSl (As := [.long o13, .int 110]) (ok11_longer l hS hk14) lk_X11_215 rfl d11_takeTrade_122 (mm_room rfl rfl) rfl rfl ?_
        refine mm_lcmp d11_takeTrade_125 ?_
        refine mm_if_ne (tgt := 133) d11_takeTrade_126 (by decide) (fun hc15 => ?_) (fun hc15 => ?_)
        · rw [if_neg hc15] at h
          refine mm_iconst (v := (-1)) d11_takeTrade_133 (by decide +kernel) ?_
          refine mm_sub [(0, .ref v0), (1, .int (4 * (o1.1 v0 34)))] ⟨rfl, rfl, trivial⟩ ?_
          exact ok11_takeTrade_134 l hS  h0 h
        · rw [if_pos hc15] at h
          refine mm_iconst (v := 3) d11_takeTrade_129 (by decide +kernel) ?_
          refine mm_goto (tgt := 134) d11_takeTrade_130 (by decide) ?_
          refine mm_sub [(0, .ref v0), (1, .int (4 * (o1.1 v0 34)))] ⟨rfl, rfl, trivial⟩ ?_
          exact ok11_takeTrade_134 l hS  h0 h
      · rw [if_pos hc8] at h
        refine mm_iconst (v := 2) d11_takeTrade_81 (by decide +kernel) ?_
        refine mm_goto (tgt := 134) d11_takeTrade_82 (by decide) ?_
        refine mm_sub [(0, .ref v0), (1, .int (4 * (o1.1 v0 34)))] ⟨rfl, rfl, trivial⟩ ?_
        exact ok11_takeTrade_134 l hS  h0 h
    · rw [if_pos hc6] at h
      refine mm_iconst (v := 1) d11_takeTrade_58 (by decide +kernel) ?_
      refine mm_goto (tgt := 134) d11_takeTrade_59 (by decide) ?_
      refine mm_sub [(0, .ref v0), (1, .int (4 * (o1.1 v0 34)))] ⟨rfl, rfl, trivial⟩ ?_
      exact ok11_takeTrade_134 l hS  h0 h
  · rw [if_pos hc4] at h
    refine mm_iconst (v := 0) d11_takeTrade_35 (by decide +kernel) ?_
    refine mm_goto (tgt := 134) d11_takeTrade_36 (by decide) ?_
    refine mm_sub [(0, .ref v0), (1, .int (4 * (o1.1 v0 34)))] ⟨rfl, rfl, trivial⟩ ?_
    exact ok11_takeTrade_134 l hS  h0 h
set_option maxHeartbeats 4000000 in
set_option maxRecDepth 100000 in
theorem ok11_yearNow_172 (l : Launch) {S : mm_Sh} (hS : mm_WT S) {n : Nat}  {rec4 : Nat → Int32 → Int32 → mm_I → mm_J → Option (Int32 × mm_I × mm_J)} (hrec4 : ∀ {v0 : Nat} {v1 : Int32} {v2 : Int32} (_ : mm_is S v0 11) {I : mm_I} {J : mm_J} {o : Int32 × mm_I × mm_J}, rec4 v0 v1 v2 I J = some o → mm_W l M11_yearNow (mm_rm (mm_rk M11_yearNow)) 0 0 S (mm_end S (mm_Qi o.1 o.2.1 o.2.2)) 4 [(0, .ref v0), (1, .int v1), (2, .int v2)] [] I J) {v0 : Nat} {v1 : Int32} {v2 : Int32} (h0 : mm_is S v0 11) {I : mm_I} {J : mm_J} {o : Int32 × mm_I × mm_J} (h : f11_yearNow_172 S n rec4 v0 v1 v2 I J = some o) : mm_W l M11_yearNow (mm_rm (mm_rk M11_yearNow)) 0 0 S (mm_end S (mm_Qi o.1 o.2.1 o.2.2)) 172 [(0, .ref v0), (1, .int v1), (2, .int v2)] [] I J := by
  unfold f11_yearNow_172 at h
  refine mm_iinc (v := v2 + 1) d11_yearNow_172 rfl rfl rfl rfl ?_
  refine mm_goto (tgt := 4) d11_yearNow_175 (by decide) ?_
  refine mm_sub [(0, .ref v0), (1, .int v1), (2, .int (v2 + 1))] ⟨rfl, rfl, rfl, trivial⟩ ?_
  exact hrec4 h0 h
set_option maxHeartbeats 4000000 in
set_option maxRecDepth 100000 in
theorem ok11_yearNow_171 (l : Launch) {S : mm_Sh} (hS : mm_WT S) {n : Nat}  {rec4 : Nat → Int32 → Int32 → mm_I → mm_J → Option (Int32 × mm_I × mm_J)} (hrec4 : ∀ {v0 : Nat} {v1 : Int32} {v2 : Int32} (_ : mm_is S v0 11) {I : mm_I} {J : mm_J} {o : Int32 × mm_I × mm_J}, rec4 v0 v1 v2 I J = some o → mm_W l M11_yearNow (mm_rm (mm_rk M11_yearNow)) 0 0 S (mm_end S (mm_Qi o.1 o.2.1 o.2.2)) 4 [(0, .ref v0), (1, .int v1), (2, .int v2)] [] I J) {v0 : Nat} {v1 : Int32} {v2 : Int32} {s0 : Nat} {s1 : Int32} {s2 : Int32} (h0 : mm_is S v0 11) (g0 : S[s0]? = some (.inl (0, mm_al S s0))) {I : mm_I} {J : mm_J} {o : Int32 × mm_I × mm_J} (h : f11_yearNow_171 S n rec4 v0 v1 v2 s0 s1 s2 I J = some o) : mm_W l M11_yearNow (mm_rm (mm_rk M11_yearNow)) 0 0 S (mm_end S (mm_Qi o.1 o.2.1 o.2.2)) 171 [(0, .ref v0), (1, .int v1), (2, .int v2)] [.int s2, .int s1, .ref s0] I J := by
  unfold f11_yearNow_171 at h
  obtain ⟨hb1, h⟩ := mm_gd h
  refine mm_iast d11_yearNow_171 g0 (mm_inb_ok hb1) ?_
  refine mm_sub [(0, .ref v0), (1, .int v1), (2, .int v2)] ⟨rfl, rfl, rfl, trivial⟩ ?_
  exact ok11_yearNow_172 l hS hrec4 h0 h
set_option maxHeartbeats 4000000 in
set_option maxRecDepth 100000 in
theorem ok11_yearNow_166 (l : Launch) {S : mm_Sh} (hS : mm_WT S) {n : Nat}  {rec4 : Nat → Int32 → Int32 → mm_I → mm_J → Option (Int32 × mm_I × mm_J)} (hrec4 : ∀ {v0 : Nat} {v1 : Int32} {v2 : Int32} (_ : mm_is S v0 11) {I : mm_I} {J : mm_J} {o : Int32 × mm_I × mm_J}, rec4 v0 v1 v2 I J = some o → mm_W l M11_yearNow (mm_rm (mm_rk M11_yearNow)) 0 0 S (mm_end S (mm_Qi o.1 o.2.1 o.2.2)) 4 [(0, .ref v0), (1, .int v1), (2, .int v2)] [] I J) {v0 : Nat} {v1 : Int32} {v2 : Int32} {s0 : Nat} {s1 : Int32} (h0 : mm_is S v0 11) (g0 : S[s0]? = some (.inl (0, mm_al S s0))) {I : mm_I} {J : mm_J} {o : Int32 × mm_I × mm_J} (h : f11_yearNow_166 S n rec4 v0 v1 v2 s0 s1 I J = some o) : mm_W l M11_yearNow (mm_rm (mm_rk M11_yearNow)) 0 0 S (mm_end S (mm_Qi o.1 o.2.1 o.2.2)) 166 [(0, .ref v0), (1, .int v1), (2, .int v2)] [.int s1, .ref s0] I J := by
  unfold f11_yearNow_166 at h
  refine mm_aload_n d11_yearNow_166 rfl ?_
  refine mm_iload_n d11_yearNow_167 rfl ?_
  obtain ⟨o1, hk1, h⟩ := mm_bd h
  refine mm_cVi 11 (As := [.int v2]) (ok11_bestOf l hS h0 hk1) lk_X11_150 rfl d11_yearNow_168 (mm_room rfl rfl) rfl h0 rfl rfl ?_
  refine mm_sub [(0, .ref v0), (1, .int v1), (2, .int v2)] ⟨rfl, rfl, rfl, trivial⟩ ?_
  exact ok11_yearNow_171 l hS hrec4 h0 g0 h
set_option maxHeartbeats 4000000 in
set_option maxRecDepth 100000 in
theorem ok11_yearNow_129 (l : Launch) {S : mm_Sh} (hS : mm_WT S) {n : Nat}  {rec4 : Nat → Int32 → Int32 → mm_I → mm_J → Option (Int32 × mm_I × mm_J)} (hrec4 : ∀ {v0 : Nat} {v1 : Int32} {v2 : Int32} (_ : mm_is S v0 11) {I : mm_I} {J : mm_J} {o : Int32 × mm_I × mm_J}, rec4 v0 v1 v2 I J = some o → mm_W l M11_yearNow (mm_rm (mm_rk M11_yearNow)) 0 0 S (mm_end S (mm_Qi o.1 o.2.1 o.2.2)) 4 [(0, .ref v0), (1, .int v1), (2, .int v2)] [] I J) {v0 : Nat} {v1 : Int32} {v2 : Int32} (h0 : mm_is S v0 11) {I : mm_I} {J : mm_J} {o : Int32 × mm_I × mm_J} (h : f11_yearNow_129 S n rec4 v0 v1 v2 I J = some o) : mm_W l M11_yearNow (mm_rm (mm_rk M11_yearNow)) 0 0 S (mm_end S (mm_Qi o.1 o.2.1 o.2.2)) 129 [(0, .ref v0), (1, .int v1), (2, .int v2)] [] I J := by
  unfold f11_yearNow_129 at h
  refine mm_aload_n d11_yearNow_129 rfl ?_
  refine mm_getR fl_X11_51 d11_yearNow_130 (mm_wtR hS 50 h0 rfl rfl) ?_
  refine mm_iload_n d11_yearNow_133 rfl ?_
  refine mm_aload_n d11_yearNow_134 rfl ?_
  refine mm_getR fl_X11_51 d11_yearNow_135 (mm_wtR hS 50 h0 rfl rfl) ?_
  refine mm_iload_n d11_yearNow_138 rfl ?_
  obtain ⟨hb1, h⟩ := mm_gd h
  refine mm_iald d11_yearNow_139 (mm_wtA hS 16 0 h0 rfl rfl) (mm_inb_ok hb1) ?_
  refine mm_if_lt (tgt := 166) d11_yearNow_140 (by decide) (fun hc2 => ?_) (fun hc2 => ?_)
  · rw [if_pos hc2] at h
    refine mm_sub [(0, .ref v0), (1, .int v1), (2, .int v2)] ⟨rfl, rfl, rfl, trivial⟩ ?_
    exact ok11_yearNow_166 l hS hrec4 h0 (mm_wtA hS 16 0 h0 rfl rfl) h
  · rw [if_neg hc2] at h
    refine mm_aload_n d11_yearNow_143 rfl ?_
    refine mm_iload_n d11_yearNow_144 rfl ?_
    refine mm_aload_n d11_yearNow_145 rfl ?_
    refine mm_getR fl_X11_51 d11_yearNow_146 (mm_wtR hS 50 h0 rfl rfl) ?_
    refine mm_iload_n d11_yearNow_149 rfl ?_
    obtain ⟨hb3, h⟩ := mm_gd h
    refine mm_iald d11_yearNow_150 (mm_wtA hS 16 0 h0 rfl rfl) (mm_inb_ok hb3) ?_
    obtain ⟨o4, hk4, h⟩ := mm_bd h
    refine mm_cVi 11 (As := [.int v2, .int (I (mm_rf S v0 16) v2.toNatClampNeg)]) (ok11_knows l hS h0 hk4) lk_X11_143 rfl d11_yearNow_151 (mm_room rfl rfl) rfl h0 rfl rfl ?_
    refine mm_if_eq (tgt := 166) d11_yearNow_154 (by decide) (fun hc5 => ?_) (fun hc5 => ?_)
    · rw [if_pos hc5] at h
      refine mm_sub [(0, .ref v0), (1, .int v1), (2, .int v2)] ⟨rfl, rfl, rfl, trivial⟩ ?_
      exact ok11_yearNow_166 l hS hrec4 h0 (mm_wtA hS 16 0 h0 rfl rfl) h
    · rw [if_neg hc5] at h
      refine mm_aload_n d11_yearNow_157 rfl ?_
      refine mm_getR fl_X11_51 d11_yearNow_158 (mm_wtR hS 50 h0 rfl rfl) ?_
      refine mm_iload_n d11_yearNow_161 rfl ?_
      obtain ⟨hb6, h⟩ := mm_gd h
      refine mm_iald d11_yearNow_162 (mm_wtA hS 16 0 h0 rfl rfl) (mm_inb_ok hb6) ?_
      refine mm_goto (tgt := 171) d11_yearNow_163 (by decide) ?_
      refine mm_sub [(0, .ref v0), (1, .int v1), (2, .int v2)] ⟨rfl, rfl, rfl, trivial⟩ ?_
      exact ok11_yearNow_171 l hS hrec4 h0 (mm_wtA hS 16 0 h0 rfl rfl) h
set_option maxHeartbeats 4000000 in
set_option maxRecDepth 100000 in
theorem ok11_yearNow_73_b (l : Launch) {S : mm_Sh} (hS : mm_WT S) {n : Nat}  {rec4 : Nat → Int32 → Int32 → mm_I → mm_J → Option (Int32 × mm_I × mm_J)} (hrec4 : ∀ {v0 : Nat} {v1 : Int32} {v2 : Int32} (_ : mm_is S v0 11) {I : mm_I} {J : mm_J} {o : Int32 × mm_I × mm_J}, rec4 v0 v1 v2 I J = some o → mm_W l M11_yearNow (mm_rm (mm_rk M11_yearNow)) 0 0 S (mm_end S (mm_Qi o.1 o.2.1 o.2.2)) 4 [(0, .ref v0), (1, .int v1), (2, .int v2)] [] I J) {rec73 : Nat → Int32 → Int32 → Int32 → mm_I → mm_J → Option (Int32 × mm_I × mm_J)} (hrec73 : ∀ {v0 : Nat} {v1 : Int32} {v2 : Int32} {v4 : Int32} (_ : mm_is S v0 11) {I : mm_I} {J : mm_J} {o : Int32 × mm_I × mm_J}, rec73 v0 v1 v2 v4 I J = some o → mm_W l M11_yearNow (mm_rm (mm_rk M11_yearNow)) 0 0 S (mm_end S (mm_Qi o.1 o.2.1 o.2.2)) 73 [(0, .ref v0), (1, .int v1), (2, .int v2), (4, .int v4)] [] I J) {v0 : Nat} {v1 : Int32} {v2 : Int32} {v4 : Int32} (h0 : mm_is S v0 11) {I : mm_I} {J : mm_J} {o : Int32 × mm_I × mm_J} (h : f11_yearNow_73_b S n rec4 rec73 v0 v1 v2 v4 I J = some o) : mm_W l M11_yearNow (mm_rm (mm_rk M11_yearNow)) 0 0 S (mm_end S (mm_Qi o.1 o.2.1 o.2.2)) 73 [(0, .ref v0), (1, .int v1), (2, .int v2), (4, .int v4)] [] I J := by
  unfold f11_yearNow_73_b at h
  refine mm_iload d11_yearNow_73 rfl ?_
  refine mm_aload_n d11_yearNow_75 rfl ?_
  refine mm_getI fl_X11_133 d11_yearNow_76 (mm_wtI hS h0 rfl) ?_
  refine mm_icmp_ge (tgt := 95) d11_yearNow_79 (by decide) (fun hc1 => ?_) (fun hc1 => ?_)
  · rw [if_pos hc1] at h
    refine mm_aload_n d11_yearNow_95 rfl ?_
    refine mm_getR fl_X11_38 d11_yearNow_96 (mm_wtR hS 50 h0 rfl rfl) ?_
    refine mm_iload_n d11_yearNow_99 rfl ?_
    refine mm_dup2 d11_yearNow_100 rfl rfl ?_
    obtain ⟨hb2, h⟩ := mm_gd h
    refine mm_iald d11_yearNow_101 (mm_wtA hS 12 0 h0 rfl rfl) (mm_inb_ok hb2) ?_
    refine mm_iconst (v := 1) d11_yearNow_102 (by decide +kernel) ?_
    refine mm_iadd d11_yearNow_103 ?_
    obtain ⟨hb3, h⟩ := mm_gd h
    refine mm_iast d11_yearNow_104 (mm_wtA hS 12 0 h0 rfl rfl) (mm_inb_ok hb3) ?_
    refine mm_aload_n d11_yearNow_105 rfl ?_
    refine mm_getR fl_X11_38 d11_yearNow_106 (mm_wtR hS 50 h0 rfl rfl) ?_
    refine mm_iload_n d11_yearNow_109 rfl ?_
    obtain ⟨hb4, h⟩ := mm_gd h
    refine mm_iald d11_yearNow_110 (mm_wtA hS 12 0 h0 rfl rfl) (mm_inb_ok hb4) ?_
    refine mm_aload_n d11_yearNow_111 rfl ?_
    refine mm_getI fl_X11_35 d11_yearNow_112 (mm_wtI hS h0 rfl) ?_
    refine mm_icmp_lt (tgt := 129) d11_yearNow_115 (by decide) (fun hc5 => ?_) (fun hc5 => ?_)
    · rw [if_pos hc5] at h
      refine mm_sub [(0, .ref v0), (1, .int v1), (2, .int v2)] ⟨rfl, rfl, rfl, trivial⟩ ?_
      exact ok11_yearNow_129 l hS hrec4 h0 h
    · rw [if_neg hc5] at h
      refine mm_aload_n d11_yearNow_118 rfl ?_
      refine mm_iload_n d11_yearNow_119 rfl ?_
      obtain ⟨o6, hk6, h⟩ := mm_bd h
      refine mm_cVv 11 (As := [.int v2]) (ok11_die l hS h0 hk6) lk_X11_324 rfl d11_yearNow_120 (mm_room rfl rfl) rfl h0 rfl rfl ?_
      refine mm_iload_n d11_yearNow_123 rfl ?_
      refine mm_iconst (v := 1) d11_yearNow_124 (by decide +kernel) ?_
      refine mm_iload_n d11_yearNow_125 rfl ?_
      refine mm_ishl d11_yearNow_126 ?_
      refine mm_ior d11_yearNow_127 ?_
      refine mm_istore_n d11_yearNow_128 rfl rfl ?_
      refine mm_sub [(0, .ref v0), (1, .int (v1 ||| ((1 : Int32) <<< (v2 &&& 31)))), (2, .int v2)] ⟨rfl, rfl, rfl, trivial⟩ ?_
      exact ok11_yearNow_129 l hS hrec4 h0 h
  · rw [if_neg hc1] at h
    refine mm_aload_n d11_yearNow_82 rfl ?_
    refine mm_iload_n d11_yearNow_83 rfl ?_
    refine mm_iload d11_yearNow_84 rfl ?_
    obtain ⟨o7, hk7, h⟩ := mm_bd h
    refine mm_cVv 11 (As := [.int v2, .int v4]) (ok11_tradeYear l hS h0 hk7) lk_X11_321 rfl d11_yearNow_86 (mm_room rfl rfl) rfl h0 rfl rfl ?_
    refine mm_iinc (v := v4 + 1) d11_yearNow_89 rfl rfl rfl rfl ?_
    refine mm_goto (tgt := 73) d11_yearNow_92 (by decide) ?_
    refine mm_sub [(0, .ref v0), (1, .int v1), (2, .int v2), (4, .int (v4 + 1))] ⟨rfl, rfl, rfl, rfl, trivial⟩ ?_
    exact hrec73 h0 h
set_option maxHeartbeats 4000000 in
set_option maxRecDepth 100000 in
theorem ok11_yearNow_73 (l : Launch) {S : mm_Sh} (hS : mm_WT S) {n : Nat}  {rec4 : Nat → Int32 → Int32 → mm_I → mm_J → Option (Int32 × mm_I × mm_J)} (hrec4 : ∀ {v0 : Nat} {v1 : Int32} {v2 : Int32} (_ : mm_is S v0 11) {I : mm_I} {J : mm_J} {o : Int32 × mm_I × mm_J}, rec4 v0 v1 v2 I J = some o → mm_W l M11_yearNow (mm_rm (mm_rk M11_yearNow)) 0 0 S (mm_end S (mm_Qi o.1 o.2.1 o.2.2)) 4 [(0, .ref v0), (1, .int v1), (2, .int v2)] [] I J) : ∀ (k : Nat) {v0 : Nat} {v1 : Int32} {v2 : Int32} {v4 : Int32} (h0 : mm_is S v0 11) {I : mm_I} {J : mm_J} {o : Int32 × mm_I × mm_J}, f11_yearNow_73 S n rec4 k v0 v1 v2 v4 I J = some o → mm_W l M11_yearNow (mm_rm (mm_rk M11_yearNow)) 0 0 S (mm_end S (mm_Qi o.1 o.2.1 o.2.2)) 73 [(0, .ref v0), (1, .int v1), (2, .int v2), (4, .int v4)] [] I J := by
  intro k
  induction k with
  | zero =>
    intros
    rename_i h
    cases h
  | succ k ih =>
    intro v0 v1 v2 v4 h0 I J o h
    exact ok11_yearNow_73_b l hS hrec4 (fun {v0 v1 v2 v4} h0 {I J o} h => ih h0 h) h0 h
set_option maxHeartbeats 4000000 in
set_option maxRecDepth 100000 in
theorem ok11_yearNow_68 (l : Launch) {S : mm_Sh} (hS : mm_WT S) {n : Nat}  {rec4 : Nat → Int32 → Int32 → mm_I → mm_J → Option (Int32 × mm_I × mm_J)} (hrec4 : ∀ {v0 : Nat} {v1 : Int32} {v2 : Int32} (_ : mm_is S v0 11) {I : mm_I} {J : mm_J} {o : Int32 × mm_I × mm_J}, rec4 v0 v1 v2 I J = some o → mm_W l M11_yearNow (mm_rm (mm_rk M11_yearNow)) 0 0 S (mm_end S (mm_Qi o.1 o.2.1 o.2.2)) 4 [(0, .ref v0), (1, .int v1), (2, .int v2)] [] I J) {v0 : Nat} {v1 : Int32} {v2 : Int32} {s0 : Nat} {s1 : Int32} {s2 : Int32} {s3 : Int32} (h0 : mm_is S v0 11) (g0 : S[s0]? = some (.inl (0, mm_al S s0))) {I : mm_I} {J : mm_J} {o : Int32 × mm_I × mm_J} (h : f11_yearNow_68 S n rec4 v0 v1 v2 s0 s1 s2 s3 I J = some o) : mm_W l M11_yearNow (mm_rm (mm_rk M11_yearNow)) 0 0 S (mm_end S (mm_Qi o.1 o.2.1 o.2.2)) 68 [(0, .ref v0), (1, .int v1), (2, .int v2)] [.int s3, .int s2, .int s1, .ref s0] I J := by
  unfold f11_yearNow_68 at h
  refine mm_iadd d11_yearNow_68 ?_
  obtain ⟨hb1, h⟩ := mm_gd h
  refine mm_iast d11_yearNow_69 g0 (mm_inb_ok hb1) ?_
  refine mm_iconst (v := 0) d11_yearNow_70 (by decide +kernel) ?_
  refine mm_istore d11_yearNow_71 rfl rfl ?_
  refine mm_sub [(0, .ref v0), (1, .int v1), (2, .int v2), (4, .int 0)] ⟨rfl, rfl, rfl, rfl, trivial⟩ ?_
  exact ok11_yearNow_73 l hS hrec4 n h0 h
set_option maxHeartbeats 4000000 in
set_option maxRecDepth 100000 in
theorem ok11_yearNow_190_b (l : Launch) {S : mm_Sh} (hS : mm_WT S) {n : Nat}  {rec190 : Nat → Int32 → Int32 → mm_I → mm_J → Option (Int32 × mm_I × mm_J)} (hrec190 : ∀ {v0 : Nat} {v1 : Int32} {v2 : Int32} (_ : mm_is S v0 11) {I : mm_I} {J : mm_J} {o : Int32 × mm_I × mm_J}, rec190 v0 v1 v2 I J = some o → mm_W l M11_yearNow (mm_rm (mm_rk M11_yearNow)) 0 0 S (mm_end S (mm_Qi o.1 o.2.1 o.2.2)) 190 [(0, .ref v0), (1, .int v1), (2, .int v2)] [] I J) {v0 : Nat} {v1 : Int32} {v2 : Int32} (h0 : mm_is S v0 11) {I : mm_I} {J : mm_J} {o : Int32 × mm_I × mm_J} (h : f11_yearNow_190_b S n rec190 v0 v1 v2 I J = some o) : mm_W l M11_yearNow (mm_rm (mm_rk M11_yearNow)) 0 0 S (mm_end S (mm_Qi o.1 o.2.1 o.2.2)) 190 [(0, .ref v0), (1, .int v1), (2, .int v2)] [] I J := by
  unfold f11_yearNow_190_b at h
  refine mm_iload_n d11_yearNow_190 rfl ?_
  refine mm_aload_n d11_yearNow_191 rfl ?_
  refine mm_getI fl_X11_140 d11_yearNow_192 (mm_wtI hS h0 rfl) ?_
  refine mm_icmp_ge (tgt := 218) d11_yearNow_195 (by decide) (fun hc1 => ?_) (fun hc1 => ?_)
  · rw [if_pos hc1] at h
    refine mm_iload_n d11_yearNow_218 rfl ?_
    have h := Option.some.inj h
    subst h
    exact mm_iret rfl d11_yearNow_219 ⟨rfl, rfl, rfl⟩
  · rw [if_neg hc1] at h
    refine mm_aload_n d11_yearNow_198 rfl ?_
    refine mm_getR fl_X11_66 d11_yearNow_199 (mm_wtR hS 51 h0 rfl rfl) ?_
    refine mm_iload_n d11_yearNow_202 rfl ?_
    refine mm_iconst (v := 0) d11_yearNow_203 (by decide +kernel) ?_
    obtain ⟨hb2, h⟩ := mm_gd h
    refine mm_zast d11_yearNow_204 (mm_wtA hS 21 1 h0 rfl rfl) (mm_inb_ok hb2) (by decide) ?_
    refine mm_aload_n d11_yearNow_205 rfl ?_
    refine mm_getR fl_X11_69 d11_yearNow_206 (mm_wtR hS 51 h0 rfl rfl) ?_
    refine mm_iload_n d11_yearNow_209 rfl ?_
    refine mm_iconst (v := 0) d11_yearNow_210 (by decide +kernel) ?_
    obtain ⟨hb3, h⟩ := mm_gd h
    refine mm_zast d11_yearNow_211 (mm_wtA hS 22 1 h0 rfl rfl) (mm_inb_ok hb3) (by decide) ?_
    refine mm_iinc (v := v2 + 1) d11_yearNow_212 rfl rfl rfl rfl ?_
    refine mm_goto (tgt := 190) d11_yearNow_215 (by decide) ?_
    refine mm_sub [(0, .ref v0), (1, .int v1), (2, .int (v2 + 1))] ⟨rfl, rfl, rfl, trivial⟩ ?_
    exact hrec190 h0 h
set_option maxHeartbeats 4000000 in
set_option maxRecDepth 100000 in
theorem ok11_yearNow_190 (l : Launch) {S : mm_Sh} (hS : mm_WT S) {n : Nat}  : ∀ (k : Nat) {v0 : Nat} {v1 : Int32} {v2 : Int32} (h0 : mm_is S v0 11) {I : mm_I} {J : mm_J} {o : Int32 × mm_I × mm_J}, f11_yearNow_190 S n k v0 v1 v2 I J = some o → mm_W l M11_yearNow (mm_rm (mm_rk M11_yearNow)) 0 0 S (mm_end S (mm_Qi o.1 o.2.1 o.2.2)) 190 [(0, .ref v0), (1, .int v1), (2, .int v2)] [] I J := by
  intro k
  induction k with
  | zero =>
    intros
    rename_i h
    cases h
  | succ k ih =>
    intro v0 v1 v2 h0 I J o h
    exact ok11_yearNow_190_b l hS (fun {v0 v1 v2} h0 {I J o} h => ih h0 h) h0 h
set_option maxHeartbeats 4000000 in
set_option maxRecDepth 100000 in
theorem ok11_yearNow_4_b (l : Launch) {S : mm_Sh} (hS : mm_WT S) {n : Nat}  {rec4 : Nat → Int32 → Int32 → mm_I → mm_J → Option (Int32 × mm_I × mm_J)} (hrec4 : ∀ {v0 : Nat} {v1 : Int32} {v2 : Int32} (_ : mm_is S v0 11) {I : mm_I} {J : mm_J} {o : Int32 × mm_I × mm_J}, rec4 v0 v1 v2 I J = some o → mm_W l M11_yearNow (mm_rm (mm_rk M11_yearNow)) 0 0 S (mm_end S (mm_Qi o.1 o.2.1 o.2.2)) 4 [(0, .ref v0), (1, .int v1), (2, .int v2)] [] I J) {v0 : Nat} {v1 : Int32} {v2 : Int32} (h0 : mm_is S v0 11) {I : mm_I} {J : mm_J} {o : Int32 × mm_I × mm_J} (h : f11_yearNow_4_b S n rec4 v0 v1 v2 I J = some o) : mm_W l M11_yearNow (mm_rm (mm_rk M11_yearNow)) 0 0 S (mm_end S (mm_Qi o.1 o.2.1 o.2.2)) 4 [(0, .ref v0), (1, .int v1), (2, .int v2)] [] I J := by
  unfold f11_yearNow_4_b at h
  refine mm_iload_n d11_yearNow_4 rfl ?_
  refine mm_aload_n d11_yearNow_5 rfl ?_
  refine mm_getI fl_X11_140 d11_yearNow_6 (mm_wtI hS h0 rfl) ?_
  refine mm_icmp_ge (tgt := 178) d11_yearNow_9 (by decide) (fun hc1 => ?_) (fun hc1 => ?_)
  · rw [if_pos hc1] at h
    refine mm_aload_n d11_yearNow_178 rfl ?_
    refine mm_dup d11_yearNow_179 rfl ?_
    refine mm_getI fl_X11_147 d11_yearNow_180 (mm_wtI hS h0 rfl) ?_
    refine mm_iconst (v := 1) d11_yearNow_183 (by decide +kernel) ?_
    refine mm_iadd d11_yearNow_184 ?_
    refine mm_putI fp_X11_147 d11_yearNow_185 (mm_wtI hS h0 rfl) ?_
    refine mm_iconst (v := 0) d11_yearNow_188 (by decide +kernel) ?_
    refine mm_istore_n d11_yearNow_189 rfl rfl ?_
    refine mm_sub [(0, .ref v0), (1, .int v1), (2, .int 0)] ⟨rfl, rfl, rfl, trivial⟩ ?_
    exact ok11_yearNow_190 l hS  n h0 h
  · rw [if_neg hc1] at h
    refine mm_aload_n d11_yearNow_12 rfl ?_
    refine mm_getR fl_X11_41 d11_yearNow_13 (mm_wtR hS 51 h0 rfl rfl) ?_
    refine mm_iload_n d11_yearNow_16 rfl ?_
    obtain ⟨hb2, h⟩ := mm_gd h
    refine mm_zald d11_yearNow_17 (mm_wtA hS 13 1 h0 rfl rfl) (mm_inb_ok hb2) ?_
    refine mm_if_eq (tgt := 172) d11_yearNow_18 (by decide) (fun hc3 => ?_) (fun hc3 => ?_)
    · rw [if_pos hc3] at h
      refine mm_sub [(0, .ref v0), (1, .int v1), (2, .int v2)] ⟨rfl, rfl, rfl, trivial⟩ ?_
      exact ok11_yearNow_172 l hS hrec4 h0 h
    · rw [if_neg hc3] at h
      refine mm_aload_n d11_yearNow_21 rfl ?_
      refine mm_getR fl_X11_51 d11_yearNow_22 (mm_wtR hS 50 h0 rfl rfl) ?_
      refine mm_iload_n d11_yearNow_25 rfl ?_
      obtain ⟨hb4, h⟩ := mm_gd h
      refine mm_iald d11_yearNow_26 (mm_wtA hS 16 0 h0 rfl rfl) (mm_inb_ok hb4) ?_
      refine mm_istore_n d11_yearNow_27 rfl rfl ?_
      refine mm_aload_n d11_yearNow_28 rfl ?_
      refine mm_getR fl_X11_63 d11_yearNow_29 (mm_wtR hS 50 h0 rfl rfl) ?_
      refine mm_iload_n d11_yearNow_32 rfl ?_
      refine mm_dup2 d11_yearNow_33 rfl rfl ?_
      obtain ⟨hb5, h⟩ := mm_gd h
      refine mm_iald d11_yearNow_34 (mm_wtA hS 20 0 h0 rfl rfl) (mm_inb_ok hb5) ?_
      refine mm_iload_n d11_yearNow_35 rfl ?_
      refine mm_if_ge (tgt := 43) d11_yearNow_36 (by decide) (fun hc6 => ?_) (fun hc6 => ?_)
      · rw [if_pos hc6] at h
        refine mm_aload_n d11_yearNow_43 rfl ?_
        refine mm_getR fl_X11_7 d11_yearNow_44 (mm_wtR hS 50 h0 rfl rfl) ?_
        refine mm_iconst (v := 4) d11_yearNow_47 (by decide +kernel) ?_
        refine mm_iload_n d11_yearNow_48 rfl ?_
        refine mm_imul d11_yearNow_49 ?_
        refine mm_iconst (v := 2) d11_yearNow_50 (by decide +kernel) ?_
        refine mm_iadd d11_yearNow_51 ?_
        obtain ⟨hb7, h⟩ := mm_gd h
        refine mm_iald d11_yearNow_52 (mm_wtA hS 1 0 h0 rfl rfl) (mm_inb_ok hb7) ?_
        refine mm_aload_n d11_yearNow_53 rfl ?_
        refine mm_getR fl_X11_45 d11_yearNow_54 (mm_wtR hS 50 h0 rfl rfl) ?_
        refine mm_bipush (v := 6) d11_yearNow_57 (by decide +kernel) ?_
        refine mm_iload_n d11_yearNow_59 rfl ?_
        refine mm_imul d11_yearNow_60 ?_
        refine mm_iload_n d11_yearNow_61 rfl ?_
        refine mm_iadd d11_yearNow_62 ?_
        obtain ⟨hb8, h⟩ := mm_gd h
        refine mm_iald d11_yearNow_63 (mm_wtA hS 14 0 h0 rfl rfl) (mm_inb_ok hb8) ?_
        refine mm_imul d11_yearNow_64 ?_
        refine mm_bipush (v := 100) d11_yearNow_65 (by decide +kernel) ?_
        refine mm_idiv d11_yearNow_67 (by decide) ?_
        refine mm_sub [(0, .ref v0), (1, .int v1), (2, .int v2)] ⟨rfl, rfl, rfl, trivial⟩ ?_
        exact ok11_yearNow_68 l hS hrec4 h0 (mm_wtA hS 20 0 h0 rfl rfl) h
      · rw [if_neg hc6] at h
        refine mm_iconst (v := 0) d11_yearNow_39 (by decide +kernel) ?_
        refine mm_goto (tgt := 68) d11_yearNow_40 (by decide) ?_
        refine mm_sub [(0, .ref v0), (1, .int v1), (2, .int v2)] ⟨rfl, rfl, rfl, trivial⟩ ?_
        exact ok11_yearNow_68 l hS hrec4 h0 (mm_wtA hS 20 0 h0 rfl rfl) h
set_option maxHeartbeats 4000000 in
set_option maxRecDepth 100000 in
theorem ok11_yearNow_4 (l : Launch) {S : mm_Sh} (hS : mm_WT S) {n : Nat}  : ∀ (k : Nat) {v0 : Nat} {v1 : Int32} {v2 : Int32} (h0 : mm_is S v0 11) {I : mm_I} {J : mm_J} {o : Int32 × mm_I × mm_J}, f11_yearNow_4 S n k v0 v1 v2 I J = some o → mm_W l M11_yearNow (mm_rm (mm_rk M11_yearNow)) 0 0 S (mm_end S (mm_Qi o.1 o.2.1 o.2.2)) 4 [(0, .ref v0), (1, .int v1), (2, .int v2)] [] I J := by
  intro k
  induction k with
  | zero =>
    intros
    rename_i h
    cases h
  | succ k ih =>
    intro v0 v1 v2 h0 I J o h
    exact ok11_yearNow_4_b l hS (fun {v0 v1 v2} h0 {I J o} h => ih h0 h) h0 h
set_option maxHeartbeats 4000000 in
set_option maxRecDepth 100000 in
theorem ok11_yearNow (l : Launch) {S : mm_Sh} (hS : mm_WT S) {n : Nat}  {v0 : Nat} (h0 : mm_is S v0 11) {I : mm_I} {J : mm_J} {o : Int32 × mm_I × mm_J} (h : f11_yearNow S n v0 I J = some o) : mm_C l M11_yearNow S [.ref v0] I J (mm_Qi o.1 o.2.1 o.2.2) := by
  unfold f11_yearNow at h
  refine mm_enter rfl (by decide +kernel) rfl ?_
  refine mm_iconst (v := 0) d11_yearNow_0 (by decide +kernel) ?_
  refine mm_istore_n d11_yearNow_1 rfl rfl ?_
  refine mm_iconst (v := 0) d11_yearNow_2 (by decide +kernel) ?_
  refine mm_istore_n d11_yearNow_3 rfl rfl ?_
  refine mm_sub [(0, .ref v0), (1, .int 0), (2, .int 0)] ⟨rfl, rfl, rfl, trivial⟩ ?_
  exact ok11_yearNow_4 l hS  n h0 h
set_option maxHeartbeats 4000000 in
set_option maxRecDepth 100000 in
theorem ok11_change_29 (l : Launch) {S : mm_Sh} (hS : mm_WT S) {n : Nat}    {I : mm_I} {J : mm_J} {o : Int32 × mm_I × mm_J} (h : f11_change_29 S n  I J = some o) : mm_W l M11_change (mm_rm (mm_rk M11_change)) 0 0 S (mm_end S (mm_Qi o.1 o.2.1 o.2.2)) 29 [] [] I J := by
  unfold f11_change_29 at h
  refine mm_ldcw (v := (-1000000001)) d11_change_29 kX11_271 ?_
  have h := Option.some.inj h
  subst h
  exact mm_iret rfl d11_change_32 ⟨rfl, rfl, rfl⟩
set_option maxHeartbeats 4000000 in
set_option maxRecDepth 100000 in
theorem ok11_change_54 (l : Launch) {S : mm_Sh} (hS : mm_WT S) {n : Nat}    {I : mm_I} {J : mm_J} {o : Int32 × mm_I × mm_J} (h : f11_change_54 S n  I J = some o) : mm_W l M11_change (mm_rm (mm_rk M11_change)) 0 0 S (mm_end S (mm_Qi o.1 o.2.1 o.2.2)) 54 [] [] I J := by
  unfold f11_change_54 at h
  refine mm_ldcw (v := (-1000000001)) d11_change_54 kX11_271 ?_
  have h := Option.some.inj h
  subst h
  exact mm_iret rfl d11_change_57 ⟨rfl, rfl, rfl⟩
set_option maxHeartbeats 4000000 in
set_option maxRecDepth 100000 in
theorem ok11_change_58 (l : Launch) {S : mm_Sh} (hS : mm_WT S) {n : Nat}  {v0 : Nat} {v1 : Int32} {v2 : Int32} {v3 : Int32} {v4 : Int32} (h0 : mm_is S v0 11) {I : mm_I} {J : mm_J} {o : Int32 × mm_I × mm_J} (h : f11_change_58 S n v0 v1 v2 v3 v4 I J = some o) : mm_W l M11_change (mm_rm (mm_rk M11_change)) 0 0 S (mm_end S (mm_Qi o.1 o.2.1 o.2.2)) 58 [(0, .ref v0), (1, .int v1), (2, .int v2), (3, .int v3), (4, .int v4)] [] I J := by
  unfold f11_change_58 at h
  refine mm_aload_n d11_change_58 rfl ?_
  refine mm_iload_n d11_change_59 rfl ?_
  refine mm_iload_n d11_change_60 rfl ?_
  refine mm_iload_n d11_change_61 rfl ?_
  refine mm_iload d11_change_62 rfl ?_
  obtain ⟨o1, hk1, h⟩ := mm_bd h
  refine mm_cVi 11 (As := [.int v1, .int v2, .int v3, .int v4]) (ok11_changeNow l hS h0 hk1) lk_X11_297 rfl d11_change_64 (mm_room rfl rfl) rfl h0 rfl rfl ?_
  have h := Option.some.inj h
  subst h
  exact mm_iret rfl d11_change_67 ⟨rfl, rfl, rfl⟩
set_option maxHeartbeats 4000000 in
set_option maxRecDepth 100000 in
theorem ok11_change_33 (l : Launch) {S : mm_Sh} (hS : mm_WT S) {n : Nat}  {v0 : Nat} {v1 : Int32} {v2 : Int32} {v3 : Int32} {v4 : Int32} (h0 : mm_is S v0 11) {I : mm_I} {J : mm_J} {o : Int32 × mm_I × mm_J} (h : f11_change_33 S n v0 v1 v2 v3 v4 I J = some o) : mm_W l M11_change (mm_rm (mm_rk M11_change)) 0 0 S (mm_end S (mm_Qi o.1 o.2.1 o.2.2)) 33 [(0, .ref v0), (1, .int v1), (2, .int v2), (3, .int v3), (4, .int v4)] [] I J := by
  unfold f11_change_33 at h
  refine mm_iload d11_change_33 rfl ?_
  refine mm_iconst (v := (-1)) d11_change_35 (by decide +kernel) ?_
  refine mm_icmp_eq (tgt := 58) d11_change_36 (by decide) (fun hc1 => ?_) (fun hc1 => ?_)
  · rw [if_pos hc1] at h
    refine mm_sub [(0, .ref v0), (1, .int v1), (2, .int v2), (3, .int v3), (4, .int v4)] ⟨rfl, rfl, rfl, rfl, rfl, trivial⟩ ?_
    exact ok11_change_58 l hS  h0 h
  · rw [if_neg hc1] at h
    refine mm_aload_n d11_change_39 rfl ?_
    refine mm_iload d11_change_40 rfl ?_
    obtain ⟨o2, hk2, h⟩ := mm_bd h
    refine mm_cVi 11 (As := [.int v4]) (ok11_isPerson l hS h0 hk2) lk_X11_272 rfl d11_change_42 (mm_room rfl rfl) rfl h0 rfl rfl ?_
    refine mm_if_eq (tgt := 54) d11_change_45 (by decide) (fun hc3 => ?_) (fun hc3 => ?_)
    · rw [if_pos hc3] at h
      refine mm_sub [] trivial ?_
      exact ok11_change_54 l hS   h
    · rw [if_neg hc3] at h
      refine mm_iload d11_change_48 rfl ?_
      refine mm_iload_n d11_change_50 rfl ?_
      refine mm_icmp_ne (tgt := 58) d11_change_51 (by decide) (fun hc4 => ?_) (fun hc4 => ?_)
      · rw [if_neg hc4] at h
        refine mm_sub [(0, .ref v0), (1, .int v1), (2, .int v2), (3, .int v3), (4, .int v4)] ⟨rfl, rfl, rfl, rfl, rfl, trivial⟩ ?_
        exact ok11_change_58 l hS  h0 h
      · rw [if_pos hc4] at h
        refine mm_sub [] trivial ?_
        exact ok11_change_54 l hS   h
set_option maxHeartbeats 4000000 in
set_option maxRecDepth 100000 in
theorem ok11_change (l : Launch) {S : mm_Sh} (hS : mm_WT S) {n : Nat}  {v0 : Nat} {v1 : Int32} {v2 : Int32} {v3 : Int32} {v4 : Int32} (h0 : mm_is S v0 11) {I : mm_I} {J : mm_J} {o : Int32 × mm_I × mm_J} (h : f11_change S n v0 v1 v2 v3 v4 I J = some o) : mm_C l M11_change S [.ref v0, .int v1, .int v2, .int v3, .int v4] I J (mm_Qi o.1 o.2.1 o.2.2) := by
  unfold f11_change at h
  refine mm_enter rfl (by decide +kernel) rfl ?_
  refine mm_aload_n d11_change_0 rfl ?_
  refine mm_iload_n d11_change_1 rfl ?_
  obtain ⟨o1, hk1, h⟩ := mm_bd h
  refine mm_cVi 11 (As := [.int v1]) (ok11_isPerson l hS h0 hk1) lk_X11_272 rfl d11_change_2 (mm_room rfl rfl) rfl h0 rfl rfl ?_
  refine mm_if_eq (tgt := 29) d11_change_5 (by decide) (fun hc2 => ?_) (fun hc2 => ?_)
  · rw [if_pos hc2] at h
    refine mm_sub [] trivial ?_
    exact ok11_change_29 l hS   h
  · rw [if_neg hc2] at h
    refine mm_aload_n d11_change_8 rfl ?_
    refine mm_iload_n d11_change_9 rfl ?_
    obtain ⟨o3, hk3, h⟩ := mm_bd h
    refine mm_cVi 11 (As := [.int v2]) (ok11_isTrade l hS h0 hk3) lk_X11_267 rfl d11_change_10 (mm_room rfl rfl) rfl h0 rfl rfl ?_
    refine mm_if_eq (tgt := 29) d11_change_13 (by decide) (fun hc4 => ?_) (fun hc4 => ?_)
    · rw [if_pos hc4] at h
      refine mm_sub [] trivial ?_
      exact ok11_change_29 l hS   h
    · rw [if_neg hc4] at h
      refine mm_iload_n d11_change_16 rfl ?_
      refine mm_iconst (v := (-1)) d11_change_17 (by decide +kernel) ?_
      refine mm_icmp_eq (tgt := 33) d11_change_18 (by decide) (fun hc5 => ?_) (fun hc5 => ?_)
      · rw [if_pos hc5] at h
        refine mm_sub [(0, .ref v0), (1, .int v1), (2, .int v2), (3, .int v3), (4, .int v4)] ⟨rfl, rfl, rfl, rfl, rfl, trivial⟩ ?_
        exact ok11_change_33 l hS  h0 h
      · rw [if_neg hc5] at h
        refine mm_aload_n d11_change_21 rfl ?_
        refine mm_iload_n d11_change_22 rfl ?_
        obtain ⟨o6, hk6, h⟩ := mm_bd h
        refine mm_cVi 11 (As := [.int v3]) (ok11_isTrade l hS h0 hk6) lk_X11_267 rfl d11_change_23 (mm_room rfl rfl) rfl h0 rfl rfl ?_
        refine mm_if_ne (tgt := 33) d11_change_26 (by decide) (fun hc7 => ?_) (fun hc7 => ?_)
        · rw [if_neg hc7] at h
          refine mm_sub [(0, .ref v0), (1, .int v1), (2, .int v2), (3, .int v3), (4, .int v4)] ⟨rfl, rfl, rfl, rfl, rfl, trivial⟩ ?_
          exact ok11_change_33 l hS  h0 h
        · rw [if_pos hc7] at h
          refine mm_sub [] trivial ?_
          exact ok11_change_29 l hS   h
set_option maxHeartbeats 4000000 in
set_option maxRecDepth 100000 in
theorem ok11_changed_126 (l : Launch) {S : mm_Sh} (hS : mm_WT S) {n : Nat}  {rec55 : Nat → Int32 → Int32 → Int32 → Int32 → mm_I → mm_J → Option (Int32 × mm_I × mm_J)} (hrec55 : ∀ {v0 : Nat} {v1 : Int32} {v2 : Int32} {v3 : Int32} {v4 : Int32} (_ : mm_is S v0 11) {I : mm_I} {J : mm_J} {o : Int32 × mm_I × mm_J}, rec55 v0 v1 v2 v3 v4 I J = some o → mm_W l M11_changed (mm_rm (mm_rk M11_changed)) 0 0 S (mm_end S (mm_Qi o.1 o.2.1 o.2.2)) 55 [(0, .ref v0), (1, .int v1), (2, .int v2), (3, .int v3), (4, .int v4)] [] I J) {rec71 : Nat → Int32 → Int32 → Int32 → Int32 → Int32 → mm_I → mm_J → Option (Int32 × mm_I × mm_J)} (hrec71 : ∀ {v0 : Nat} {v1 : Int32} {v2 : Int32} {v3 : Int32} {v4 : Int32} {v5 : Int32} (_ : mm_is S v0 11) {I : mm_I} {J : mm_J} {o : Int32 × mm_I × mm_J}, rec71 v0 v1 v2 v3 v4 v5 I J = some o → mm_W l M11_changed (mm_rm (mm_rk M11_changed)) 0 0 S (mm_end S (mm_Qi o.1 o.2.1 o.2.2)) 71 [(0, .ref v0), (1, .int v1), (2, .int v2), (3, .int v3), (4, .int v4), (5, .int v5)] [] I J) {v0 : Nat} {v1 : Int32} {v2 : Int32} {v4 : Int32} {v5 : Int32} {s0 : Int32} (h0 : mm_is S v0 11) {I : mm_I} {J : mm_J} {o : Int32 × mm_I × mm_J} (h : f11_changed_126 S n rec55 rec71 v0 v1 v2 v4 v5 s0 I J = some o) : mm_W l M11_changed (mm_rm (mm_rk M11_changed)) 0 0 S (mm_end S (mm_Qi o.1 o.2.1 o.2.2)) 126 [(0, .ref v0), (1, .int v1), (2, .int v2), (4, .int v4), (5, .int v5)] [.int s0] I J := by
  unfold f11_changed_126 at h
  refine mm_istore_n d11_changed_126 rfl rfl ?_
  refine mm_iinc (v := v5 + (-1)) d11_changed_127 rfl rfl rfl rfl ?_
  refine mm_goto (tgt := 71) d11_changed_130 (by decide) ?_
  refine mm_sub [(0, .ref v0), (1, .int v1), (2, .int v2), (3, .int s0), (4, .int v4), (5, .int (v5 + (-1)))] ⟨rfl, rfl, rfl, rfl, rfl, rfl, trivial⟩ ?_
  exact hrec71 h0 h
set_option maxHeartbeats 4000000 in
set_option maxRecDepth 100000 in
theorem ok11_changed_125 (l : Launch) {S : mm_Sh} (hS : mm_WT S) {n : Nat}  {rec55 : Nat → Int32 → Int32 → Int32 → Int32 → mm_I → mm_J → Option (Int32 × mm_I × mm_J)} (hrec55 : ∀ {v0 : Nat} {v1 : Int32} {v2 : Int32} {v3 : Int32} {v4 : Int32} (_ : mm_is S v0 11) {I : mm_I} {J : mm_J} {o : Int32 × mm_I × mm_J}, rec55 v0 v1 v2 v3 v4 I J = some o → mm_W l M11_changed (mm_rm (mm_rk M11_changed)) 0 0 S (mm_end S (mm_Qi o.1 o.2.1 o.2.2)) 55 [(0, .ref v0), (1, .int v1), (2, .int v2), (3, .int v3), (4, .int v4)] [] I J) {rec71 : Nat → Int32 → Int32 → Int32 → Int32 → Int32 → mm_I → mm_J → Option (Int32 × mm_I × mm_J)} (hrec71 : ∀ {v0 : Nat} {v1 : Int32} {v2 : Int32} {v3 : Int32} {v4 : Int32} {v5 : Int32} (_ : mm_is S v0 11) {I : mm_I} {J : mm_J} {o : Int32 × mm_I × mm_J}, rec71 v0 v1 v2 v3 v4 v5 I J = some o → mm_W l M11_changed (mm_rm (mm_rk M11_changed)) 0 0 S (mm_end S (mm_Qi o.1 o.2.1 o.2.2)) 71 [(0, .ref v0), (1, .int v1), (2, .int v2), (3, .int v3), (4, .int v4), (5, .int v5)] [] I J) {v0 : Nat} {v1 : Int32} {v2 : Int32} {v3 : Int32} {v4 : Int32} {v5 : Int32} (h0 : mm_is S v0 11) {I : mm_I} {J : mm_J} {o : Int32 × mm_I × mm_J} (h : f11_changed_125 S n rec55 rec71 v0 v1 v2 v3 v4 v5 I J = some o) : mm_W l M11_changed (mm_rm (mm_rk M11_changed)) 0 0 S (mm_end S (mm_Qi o.1 o.2.1 o.2.2)) 125 [(0, .ref v0), (1, .int v1), (2, .int v2), (3, .int v3), (4, .int v4), (5, .int v5)] [] I J := by
  unfold f11_changed_125 at h
  refine mm_iload_n d11_changed_125 rfl ?_
  refine mm_sub [(0, .ref v0), (1, .int v1), (2, .int v2), (4, .int v4), (5, .int v5)] ⟨rfl, rfl, rfl, rfl, rfl, trivial⟩ ?_
  exact ok11_changed_126 l hS hrec55 hrec71 h0 h
set_option maxHeartbeats 4000000 in
set_option maxRecDepth 100000 in
theorem ok11_changed_148 (l : Launch) {S : mm_Sh} (hS : mm_WT S) {n : Nat}  {rec55 : Nat → Int32 → Int32 → Int32 → Int32 → mm_I → mm_J → Option (Int32 × mm_I × mm_J)} (hrec55 : ∀ {v0 : Nat} {v1 : Int32} {v2 : Int32} {v3 : Int32} {v4 : Int32} (_ : mm_is S v0 11) {I : mm_I} {J : mm_J} {o : Int32 × mm_I × mm_J}, rec55 v0 v1 v2 v3 v4 I J = some o → mm_W l M11_changed (mm_rm (mm_rk M11_changed)) 0 0 S (mm_end S (mm_Qi o.1 o.2.1 o.2.2)) 55 [(0, .ref v0), (1, .int v1), (2, .int v2), (3, .int v3), (4, .int v4)] [] I J) {v0 : Nat} {v1 : Int32} {v3 : Int32} {v4 : Int32} {s0 : Int32} {s1 : Int32} (h0 : mm_is S v0 11) {I : mm_I} {J : mm_J} {o : Int32 × mm_I × mm_J} (h : f11_changed_148 S n rec55 v0 v1 v3 v4 s0 s1 I J = some o) : mm_W l M11_changed (mm_rm (mm_rk M11_changed)) 0 0 S (mm_end S (mm_Qi o.1 o.2.1 o.2.2)) 148 [(0, .ref v0), (1, .int v1), (3, .int v3), (4, .int v4)] [.int s1, .int s0] I J := by
  unfold f11_changed_148 at h
  refine mm_isub d11_changed_148 ?_
  refine mm_istore_n d11_changed_149 rfl rfl ?_
  refine mm_iinc (v := v4 + 1) d11_changed_150 rfl rfl rfl rfl ?_
  refine mm_goto (tgt := 55) d11_changed_153 (by decide) ?_
  refine mm_sub [(0, .ref v0), (1, .int v1), (2, .int (s0 - s1)), (3, .int v3), (4, .int (v4 + 1))] ⟨rfl, rfl, rfl, rfl, rfl, trivial⟩ ?_
  exact hrec55 h0 h
set_option maxHeartbeats 4000000 in
set_option maxRecDepth 100000 in
theorem ok11_changed_71_b (l : Launch) {S : mm_Sh} (hS : mm_WT S) {n : Nat}  {rec55 : Nat → Int32 → Int32 → Int32 → Int32 → mm_I → mm_J → Option (Int32 × mm_I × mm_J)} (hrec55 : ∀ {v0 : Nat} {v1 : Int32} {v2 : Int32} {v3 : Int32} {v4 : Int32} (_ : mm_is S v0 11) {I : mm_I} {J : mm_J} {o : Int32 × mm_I × mm_J}, rec55 v0 v1 v2 v3 v4 I J = some o → mm_W l M11_changed (mm_rm (mm_rk M11_changed)) 0 0 S (mm_end S (mm_Qi o.1 o.2.1 o.2.2)) 55 [(0, .ref v0), (1, .int v1), (2, .int v2), (3, .int v3), (4, .int v4)] [] I J) {rec71 : Nat → Int32 → Int32 → Int32 → Int32 → Int32 → mm_I → mm_J → Option (Int32 × mm_I × mm_J)} (hrec71 : ∀ {v0 : Nat} {v1 : Int32} {v2 : Int32} {v3 : Int32} {v4 : Int32} {v5 : Int32} (_ : mm_is S v0 11) {I : mm_I} {J : mm_J} {o : Int32 × mm_I × mm_J}, rec71 v0 v1 v2 v3 v4 v5 I J = some o → mm_W l M11_changed (mm_rm (mm_rk M11_changed)) 0 0 S (mm_end S (mm_Qi o.1 o.2.1 o.2.2)) 71 [(0, .ref v0), (1, .int v1), (2, .int v2), (3, .int v3), (4, .int v4), (5, .int v5)] [] I J) {v0 : Nat} {v1 : Int32} {v2 : Int32} {v3 : Int32} {v4 : Int32} {v5 : Int32} (h0 : mm_is S v0 11) {I : mm_I} {J : mm_J} {o : Int32 × mm_I × mm_J} (h : f11_changed_71_b S n rec55 rec71 v0 v1 v2 v3 v4 v5 I J = some o) : mm_W l M11_changed (mm_rm (mm_rk M11_changed)) 0 0 S (mm_end S (mm_Qi o.1 o.2.1 o.2.2)) 71 [(0, .ref v0), (1, .int v1), (2, .int v2), (3, .int v3), (4, .int v4), (5, .int v5)] [] I J := by
  unfold f11_changed_71_b at h
  refine mm_iload d11_changed_71 rfl ?_
  refine mm_if_lt (tgt := 133) d11_changed_73 (by decide) (fun hc1 => ?_) (fun hc1 => ?_)
  · rw [if_pos hc1] at h
    refine mm_iload_n d11_changed_133 rfl ?_
    refine mm_iload_n d11_changed_134 rfl ?_
    refine mm_if_ge (tgt := 142) d11_changed_135 (by decide) (fun hc2 => ?_) (fun hc2 => ?_)
    · rw [if_pos hc2] at h
      refine mm_aload_n d11_changed_142 rfl ?_
      refine mm_getR fl_X11_99 d11_changed_143 (mm_wtR hS 50 h0 rfl rfl) ?_
      refine mm_iload_n d11_changed_146 rfl ?_
      obtain ⟨hb3, h⟩ := mm_gd h
      refine mm_iald d11_changed_147 (mm_wtA hS 43 0 h0 rfl rfl) (mm_inb_ok hb3) ?_
      refine mm_sub [(0, .ref v0), (1, .int v1), (3, .int v3), (4, .int v4)] ⟨rfl, rfl, rfl, rfl, trivial⟩ ?_
      exact ok11_changed_148 l hS hrec55 h0 h
    · rw [if_neg hc2] at h
      refine mm_iconst (v := 0) d11_changed_138 (by decide +kernel) ?_
      refine mm_goto (tgt := 148) d11_changed_139 (by decide) ?_
      refine mm_sub [(0, .ref v0), (1, .int v1), (3, .int v3), (4, .int v4)] ⟨rfl, rfl, rfl, rfl, trivial⟩ ?_
      exact ok11_changed_148 l hS hrec55 h0 h
  · rw [if_neg hc1] at h
    refine mm_aload_n d11_changed_76 rfl ?_
    refine mm_iload d11_changed_77 rfl ?_
    refine mm_iload_n d11_changed_79 rfl ?_
    refine mm_iload d11_changed_80 rfl ?_
    obtain ⟨o4, hk4, h⟩ := mm_bd h
    refine mm_cVi 11 (As := [.int v4, .int v2, .int v5]) (ok11_byGiving l hS h0 hk4) lk_X11_358 rfl d11_changed_82 (mm_room rfl rfl) rfl h0 rfl rfl ?_
    refine mm_aload_n d11_changed_85 rfl ?_
    refine mm_getR fl_X11_96 d11_changed_86 (mm_wtR hS 50 h0 rfl rfl) ?_
    refine mm_sipush (v := 256) d11_changed_89 (by decide +kernel) ?_
    refine mm_iload d11_changed_92 rfl ?_
    refine mm_imul d11_changed_94 ?_
    refine mm_iload_n d11_changed_95 rfl ?_
    refine mm_iadd d11_changed_96 ?_
    obtain ⟨hb5, h⟩ := mm_gd h
    refine mm_iald d11_changed_97 (mm_wtA hS 42 0 h0 rfl rfl) (mm_inb_ok hb5) ?_
    refine mm_icmp_ne (tgt := 125) d11_changed_98 (by decide) (fun hc6 => ?_) (fun hc6 => ?_)
    · rw [if_neg hc6] at h
      refine mm_sub [(0, .ref v0), (1, .int v1), (2, .int v2), (3, .int v3), (4, .int v4), (5, .int v5)] ⟨rfl, rfl, rfl, rfl, rfl, rfl, trivial⟩ ?_
      exact ok11_changed_125 l hS hrec55 hrec71 h0 h
    · rw [if_pos hc6] at h
      refine mm_aload_n d11_changed_101 rfl ?_
      refine mm_getR fl_X11_96 d11_changed_102 (mm_wtR hS 50 h0 rfl rfl) ?_
      refine mm_sipush (v := 256) d11_changed_105 (by decide +kernel) ?_
      refine mm_iload d11_changed_108 rfl ?_
      refine mm_imul d11_changed_110 ?_
      refine mm_iload_n d11_changed_111 rfl ?_
      refine mm_iadd d11_changed_112 ?_
      obtain ⟨hb7, h⟩ := mm_gd h
      refine mm_iald d11_changed_113 (mm_wtA hS 42 0 h0 rfl rfl) (mm_inb_ok hb7) ?_
      refine mm_ldcw (v := 1000000) d11_changed_114 kX11_354 ?_
      refine mm_icmp_ge (tgt := 125) d11_changed_117 (by decide) (fun hc8 => ?_) (fun hc8 => ?_)
      · rw [if_pos hc8] at h
        refine mm_sub [(0, .ref v0), (1, .int v1), (2, .int v2), (3, .int v3), (4, .int v4), (5, .int v5)] ⟨rfl, rfl, rfl, rfl, rfl, rfl, trivial⟩ ?_
        exact ok11_changed_125 l hS hrec55 hrec71 h0 h
      · rw [if_neg hc8] at h
        refine mm_iload d11_changed_120 rfl ?_
        refine mm_goto (tgt := 126) d11_changed_122 (by decide) ?_
        refine mm_sub [(0, .ref v0), (1, .int v1), (2, .int v2), (4, .int v4), (5, .int v5)] ⟨rfl, rfl, rfl, rfl, rfl, trivial⟩ ?_
        exact ok11_changed_126 l hS hrec55 hrec71 h0 h
set_option maxHeartbeats 4000000 in
set_option maxRecDepth 100000 in
theorem ok11_changed_71 (l : Launch) {S : mm_Sh} (hS : mm_WT S) {n : Nat}  {rec55 : Nat → Int32 → Int32 → Int32 → Int32 → mm_I → mm_J → Option (Int32 × mm_I × mm_J)} (hrec55 : ∀ {v0 : Nat} {v1 : Int32} {v2 : Int32} {v3 : Int32} {v4 : Int32} (_ : mm_is S v0 11) {I : mm_I} {J : mm_J} {o : Int32 × mm_I × mm_J}, rec55 v0 v1 v2 v3 v4 I J = some o → mm_W l M11_changed (mm_rm (mm_rk M11_changed)) 0 0 S (mm_end S (mm_Qi o.1 o.2.1 o.2.2)) 55 [(0, .ref v0), (1, .int v1), (2, .int v2), (3, .int v3), (4, .int v4)] [] I J) : ∀ (k : Nat) {v0 : Nat} {v1 : Int32} {v2 : Int32} {v3 : Int32} {v4 : Int32} {v5 : Int32} (h0 : mm_is S v0 11) {I : mm_I} {J : mm_J} {o : Int32 × mm_I × mm_J}, f11_changed_71 S n rec55 k v0 v1 v2 v3 v4 v5 I J = some o → mm_W l M11_changed (mm_rm (mm_rk M11_changed)) 0 0 S (mm_end S (mm_Qi o.1 o.2.1 o.2.2)) 71 [(0, .ref v0), (1, .int v1), (2, .int v2), (3, .int v3), (4, .int v4), (5, .int v5)] [] I J := by
  intro k
  induction k with
  | zero =>
    intros
    rename_i h
    cases h
  | succ k ih =>
    intro v0 v1 v2 v3 v4 v5 h0 I J o h
    exact ok11_changed_71_b l hS hrec55 (fun {v0 v1 v2 v3 v4 v5} h0 {I J o} h => ih h0 h) h0 h
set_option maxHeartbeats 4000000 in
set_option maxRecDepth 100000 in
theorem ok11_changed_55_b (l : Launch) {S : mm_Sh} (hS : mm_WT S) {n : Nat}  {rec55 : Nat → Int32 → Int32 → Int32 → Int32 → mm_I → mm_J → Option (Int32 × mm_I × mm_J)} (hrec55 : ∀ {v0 : Nat} {v1 : Int32} {v2 : Int32} {v3 : Int32} {v4 : Int32} (_ : mm_is S v0 11) {I : mm_I} {J : mm_J} {o : Int32 × mm_I × mm_J}, rec55 v0 v1 v2 v3 v4 I J = some o → mm_W l M11_changed (mm_rm (mm_rk M11_changed)) 0 0 S (mm_end S (mm_Qi o.1 o.2.1 o.2.2)) 55 [(0, .ref v0), (1, .int v1), (2, .int v2), (3, .int v3), (4, .int v4)] [] I J) {v0 : Nat} {v1 : Int32} {v2 : Int32} {v3 : Int32} {v4 : Int32} (h0 : mm_is S v0 11) {I : mm_I} {J : mm_J} {o : Int32 × mm_I × mm_J} (h : f11_changed_55_b S n rec55 v0 v1 v2 v3 v4 I J = some o) : mm_W l M11_changed (mm_rm (mm_rk M11_changed)) 0 0 S (mm_end S (mm_Qi o.1 o.2.1 o.2.2)) 55 [(0, .ref v0), (1, .int v1), (2, .int v2), (3, .int v3), (4, .int v4)] [] I J := by
  unfold f11_changed_55_b at h
  refine mm_iload d11_changed_55 rfl ?_
  refine mm_iload_n d11_changed_57 rfl ?_
  refine mm_icmp_gt (tgt := 156) d11_changed_58 (by decide) (fun hc1 => ?_) (fun hc1 => ?_)
  · rw [if_pos hc1] at h
    refine mm_iload_n d11_changed_156 rfl ?_
    have h := Option.some.inj h
    subst h
    exact mm_iret rfl d11_changed_157 ⟨rfl, rfl, rfl⟩
  · rw [if_neg hc1] at h
    refine mm_iconst (v := (-1)) d11_changed_61 (by decide +kernel) ?_
    refine mm_istore_n d11_changed_62 rfl rfl ?_
    refine mm_aload_n d11_changed_63 rfl ?_
    refine mm_getI fl_X11_133 d11_changed_64 (mm_wtI hS h0 rfl) ?_
    refine mm_iconst (v := 1) d11_changed_67 (by decide +kernel) ?_
    refine mm_isub d11_changed_68 ?_
    refine mm_istore d11_changed_69 rfl rfl ?_
    refine mm_sub [(0, .ref v0), (1, .int v1), (2, .int v2), (3, .int (-1)), (4, .int v4), (5, .int ((I v0 0) - 1))] ⟨rfl, rfl, rfl, rfl, rfl, rfl, trivial⟩ ?_
    exact ok11_changed_71 l hS hrec55 n h0 h
set_option maxHeartbeats 4000000 in
set_option maxRecDepth 100000 in
theorem ok11_changed_55 (l : Launch) {S : mm_Sh} (hS : mm_WT S) {n : Nat}  : ∀ (k : Nat) {v0 : Nat} {v1 : Int32} {v2 : Int32} {v3 : Int32} {v4 : Int32} (h0 : mm_is S v0 11) {I : mm_I} {J : mm_J} {o : Int32 × mm_I × mm_J}, f11_changed_55 S n k v0 v1 v2 v3 v4 I J = some o → mm_W l M11_changed (mm_rm (mm_rk M11_changed)) 0 0 S (mm_end S (mm_Qi o.1 o.2.1 o.2.2)) 55 [(0, .ref v0), (1, .int v1), (2, .int v2), (3, .int v3), (4, .int v4)] [] I J := by
  intro k
  induction k with
  | zero =>
    intros
    rename_i h
    cases h
  | succ k ih =>
    intro v0 v1 v2 v3 v4 h0 I J o h
    exact ok11_changed_55_b l hS (fun {v0 v1 v2 v3 v4} h0 {I J o} h => ih h0 h) h0 h
set_option maxHeartbeats 4000000 in
set_option maxRecDepth 100000 in
theorem ok11_changed_17 (l : Launch) {S : mm_Sh} (hS : mm_WT S) {n : Nat}  {v0 : Nat} {v1 : Int32} (h0 : mm_is S v0 11) {I : mm_I} {J : mm_J} {o : Int32 × mm_I × mm_J} (h : f11_changed_17 S n v0 v1 I J = some o) : mm_W l M11_changed (mm_rm (mm_rk M11_changed)) 0 0 S (mm_end S (mm_Qi o.1 o.2.1 o.2.2)) 17 [(0, .ref v0), (1, .int v1)] [] I J := by
  unfold f11_changed_17 at h
  refine mm_aload_n d11_changed_17 rfl ?_
  obtain ⟨o1, hk1, h⟩ := mm_bd h
  refine mm_cVi 11 (As := []) (ok11_findLeast l hS h0 hk1) lk_X11_365 rfl d11_changed_18 (mm_room rfl rfl) rfl h0 rfl rfl ?_
  refine mm_if_ne (tgt := 26) d11_changed_21 (by decide) (fun hc2 => ?_) (fun hc2 => ?_)
  · rw [if_neg hc2] at h
    refine mm_iload_n d11_changed_26 rfl ?_
    refine mm_iconst (v := (-1)) d11_changed_27 (by decide +kernel) ?_
    refine mm_icmp_ne (tgt := 43) d11_changed_28 (by decide) (fun hc3 => ?_) (fun hc3 => ?_)
    · rw [if_neg hc3] at h
      refine mm_aload_n d11_changed_43 rfl ?_
      refine mm_getI fl_X11_355 d11_changed_44 (mm_wtI hS h0 rfl) ?_
      refine mm_iconst (v := 1) d11_changed_47 (by decide +kernel) ?_
      refine mm_isub d11_changed_48 ?_
      refine mm_istore_n d11_changed_49 rfl rfl ?_
      refine mm_iconst (v := (-1)) d11_changed_50 (by decide +kernel) ?_
      refine mm_istore_n d11_changed_51 rfl rfl ?_
      refine mm_iconst (v := 0) d11_changed_52 (by decide +kernel) ?_
      refine mm_istore d11_changed_53 rfl rfl ?_
      refine mm_sub [(0, .ref v0), (1, .int v1), (2, .int ((o1.2.1 v0 44) - 1)), (3, .int (-1)), (4, .int 0)] ⟨rfl, rfl, rfl, rfl, rfl, trivial⟩ ?_
      exact ok11_changed_55 l hS  n h0 h
    · rw [if_pos hc3] at h
      refine mm_aload_n d11_changed_31 rfl ?_
      refine mm_getR fl_X11_96 d11_changed_32 (mm_wtR hS 50 h0 rfl rfl) ?_
      refine mm_aload_n d11_changed_35 rfl ?_
      refine mm_getI fl_X11_355 d11_changed_36 (mm_wtI hS h0 rfl) ?_
      refine mm_iconst (v := 1) d11_changed_39 (by decide +kernel) ?_
      refine mm_isub d11_changed_40 ?_
      obtain ⟨hb4, h⟩ := mm_gd h
      refine mm_iald d11_changed_41 (mm_wtA hS 42 0 h0 rfl rfl) (mm_inb_ok hb4) ?_
      have h := Option.some.inj h
      subst h
      exact mm_iret rfl d11_changed_42 ⟨rfl, rfl, rfl⟩
  · rw [if_pos hc2] at h
    refine mm_iconst (v := (-1)) d11_changed_24 (by decide +kernel) ?_
    have h := Option.some.inj h
    subst h
    exact mm_iret rfl d11_changed_25 ⟨rfl, rfl, rfl⟩
set_option maxHeartbeats 4000000 in
set_option maxRecDepth 100000 in
theorem ok11_changed (l : Launch) {S : mm_Sh} (hS : mm_WT S) {n : Nat}  {v0 : Nat} {v1 : Int32} (h0 : mm_is S v0 11) {I : mm_I} {J : mm_J} {o : Int32 × mm_I × mm_J} (h : f11_changed S n v0 v1 I J = some o) : mm_C l M11_changed S [.ref v0, .int v1] I J (mm_Qi o.1 o.2.1 o.2.2) := by
  unfold f11_changed at h
  refine mm_enter rfl (by decide +kernel) rfl ?_
  refine mm_iload_n d11_changed_0 rfl ?_
  refine mm_iconst (v := (-1)) d11_changed_1 (by decide +kernel) ?_
  refine mm_icmp_eq (tgt := 17) d11_changed_2 (by decide) (fun hc1 => ?_) (fun hc1 => ?_)
  · rw [if_pos hc1] at h
    refine mm_sub [(0, .ref v0), (1, .int v1)] ⟨rfl, rfl, trivial⟩ ?_
    exact ok11_changed_17 l hS  h0 h
  · rw [if_neg hc1] at h
    refine mm_aload_n d11_changed_5 rfl ?_
    refine mm_iload_n d11_changed_6 rfl ?_
    obtain ⟨o2, hk2, h⟩ := mm_bd h
    refine mm_cVi 11 (As := [.int v1]) (ok11_isPerson l hS h0 hk2) lk_X11_272 rfl d11_changed_7 (mm_room rfl rfl) rfl h0 rfl rfl ?_
    refine mm_if_ne (tgt := 17) d11_changed_10 (by decide) (fun hc3 => ?_) (fun hc3 => ?_)
    · rw [if_neg hc3] at h
      refine mm_sub [(0, .ref v0), (1, .int v1)] ⟨rfl, rfl, trivial⟩ ?_
      exact ok11_changed_17 l hS  h0 h
    · rw [if_pos hc3] at h
      refine mm_ldcw (v := (-1000000001)) d11_changed_13 kX11_271 ?_
      have h := Option.some.inj h
      subst h
      exact mm_iret rfl d11_changed_16 ⟨rfl, rfl, rfl⟩
set_option maxHeartbeats 4000000 in
set_option maxRecDepth 100000 in
theorem ok11_drawYear_77 (l : Launch) {S : mm_Sh} (hS : mm_WT S) {n : Nat}  {rec2 : Nat → Int32 → Int32 → mm_I → mm_J → Option (mm_I × mm_J)} (hrec2 : ∀ {v0 : Nat} {v1 : Int32} {v2 : Int32} (_ : mm_is S v0 11) {I : mm_I} {J : mm_J} {o : mm_I × mm_J}, rec2 v0 v1 v2 I J = some o → mm_W l M11_drawYear (mm_rm (mm_rk M11_drawYear)) 0 0 S (mm_end S (mm_Qv o.1 o.2)) 2 [(0, .ref v0), (1, .int v1), (2, .int v2)] [] I J) {v0 : Nat} {v1 : Int32} {v2 : Int32} (h0 : mm_is S v0 11) {I : mm_I} {J : mm_J} {o : mm_I × mm_J} (h : f11_drawYear_77 S n rec2 v0 v1 v2 I J = some o) : mm_W l M11_drawYear (mm_rm (mm_rk M11_drawYear)) 0 0 S (mm_end S (mm_Qv o.1 o.2)) 77 [(0, .ref v0), (1, .int v1), (2, .int v2)] [] I J := by
  unfold f11_drawYear_77 at h
  refine mm_iinc (v := v2 + 1) d11_drawYear_77 rfl rfl rfl rfl ?_
  refine mm_goto (tgt := 2) d11_drawYear_80 (by decide) ?_
  refine mm_sub [(0, .ref v0), (1, .int v1), (2, .int (v2 + 1))] ⟨rfl, rfl, rfl, trivial⟩ ?_
  exact hrec2 h0 h
set_option maxHeartbeats 4000000 in
set_option maxRecDepth 100000 in
theorem ok11_drawYear_71 (l : Launch) {S : mm_Sh} (hS : mm_WT S) {n : Nat}  {rec2 : Nat → Int32 → Int32 → mm_I → mm_J → Option (mm_I × mm_J)} (hrec2 : ∀ {v0 : Nat} {v1 : Int32} {v2 : Int32} (_ : mm_is S v0 11) {I : mm_I} {J : mm_J} {o : mm_I × mm_J}, rec2 v0 v1 v2 I J = some o → mm_W l M11_drawYear (mm_rm (mm_rk M11_drawYear)) 0 0 S (mm_end S (mm_Qv o.1 o.2)) 2 [(0, .ref v0), (1, .int v1), (2, .int v2)] [] I J) {v0 : Nat} {v1 : Int32} {v2 : Int32} {s0 : Nat} {s1 : Int32} {s2 : Int32} {s3 : Int32} (h0 : mm_is S v0 11) (g0 : mm_is S s0 11) {I : mm_I} {J : mm_J} {o : mm_I × mm_J} (h : f11_drawYear_71 S n rec2 v0 v1 v2 s0 s1 s2 s3 I J = some o) : mm_W l M11_drawYear (mm_rm (mm_rk M11_drawYear)) 0 0 S (mm_end S (mm_Qv o.1 o.2)) 71 [(0, .ref v0), (1, .int v1), (2, .int v2)] [.int s3, .int s2, .int s1, .ref s0] I J := by
  unfold f11_drawYear_71 at h
  refine mm_iconst (v := (-1)) d11_drawYear_71 (by decide +kernel) ?_
  obtain ⟨o1, hk1, h⟩ := mm_bd h
  refine mm_cVi 11 (As := [.int s1, .int s2, .int s3, .int (-1)]) (ok11_changeNow l hS g0 hk1) lk_X11_297 rfl d11_drawYear_72 (mm_room rfl rfl) rfl g0 rfl rfl ?_
  refine mm_istore d11_drawYear_75 rfl rfl ?_
  refine mm_sub [(0, .ref v0), (1, .int v1), (2, .int v2)] ⟨rfl, rfl, rfl, trivial⟩ ?_
  exact ok11_drawYear_77 l hS hrec2 h0 h
set_option maxHeartbeats 4000000 in
set_option maxRecDepth 100000 in
theorem ok11_drawYear_179 (l : Launch) {S : mm_Sh} (hS : mm_WT S) {n : Nat}  {rec90 : Nat → Int32 → Int32 → mm_I → mm_J → Option (mm_I × mm_J)} (hrec90 : ∀ {v0 : Nat} {v2 : Int32} {v3 : Int32} (_ : mm_is S v0 11) {I : mm_I} {J : mm_J} {o : mm_I × mm_J}, rec90 v0 v2 v3 I J = some o → mm_W l M11_drawYear (mm_rm (mm_rk M11_drawYear)) 0 0 S (mm_end S (mm_Qv o.1 o.2)) 90 [(0, .ref v0), (2, .int v2), (3, .int v3)] [] I J) {v0 : Nat} {v2 : Int32} {v3 : Int32} (h0 : mm_is S v0 11) {I : mm_I} {J : mm_J} {o : mm_I × mm_J} (h : f11_drawYear_179 S n rec90 v0 v2 v3 I J = some o) : mm_W l M11_drawYear (mm_rm (mm_rk M11_drawYear)) 0 0 S (mm_end S (mm_Qv o.1 o.2)) 179 [(0, .ref v0), (2, .int v2), (3, .int v3)] [] I J := by
  unfold f11_drawYear_179 at h
  refine mm_iinc (v := v3 + 1) d11_drawYear_179 rfl rfl rfl rfl ?_
  refine mm_goto (tgt := 90) d11_drawYear_182 (by decide) ?_
  refine mm_sub [(0, .ref v0), (2, .int v2), (3, .int (v3 + 1))] ⟨rfl, rfl, rfl, trivial⟩ ?_
  exact hrec90 h0 h
set_option maxHeartbeats 4000000 in
set_option maxRecDepth 100000 in
theorem ok11_drawYear_167 (l : Launch) {S : mm_Sh} (hS : mm_WT S) {n : Nat}  {rec90 : Nat → Int32 → Int32 → mm_I → mm_J → Option (mm_I × mm_J)} (hrec90 : ∀ {v0 : Nat} {v2 : Int32} {v3 : Int32} (_ : mm_is S v0 11) {I : mm_I} {J : mm_J} {o : mm_I × mm_J}, rec90 v0 v2 v3 I J = some o → mm_W l M11_drawYear (mm_rm (mm_rk M11_drawYear)) 0 0 S (mm_end S (mm_Qv o.1 o.2)) 90 [(0, .ref v0), (2, .int v2), (3, .int v3)] [] I J) {v0 : Nat} {v2 : Int32} {v3 : Int32} {s0 : Nat} {s1 : Int32} {s2 : Int32} (h0 : mm_is S v0 11) (g0 : S[s0]? = some (.inl (0, mm_al S s0))) {I : mm_I} {J : mm_J} {o : mm_I × mm_J} (h : f11_drawYear_167 S n rec90 v0 v2 v3 s0 s1 s2 I J = some o) : mm_W l M11_drawYear (mm_rm (mm_rk M11_drawYear)) 0 0 S (mm_end S (mm_Qv o.1 o.2)) 167 [(0, .ref v0), (2, .int v2), (3, .int v3)] [.int s2, .int s1, .ref s0] I J := by
  unfold f11_drawYear_167 at h
  obtain ⟨hb1, h⟩ := mm_gd h
  refine mm_iast d11_drawYear_167 g0 (mm_inb_ok hb1) ?_
  refine mm_aload_n d11_drawYear_168 rfl ?_
  refine mm_getR fl_X11_51 d11_drawYear_169 (mm_wtR hS 50 h0 rfl rfl) ?_
  refine mm_iload_n d11_drawYear_172 rfl ?_
  refine mm_aload_n d11_drawYear_173 rfl ?_
  refine mm_iload_n d11_drawYear_174 rfl ?_
  obtain ⟨o2, hk2, h⟩ := mm_bd h
  refine mm_cVi 11 (As := [.int v3]) (ok11_bestOf l hS h0 hk2) lk_X11_150 rfl d11_drawYear_175 (mm_room rfl rfl) rfl h0 rfl rfl ?_
  obtain ⟨hb3, h⟩ := mm_gd h
  refine mm_iast d11_drawYear_178 (mm_wtA hS 16 0 h0 rfl rfl) (mm_inb_ok hb3) ?_
  refine mm_sub [(0, .ref v0), (2, .int v2), (3, .int v3)] ⟨rfl, rfl, rfl, trivial⟩ ?_
  exact ok11_drawYear_179 l hS hrec90 h0 h
set_option maxHeartbeats 4000000 in
set_option maxRecDepth 100000 in
theorem ok11_drawYear_90_b (l : Launch) {S : mm_Sh} (hS : mm_WT S) {n : Nat}  {rec90 : Nat → Int32 → Int32 → mm_I → mm_J → Option (mm_I × mm_J)} (hrec90 : ∀ {v0 : Nat} {v2 : Int32} {v3 : Int32} (_ : mm_is S v0 11) {I : mm_I} {J : mm_J} {o : mm_I × mm_J}, rec90 v0 v2 v3 I J = some o → mm_W l M11_drawYear (mm_rm (mm_rk M11_drawYear)) 0 0 S (mm_end S (mm_Qv o.1 o.2)) 90 [(0, .ref v0), (2, .int v2), (3, .int v3)] [] I J) {v0 : Nat} {v2 : Int32} {v3 : Int32} (h0 : mm_is S v0 11) {I : mm_I} {J : mm_J} {o : mm_I × mm_J} (h : f11_drawYear_90_b S n rec90 v0 v2 v3 I J = some o) : mm_W l M11_drawYear (mm_rm (mm_rk M11_drawYear)) 0 0 S (mm_end S (mm_Qv o.1 o.2)) 90 [(0, .ref v0), (2, .int v2), (3, .int v3)] [] I J := by
  unfold f11_drawYear_90_b at h
  refine mm_iload_n d11_drawYear_90 rfl ?_
  refine mm_aload_n d11_drawYear_91 rfl ?_
  refine mm_getI fl_X11_140 d11_drawYear_92 (mm_wtI hS h0 rfl) ?_
  refine mm_icmp_ge (tgt := 185) d11_drawYear_95 (by decide) (fun hc1 => ?_) (fun hc1 => ?_)
  · rw [if_pos hc1] at h
    have h := Option.some.inj h
    subst h
    exact mm_vret rfl d11_drawYear_185 ⟨rfl, rfl, rfl⟩
  · rw [if_neg hc1] at h
    refine mm_iload_n d11_drawYear_98 rfl ?_
    refine mm_iload_n d11_drawYear_99 rfl ?_
    obtain ⟨o2, hk2, h⟩ := mm_bd h
    refine mm_cSi (As := [.int v2, .int v3]) (ok11_has l hS hk2) lk_X11_294 rfl d11_drawYear_100 (mm_room rfl rfl) rfl rfl ?_
    refine mm_if_eq (tgt := 179) d11_drawYear_103 (by decide) (fun hc3 => ?_) (fun hc3 => ?_)
    · rw [if_pos hc3] at h
      refine mm_sub [(0, .ref v0), (2, .int v2), (3, .int v3)] ⟨rfl, rfl, rfl, trivial⟩ ?_
      exact ok11_drawYear_179 l hS hrec90 h0 h
    · rw [if_neg hc3] at h
      refine mm_aload_n d11_drawYear_106 rfl ?_
      refine mm_aload_n d11_drawYear_107 rfl ?_
      refine mm_getI fl_X11_133 d11_drawYear_108 (mm_wtI hS h0 rfl) ?_
      obtain ⟨o4, hk4, h⟩ := mm_bd h
      refine mm_cVi 11 (As := [.int (I v0 0)]) (ok11_draw l hS h0 hk4) lk_X11_311 rfl d11_drawYear_111 (mm_room rfl rfl) rfl h0 rfl rfl ?_
      refine mm_istore d11_drawYear_114 rfl rfl ?_
      refine mm_aload_n d11_drawYear_116 rfl ?_
      refine mm_getR fl_X11_41 d11_drawYear_117 (mm_wtR hS 51 h0 rfl rfl) ?_
      refine mm_iload_n d11_drawYear_120 rfl ?_
      refine mm_iconst (v := 1) d11_drawYear_121 (by decide +kernel) ?_
      obtain ⟨hb5, h⟩ := mm_gd h
      refine mm_zast d11_drawYear_122 (mm_wtA hS 13 1 h0 rfl rfl) (mm_inb_ok hb5) (by decide) ?_
      refine mm_aload_n d11_drawYear_123 rfl ?_
      refine mm_getR fl_X11_38 d11_drawYear_124 (mm_wtR hS 50 h0 rfl rfl) ?_
      refine mm_iload_n d11_drawYear_127 rfl ?_
      refine mm_iconst (v := 0) d11_drawYear_128 (by decide +kernel) ?_
      obtain ⟨hb6, h⟩ := mm_gd h
      refine mm_iast d11_drawYear_129 (mm_wtA hS 12 0 h0 rfl rfl) (mm_inb_ok hb6) ?_
      refine mm_aload_n d11_drawYear_130 rfl ?_
      refine mm_getR fl_X11_63 d11_drawYear_131 (mm_wtR hS 50 h0 rfl rfl) ?_
      refine mm_iload_n d11_drawYear_134 rfl ?_
      refine mm_iconst (v := 0) d11_drawYear_135 (by decide +kernel) ?_
      obtain ⟨hb7, h⟩ := mm_gd h
      refine mm_iast d11_drawYear_136 (mm_wtA hS 20 0 h0 rfl rfl) (mm_inb_ok hb7) ?_
      refine mm_aload_n d11_drawYear_137 rfl ?_
      refine mm_getR fl_X11_45 d11_drawYear_138 (mm_wtR hS 50 h0 rfl rfl) ?_
      refine mm_bipush (v := 6) d11_drawYear_141 (by decide +kernel) ?_
      refine mm_iload_n d11_drawYear_143 rfl ?_
      refine mm_imul d11_drawYear_144 ?_
      refine mm_iload d11_drawYear_145 rfl ?_
      refine mm_iadd d11_drawYear_147 ?_
      refine mm_aload_n d11_drawYear_148 rfl ?_
      refine mm_getR fl_X11_7 d11_drawYear_149 (mm_wtR hS 50 h0 rfl rfl) ?_
      refine mm_iconst (v := 4) d11_drawYear_152 (by decide +kernel) ?_
      refine mm_iload d11_drawYear_153 rfl ?_
      refine mm_imul d11_drawYear_155 ?_
      obtain ⟨hb8, h⟩ := mm_gd h
      refine mm_iald d11_drawYear_156 (mm_wtA hS 1 0 h0 rfl rfl) (mm_inb_ok hb8) ?_
      refine mm_iconst (v := 3) d11_drawYear_157 (by decide +kernel) ?_
      refine mm_icmp_ne (tgt := 165) d11_drawYear_158 (by decide) (fun hc9 => ?_) (fun hc9 => ?_)
      · rw [if_neg hc9] at h
        refine mm_bipush (v := 50) d11_drawYear_165 (by decide +kernel) ?_
        refine mm_sub [(0, .ref v0), (2, .int v2), (3, .int v3)] ⟨rfl, rfl, rfl, trivial⟩ ?_
        exact ok11_drawYear_167 l hS hrec90 h0 (mm_wtA hS 14 0 h0 rfl rfl) h
      · rw [if_pos hc9] at h
        refine mm_iconst (v := 0) d11_drawYear_161 (by decide +kernel) ?_
        refine mm_goto (tgt := 167) d11_drawYear_162 (by decide) ?_
        refine mm_sub [(0, .ref v0), (2, .int v2), (3, .int v3)] ⟨rfl, rfl, rfl, trivial⟩ ?_
        exact ok11_drawYear_167 l hS hrec90 h0 (mm_wtA hS 14 0 h0 rfl rfl) h
set_option maxHeartbeats 4000000 in
set_option maxRecDepth 100000 in
theorem ok11_drawYear_90 (l : Launch) {S : mm_Sh} (hS : mm_WT S) {n : Nat}  : ∀ (k : Nat) {v0 : Nat} {v2 : Int32} {v3 : Int32} (h0 : mm_is S v0 11) {I : mm_I} {J : mm_J} {o : mm_I × mm_J}, f11_drawYear_90 S n k v0 v2 v3 I J = some o → mm_W l M11_drawYear (mm_rm (mm_rk M11_drawYear)) 0 0 S (mm_end S (mm_Qv o.1 o.2)) 90 [(0, .ref v0), (2, .int v2), (3, .int v3)] [] I J := by
  intro k
  induction k with
  | zero =>
    intros
    rename_i h
    cases h
  | succ k ih =>
    intro v0 v2 v3 h0 I J o h
    exact ok11_drawYear_90_b l hS (fun {v0 v2 v3} h0 {I J o} h => ih h0 h) h0 h
set_option maxHeartbeats 4000000 in
set_option maxRecDepth 100000 in
theorem ok11_drawYear_2_b (l : Launch) {S : mm_Sh} (hS : mm_WT S) {n : Nat}  {rec2 : Nat → Int32 → Int32 → mm_I → mm_J → Option (mm_I × mm_J)} (hrec2 : ∀ {v0 : Nat} {v1 : Int32} {v2 : Int32} (_ : mm_is S v0 11) {I : mm_I} {J : mm_J} {o : mm_I × mm_J}, rec2 v0 v1 v2 I J = some o → mm_W l M11_drawYear (mm_rm (mm_rk M11_drawYear)) 0 0 S (mm_end S (mm_Qv o.1 o.2)) 2 [(0, .ref v0), (1, .int v1), (2, .int v2)] [] I J) {v0 : Nat} {v1 : Int32} {v2 : Int32} (h0 : mm_is S v0 11) {I : mm_I} {J : mm_J} {o : mm_I × mm_J} (h : f11_drawYear_2_b S n rec2 v0 v1 v2 I J = some o) : mm_W l M11_drawYear (mm_rm (mm_rk M11_drawYear)) 0 0 S (mm_end S (mm_Qv o.1 o.2)) 2 [(0, .ref v0), (1, .int v1), (2, .int v2)] [] I J := by
  unfold f11_drawYear_2_b at h
  refine mm_iload_n d11_drawYear_2 rfl ?_
  refine mm_aload_n d11_drawYear_3 rfl ?_
  refine mm_getI fl_X11_140 d11_drawYear_4 (mm_wtI hS h0 rfl) ?_
  refine mm_icmp_ge (tgt := 83) d11_drawYear_7 (by decide) (fun hc1 => ?_) (fun hc1 => ?_)
  · rw [if_pos hc1] at h
    refine mm_aload_n d11_drawYear_83 rfl ?_
    obtain ⟨o2, hk2, h⟩ := mm_bd h
    refine mm_cVi 11 (As := []) (ok11_yearNow l hS h0 hk2) lk_X11_330 rfl d11_drawYear_84 (mm_room rfl rfl) rfl h0 rfl rfl ?_
    refine mm_istore_n d11_drawYear_87 rfl rfl ?_
    refine mm_iconst (v := 0) d11_drawYear_88 (by decide +kernel) ?_
    refine mm_istore_n d11_drawYear_89 rfl rfl ?_
    refine mm_sub [(0, .ref v0), (2, .int o2.1), (3, .int 0)] ⟨rfl, rfl, rfl, trivial⟩ ?_
    exact ok11_drawYear_90 l hS  n h0 h
  · rw [if_neg hc1] at h
    refine mm_aload_n d11_drawYear_10 rfl ?_
    refine mm_getR fl_X11_41 d11_drawYear_11 (mm_wtR hS 51 h0 rfl rfl) ?_
    refine mm_iload_n d11_drawYear_14 rfl ?_
    obtain ⟨hb3, h⟩ := mm_gd h
    refine mm_zald d11_drawYear_15 (mm_wtA hS 13 1 h0 rfl rfl) (mm_inb_ok hb3) ?_
    refine mm_if_eq (tgt := 77) d11_drawYear_16 (by decide) (fun hc4 => ?_) (fun hc4 => ?_)
    · rw [if_pos hc4] at h
      refine mm_sub [(0, .ref v0), (1, .int v1), (2, .int v2)] ⟨rfl, rfl, rfl, trivial⟩ ?_
      exact ok11_drawYear_77 l hS hrec2 h0 h
    · rw [if_neg hc4] at h
      refine mm_aload_n d11_drawYear_19 rfl ?_
      refine mm_getR fl_X11_54 d11_drawYear_20 (mm_wtR hS 50 h0 rfl rfl) ?_
      refine mm_iload_n d11_drawYear_23 rfl ?_
      obtain ⟨hb5, h⟩ := mm_gd h
      refine mm_iald d11_drawYear_24 (mm_wtA hS 17 0 h0 rfl rfl) (mm_inb_ok hb5) ?_
      refine mm_if_ge (tgt := 77) d11_drawYear_25 (by decide) (fun hc6 => ?_) (fun hc6 => ?_)
      · rw [if_pos hc6] at h
        refine mm_sub [(0, .ref v0), (1, .int v1), (2, .int v2)] ⟨rfl, rfl, rfl, trivial⟩ ?_
        exact ok11_drawYear_77 l hS hrec2 h0 h
      · rw [if_neg hc6] at h
        refine mm_aload_n d11_drawYear_28 rfl ?_
        refine mm_bipush (v := 100) d11_drawYear_29 (by decide +kernel) ?_
        obtain ⟨o7, hk7, h⟩ := mm_bd h
        refine mm_cVi 11 (As := [.int 100]) (ok11_draw l hS h0 hk7) lk_X11_311 rfl d11_drawYear_31 (mm_room rfl rfl) rfl h0 rfl rfl ?_
        refine mm_iload_n d11_drawYear_34 rfl ?_
        refine mm_icmp_ge (tgt := 77) d11_drawYear_35 (by decide) (fun hc8 => ?_) (fun hc8 => ?_)
        · rw [if_pos hc8] at h
          refine mm_sub [(0, .ref v0), (1, .int v1), (2, .int v2)] ⟨rfl, rfl, rfl, trivial⟩ ?_
          exact ok11_drawYear_77 l hS hrec2 h0 h
        · rw [if_neg hc8] at h
          refine mm_aload_n d11_drawYear_38 rfl ?_
          refine mm_aload_n d11_drawYear_39 rfl ?_
          refine mm_getI fl_X11_133 d11_drawYear_40 (mm_wtI hS h0 rfl) ?_
          obtain ⟨o9, hk9, h⟩ := mm_bd h
          refine mm_cVi 11 (As := [.int (o7.2.1 v0 0)]) (ok11_draw l hS h0 hk9) lk_X11_311 rfl d11_drawYear_43 (mm_room rfl rfl) rfl h0 rfl rfl ?_
          refine mm_istore_n d11_drawYear_46 rfl rfl ?_
          refine mm_aload_n d11_drawYear_47 rfl ?_
          refine mm_iload_n d11_drawYear_48 rfl ?_
          refine mm_iload_n d11_drawYear_49 rfl ?_
          refine mm_aload_n d11_drawYear_50 rfl ?_
          refine mm_iload_n d11_drawYear_51 rfl ?_
          obtain ⟨o10, hk10, h⟩ := mm_bd h
          refine mm_cVi 11 (As := [.int v2]) (ok11_knownMany l hS h0 hk10) lk_X11_281 rfl d11_drawYear_52 (mm_room rfl rfl) rfl h0 rfl rfl ?_
          refine mm_aload_n d11_drawYear_55 rfl ?_
          refine mm_getI fl_X11_22 d11_drawYear_56 (mm_wtI hS h0 rfl) ?_
          refine mm_icmp_ge (tgt := 66) d11_drawYear_59 (by decide) (fun hc11 => ?_) (fun hc11 => ?_)
          · rw [if_pos hc11] at h
            refine mm_aload_n d11_drawYear_66 rfl ?_
            refine mm_iload_n d11_drawYear_67 rfl ?_
            obtain ⟨o12, hk12, h⟩ := mm_bd h
            refine mm_cVi 11 (As := [.int v2]) (ok11_leastLiked l hS h0 hk12) lk_X11_333 rfl d11_drawYear_68 (mm_room rfl rfl) rfl h0 rfl rfl ?_
            refine mm_sub [(0, .ref v0), (1, .int v1), (2, .int v2)] ⟨rfl, rfl, rfl, trivial⟩ ?_
            exact ok11_drawYear_71 l hS hrec2 h0 h0 h
          · rw [if_neg hc11] at h
            refine mm_iconst (v := (-1)) d11_drawYear_62 (by decide +kernel) ?_
            refine mm_goto (tgt := 71) d11_drawYear_63 (by decide) ?_
            refine mm_sub [(0, .ref v0), (1, .int v1), (2, .int v2)] ⟨rfl, rfl, rfl, trivial⟩ ?_
            exact ok11_drawYear_71 l hS hrec2 h0 h0 h
set_option maxHeartbeats 4000000 in
set_option maxRecDepth 100000 in
theorem ok11_drawYear_2 (l : Launch) {S : mm_Sh} (hS : mm_WT S) {n : Nat}  : ∀ (k : Nat) {v0 : Nat} {v1 : Int32} {v2 : Int32} (h0 : mm_is S v0 11) {I : mm_I} {J : mm_J} {o : mm_I × mm_J}, f11_drawYear_2 S n k v0 v1 v2 I J = some o → mm_W l M11_drawYear (mm_rm (mm_rk M11_drawYear)) 0 0 S (mm_end S (mm_Qv o.1 o.2)) 2 [(0, .ref v0), (1, .int v1), (2, .int v2)] [] I J := by
  intro k
  induction k with
  | zero =>
    intros
    rename_i h
    cases h
  | succ k ih =>
    intro v0 v1 v2 h0 I J o h
    exact ok11_drawYear_2_b l hS (fun {v0 v1 v2} h0 {I J o} h => ih h0 h) h0 h
set_option maxHeartbeats 4000000 in
set_option maxRecDepth 100000 in
theorem ok11_drawYear (l : Launch) {S : mm_Sh} (hS : mm_WT S) {n : Nat}  {v0 : Nat} {v1 : Int32} (h0 : mm_is S v0 11) {I : mm_I} {J : mm_J} {o : mm_I × mm_J} (h : f11_drawYear S n v0 v1 I J = some o) : mm_C l M11_drawYear S [.ref v0, .int v1] I J (mm_Qv o.1 o.2) := by
  unfold f11_drawYear at h
  refine mm_enter rfl (by decide +kernel) rfl ?_
  refine mm_iconst (v := 0) d11_drawYear_0 (by decide +kernel) ?_
  refine mm_istore_n d11_drawYear_1 rfl rfl ?_
  refine mm_sub [(0, .ref v0), (1, .int v1), (2, .int 0)] ⟨rfl, rfl, rfl, trivial⟩ ?_
  exact ok11_drawYear_2 l hS  n h0 h
set_option maxHeartbeats 4000000 in
set_option maxRecDepth 100000 in
theorem ok11_findRing_95 (l : Launch) {S : mm_Sh} (hS : mm_WT S) {n : Nat}  {rec12 : Nat → Int32 → Int32 → Int32 → mm_I → mm_J → Option (Int32 × mm_I × mm_J)} (hrec12 : ∀ {v0 : Nat} {v1 : Int32} {v2 : Int32} {v3 : Int32} (_ : mm_is S v0 11) {I : mm_I} {J : mm_J} {o : Int32 × mm_I × mm_J}, rec12 v0 v1 v2 v3 I J = some o → mm_W l M11_findRing (mm_rm (mm_rk M11_findRing)) 0 0 S (mm_end S (mm_Qi o.1 o.2.1 o.2.2)) 12 [(0, .ref v0), (1, .int v1), (2, .int v2), (3, .int v3)] [] I J) {rec25 : Nat → Int32 → Int32 → Int32 → Int32 → mm_I → mm_J → Option (Int32 × mm_I × mm_J)} (hrec25 : ∀ {v0 : Nat} {v1 : Int32} {v2 : Int32} {v3 : Int32} {v4 : Int32} (_ : mm_is S v0 11) {I : mm_I} {J : mm_J} {o : Int32 × mm_I × mm_J}, rec25 v0 v1 v2 v3 v4 I J = some o → mm_W l M11_findRing (mm_rm (mm_rk M11_findRing)) 0 0 S (mm_end S (mm_Qi o.1 o.2.1 o.2.2)) 25 [(0, .ref v0), (1, .int v1), (2, .int v2), (3, .int v3), (4, .int v4)] [] I J) {v0 : Nat} {v1 : Int32} {v2 : Int32} {v3 : Int32} {v4 : Int32} (h0 : mm_is S v0 11) {I : mm_I} {J : mm_J} {o : Int32 × mm_I × mm_J} (h : f11_findRing_95 S n rec12 rec25 v0 v1 v2 v3 v4 I J = some o) : mm_W l M11_findRing (mm_rm (mm_rk M11_findRing)) 0 0 S (mm_end S (mm_Qi o.1 o.2.1 o.2.2)) 95 [(0, .ref v0), (1, .int v1), (2, .int v2), (3, .int v3), (4, .int v4)] [] I J := by
  unfold f11_findRing_95 at h
  refine mm_iinc (v := v4 + 1) d11_findRing_95 rfl rfl rfl rfl ?_
  refine mm_goto (tgt := 25) d11_findRing_98 (by decide) ?_
  refine mm_sub [(0, .ref v0), (1, .int v1), (2, .int v2), (3, .int v3), (4, .int (v4 + 1))] ⟨rfl, rfl, rfl, rfl, rfl, trivial⟩ ?_
  exact hrec25 h0 h
set_option maxHeartbeats 4000000 in
set_option maxRecDepth 100000 in
theorem ok11_findRing_69_b (l : Launch) {S : mm_Sh} (hS : mm_WT S) {n : Nat}  {rec12 : Nat → Int32 → Int32 → Int32 → mm_I → mm_J → Option (Int32 × mm_I × mm_J)} (hrec12 : ∀ {v0 : Nat} {v1 : Int32} {v2 : Int32} {v3 : Int32} (_ : mm_is S v0 11) {I : mm_I} {J : mm_J} {o : Int32 × mm_I × mm_J}, rec12 v0 v1 v2 v3 I J = some o → mm_W l M11_findRing (mm_rm (mm_rk M11_findRing)) 0 0 S (mm_end S (mm_Qi o.1 o.2.1 o.2.2)) 12 [(0, .ref v0), (1, .int v1), (2, .int v2), (3, .int v3)] [] I J) {rec25 : Nat → Int32 → Int32 → Int32 → Int32 → mm_I → mm_J → Option (Int32 × mm_I × mm_J)} (hrec25 : ∀ {v0 : Nat} {v1 : Int32} {v2 : Int32} {v3 : Int32} {v4 : Int32} (_ : mm_is S v0 11) {I : mm_I} {J : mm_J} {o : Int32 × mm_I × mm_J}, rec25 v0 v1 v2 v3 v4 I J = some o → mm_W l M11_findRing (mm_rm (mm_rk M11_findRing)) 0 0 S (mm_end S (mm_Qi o.1 o.2.1 o.2.2)) 25 [(0, .ref v0), (1, .int v1), (2, .int v2), (3, .int v3), (4, .int v4)] [] I J) {rec69 : Nat → Int32 → Int32 → Int32 → Int32 → Int32 → mm_I → mm_J → Option (Int32 × mm_I × mm_J)} (hrec69 : ∀ {v0 : Nat} {v1 : Int32} {v2 : Int32} {v3 : Int32} {v4 : Int32} {v6 : Int32} (_ : mm_is S v0 11) {I : mm_I} {J : mm_J} {o : Int32 × mm_I × mm_J}, rec69 v0 v1 v2 v3 v4 v6 I J = some o → mm_W l M11_findRing (mm_rm (mm_rk M11_findRing)) 0 0 S (mm_end S (mm_Qi o.1 o.2.1 o.2.2)) 69 [(0, .ref v0), (1, .int v1), (2, .int v2), (3, .int v3), (4, .int v4), (6, .int v6)] [] I J) {v0 : Nat} {v1 : Int32} {v2 : Int32} {v3 : Int32} {v4 : Int32} {v6 : Int32} (h0 : mm_is S v0 11) {I : mm_I} {J : mm_J} {o : Int32 × mm_I × mm_J} (h : f11_findRing_69_b S n rec12 rec25 rec69 v0 v1 v2 v3 v4 v6 I J = some o) : mm_W l M11_findRing (mm_rm (mm_rk M11_findRing)) 0 0 S (mm_end S (mm_Qi o.1 o.2.1 o.2.2)) 69 [(0, .ref v0), (1, .int v1), (2, .int v2), (3, .int v3), (4, .int v4), (6, .int v6)] [] I J := by
  unfold f11_findRing_69_b at h
  refine mm_iload d11_findRing_69 rfl ?_
  refine mm_iload_n d11_findRing_71 rfl ?_
  refine mm_icmp_ge (tgt := 95) d11_findRing_72 (by decide) (fun hc1 => ?_) (fun hc1 => ?_)
  · rw [if_pos hc1] at h
    refine mm_sub [(0, .ref v0), (1, .int v1), (2, .int v2), (3, .int v3), (4, .int v4)] ⟨rfl, rfl, rfl, rfl, rfl, trivial⟩ ?_
    exact ok11_findRing_95 l hS hrec12 hrec25 h0 h
  · rw [if_neg hc1] at h
    refine mm_aload_n d11_findRing_75 rfl ?_
    refine mm_getR fl_X11_105 d11_findRing_76 (mm_wtR hS 50 h0 rfl rfl) ?_
    refine mm_iload d11_findRing_79 rfl ?_
    refine mm_aload_n d11_findRing_81 rfl ?_
    refine mm_getR fl_X11_102 d11_findRing_82 (mm_wtR hS 50 h0 rfl rfl) ?_
    refine mm_iload d11_findRing_85 rfl ?_
    obtain ⟨hb2, h⟩ := mm_gd h
    refine mm_iald d11_findRing_87 (mm_wtA hS 45 0 h0 rfl rfl) (mm_inb_ok hb2) ?_
    obtain ⟨hb3, h⟩ := mm_gd h
    refine mm_iast d11_findRing_88 (mm_wtA hS 46 0 h0 rfl rfl) (mm_inb_ok hb3) ?_
    refine mm_iinc (v := v6 + 1) d11_findRing_89 rfl rfl rfl rfl ?_
    refine mm_goto (tgt := 69) d11_findRing_92 (by decide) ?_
    refine mm_sub [(0, .ref v0), (1, .int v1), (2, .int v2), (3, .int v3), (4, .int v4), (6, .int (v6 + 1))] ⟨rfl, rfl, rfl, rfl, rfl, rfl, trivial⟩ ?_
    exact hrec69 h0 h
set_option maxHeartbeats 4000000 in
set_option maxRecDepth 100000 in
theorem ok11_findRing_69 (l : Launch) {S : mm_Sh} (hS : mm_WT S) {n : Nat}  {rec12 : Nat → Int32 → Int32 → Int32 → mm_I → mm_J → Option (Int32 × mm_I × mm_J)} (hrec12 : ∀ {v0 : Nat} {v1 : Int32} {v2 : Int32} {v3 : Int32} (_ : mm_is S v0 11) {I : mm_I} {J : mm_J} {o : Int32 × mm_I × mm_J}, rec12 v0 v1 v2 v3 I J = some o → mm_W l M11_findRing (mm_rm (mm_rk M11_findRing)) 0 0 S (mm_end S (mm_Qi o.1 o.2.1 o.2.2)) 12 [(0, .ref v0), (1, .int v1), (2, .int v2), (3, .int v3)] [] I J) {rec25 : Nat → Int32 → Int32 → Int32 → Int32 → mm_I → mm_J → Option (Int32 × mm_I × mm_J)} (hrec25 : ∀ {v0 : Nat} {v1 : Int32} {v2 : Int32} {v3 : Int32} {v4 : Int32} (_ : mm_is S v0 11) {I : mm_I} {J : mm_J} {o : Int32 × mm_I × mm_J}, rec25 v0 v1 v2 v3 v4 I J = some o → mm_W l M11_findRing (mm_rm (mm_rk M11_findRing)) 0 0 S (mm_end S (mm_Qi o.1 o.2.1 o.2.2)) 25 [(0, .ref v0), (1, .int v1), (2, .int v2), (3, .int v3), (4, .int v4)] [] I J) : ∀ (k : Nat) {v0 : Nat} {v1 : Int32} {v2 : Int32} {v3 : Int32} {v4 : Int32} {v6 : Int32} (h0 : mm_is S v0 11) {I : mm_I} {J : mm_J} {o : Int32 × mm_I × mm_J}, f11_findRing_69 S n rec12 rec25 k v0 v1 v2 v3 v4 v6 I J = some o → mm_W l M11_findRing (mm_rm (mm_rk M11_findRing)) 0 0 S (mm_end S (mm_Qi o.1 o.2.1 o.2.2)) 69 [(0, .ref v0), (1, .int v1), (2, .int v2), (3, .int v3), (4, .int v4), (6, .int v6)] [] I J := by
  intro k
  induction k with
  | zero =>
    intros
    rename_i h
    cases h
  | succ k ih =>
    intro v0 v1 v2 v3 v4 v6 h0 I J o h
    exact ok11_findRing_69_b l hS hrec12 hrec25 (fun {v0 v1 v2 v3 v4 v6} h0 {I J o} h => ih h0 h) h0 h
set_option maxHeartbeats 4000000 in
set_option maxRecDepth 100000 in
theorem ok11_findRing_50 (l : Launch) {S : mm_Sh} (hS : mm_WT S) {n : Nat}  {rec12 : Nat → Int32 → Int32 → Int32 → mm_I → mm_J → Option (Int32 × mm_I × mm_J)} (hrec12 : ∀ {v0 : Nat} {v1 : Int32} {v2 : Int32} {v3 : Int32} (_ : mm_is S v0 11) {I : mm_I} {J : mm_J} {o : Int32 × mm_I × mm_J}, rec12 v0 v1 v2 v3 I J = some o → mm_W l M11_findRing (mm_rm (mm_rk M11_findRing)) 0 0 S (mm_end S (mm_Qi o.1 o.2.1 o.2.2)) 12 [(0, .ref v0), (1, .int v1), (2, .int v2), (3, .int v3)] [] I J) {rec25 : Nat → Int32 → Int32 → Int32 → Int32 → mm_I → mm_J → Option (Int32 × mm_I × mm_J)} (hrec25 : ∀ {v0 : Nat} {v1 : Int32} {v2 : Int32} {v3 : Int32} {v4 : Int32} (_ : mm_is S v0 11) {I : mm_I} {J : mm_J} {o : Int32 × mm_I × mm_J}, rec25 v0 v1 v2 v3 v4 I J = some o → mm_W l M11_findRing (mm_rm (mm_rk M11_findRing)) 0 0 S (mm_end S (mm_Qi o.1 o.2.1 o.2.2)) 25 [(0, .ref v0), (1, .int v1), (2, .int v2), (3, .int v3), (4, .int v4)] [] I J) {v0 : Nat} {v1 : Int32} {v2 : Int32} {v3 : Int32} {v4 : Int32} {s0 : Int32} (h0 : mm_is S v0 11) {I : mm_I} {J : mm_J} {o : Int32 × mm_I × mm_J} (h : f11_findRing_50 S n rec12 rec25 v0 v1 v2 v3 v4 s0 I J = some o) : mm_W l M11_findRing (mm_rm (mm_rk M11_findRing)) 0 0 S (mm_end S (mm_Qi o.1 o.2.1 o.2.2)) 50 [(0, .ref v0), (1, .int v1), (2, .int v2), (3, .int v3), (4, .int v4)] [.int s0] I J := by
  unfold f11_findRing_50 at h
  refine mm_istore d11_findRing_50 rfl rfl ?_
  refine mm_iload d11_findRing_52 rfl ?_
  refine mm_iload_n d11_findRing_54 rfl ?_
  refine mm_icmp_le (tgt := 95) d11_findRing_55 (by decide) (fun hc1 => ?_) (fun hc1 => ?_)
  · rw [if_pos hc1] at h
    refine mm_sub [(0, .ref v0), (1, .int v1), (2, .int v2), (3, .int v3), (4, .int v4)] ⟨rfl, rfl, rfl, rfl, rfl, trivial⟩ ?_
    exact ok11_findRing_95 l hS hrec12 hrec25 h0 h
  · rw [if_neg hc1] at h
    refine mm_iload d11_findRing_58 rfl ?_
    refine mm_istore_n d11_findRing_60 rfl rfl ?_
    refine mm_aload_n d11_findRing_61 rfl ?_
    refine mm_iload_n d11_findRing_62 rfl ?_
    refine mm_putI fp_X11_375 d11_findRing_63 (mm_wtI hS h0 rfl) ?_
    refine mm_iconst (v := 0) d11_findRing_66 (by decide +kernel) ?_
    refine mm_istore d11_findRing_67 rfl rfl ?_
    refine mm_sub [(0, .ref v0), (1, .int s0), (2, .int v2), (3, .int v3), (4, .int v4), (6, .int 0)] ⟨rfl, rfl, rfl, rfl, rfl, rfl, trivial⟩ ?_
    exact ok11_findRing_69 l hS hrec12 hrec25 n h0 h
set_option maxHeartbeats 4000000 in
set_option maxRecDepth 100000 in
theorem ok11_findRing_25_b (l : Launch) {S : mm_Sh} (hS : mm_WT S) {n : Nat}  {rec12 : Nat → Int32 → Int32 → Int32 → mm_I → mm_J → Option (Int32 × mm_I × mm_J)} (hrec12 : ∀ {v0 : Nat} {v1 : Int32} {v2 : Int32} {v3 : Int32} (_ : mm_is S v0 11) {I : mm_I} {J : mm_J} {o : Int32 × mm_I × mm_J}, rec12 v0 v1 v2 v3 I J = some o → mm_W l M11_findRing (mm_rm (mm_rk M11_findRing)) 0 0 S (mm_end S (mm_Qi o.1 o.2.1 o.2.2)) 12 [(0, .ref v0), (1, .int v1), (2, .int v2), (3, .int v3)] [] I J) {rec25 : Nat → Int32 → Int32 → Int32 → Int32 → mm_I → mm_J → Option (Int32 × mm_I × mm_J)} (hrec25 : ∀ {v0 : Nat} {v1 : Int32} {v2 : Int32} {v3 : Int32} {v4 : Int32} (_ : mm_is S v0 11) {I : mm_I} {J : mm_J} {o : Int32 × mm_I × mm_J}, rec25 v0 v1 v2 v3 v4 I J = some o → mm_W l M11_findRing (mm_rm (mm_rk M11_findRing)) 0 0 S (mm_end S (mm_Qi o.1 o.2.1 o.2.2)) 25 [(0, .ref v0), (1, .int v1), (2, .int v2), (3, .int v3), (4, .int v4)] [] I J) {v0 : Nat} {v1 : Int32} {v2 : Int32} {v3 : Int32} {v4 : Int32} (h0 : mm_is S v0 11) {I : mm_I} {J : mm_J} {o : Int32 × mm_I × mm_J} (h : f11_findRing_25_b S n rec12 rec25 v0 v1 v2 v3 v4 I J = some o) : mm_W l M11_findRing (mm_rm (mm_rk M11_findRing)) 0 0 S (mm_end S (mm_Qi o.1 o.2.1 o.2.2)) 25 [(0, .ref v0), (1, .int v1), (2, .int v2), (3, .int v3), (4, .int v4)] [] I J := by
  unfold f11_findRing_25_b at h
  refine mm_iload d11_findRing_25 rfl ?_
  refine mm_iload_n d11_findRing_27 rfl ?_
  refine mm_icmp_ge (tgt := 101) d11_findRing_28 (by decide) (fun hc1 => ?_) (fun hc1 => ?_)
  · rw [if_pos hc1] at h
    refine mm_iinc (v := v3 + 1) d11_findRing_101 rfl rfl rfl rfl ?_
    refine mm_goto (tgt := 12) d11_findRing_104 (by decide) ?_
    refine mm_sub [(0, .ref v0), (1, .int v1), (2, .int v2), (3, .int (v3 + 1))] ⟨rfl, rfl, rfl, rfl, trivial⟩ ?_
    exact hrec12 h0 h
  · rw [if_neg hc1] at h
    refine mm_aload_n d11_findRing_31 rfl ?_
    refine mm_iload d11_findRing_32 rfl ?_
    refine mm_iload_n d11_findRing_34 rfl ?_
    obtain ⟨o2, hk2, h⟩ := mm_bd h
    refine mm_cVi 11 (As := [.int v4, .int v3]) (ok11_isRing l hS h0 hk2) lk_X11_378 rfl d11_findRing_35 (mm_room rfl rfl) rfl h0 rfl rfl ?_
    refine mm_if_eq (tgt := 49) d11_findRing_38 (by decide) (fun hc3 => ?_) (fun hc3 => ?_)
    · rw [if_pos hc3] at h
      refine mm_iconst (v := 0) d11_findRing_49 (by decide +kernel) ?_
      refine mm_sub [(0, .ref v0), (1, .int v1), (2, .int v2), (3, .int v3), (4, .int v4)] ⟨rfl, rfl, rfl, rfl, rfl, trivial⟩ ?_
      exact ok11_findRing_50 l hS hrec12 hrec25 h0 h
    · rw [if_neg hc3] at h
      refine mm_aload_n d11_findRing_41 rfl ?_
      refine mm_iload_n d11_findRing_42 rfl ?_
      obtain ⟨o4, hk4, h⟩ := mm_bd h
      refine mm_cVi 11 (As := [.int v3]) (ok11_ringSum l hS h0 hk4) lk_X11_381 rfl d11_findRing_43 (mm_room rfl rfl) rfl h0 rfl rfl ?_
      refine mm_goto (tgt := 50) d11_findRing_46 (by decide) ?_
      refine mm_sub [(0, .ref v0), (1, .int v1), (2, .int v2), (3, .int v3), (4, .int v4)] ⟨rfl, rfl, rfl, rfl, rfl, trivial⟩ ?_
      exact ok11_findRing_50 l hS hrec12 hrec25 h0 h
set_option maxHeartbeats 4000000 in
set_option maxRecDepth 100000 in
theorem ok11_findRing_25 (l : Launch) {S : mm_Sh} (hS : mm_WT S) {n : Nat}  {rec12 : Nat → Int32 → Int32 → Int32 → mm_I → mm_J → Option (Int32 × mm_I × mm_J)} (hrec12 : ∀ {v0 : Nat} {v1 : Int32} {v2 : Int32} {v3 : Int32} (_ : mm_is S v0 11) {I : mm_I} {J : mm_J} {o : Int32 × mm_I × mm_J}, rec12 v0 v1 v2 v3 I J = some o → mm_W l M11_findRing (mm_rm (mm_rk M11_findRing)) 0 0 S (mm_end S (mm_Qi o.1 o.2.1 o.2.2)) 12 [(0, .ref v0), (1, .int v1), (2, .int v2), (3, .int v3)] [] I J) : ∀ (k : Nat) {v0 : Nat} {v1 : Int32} {v2 : Int32} {v3 : Int32} {v4 : Int32} (h0 : mm_is S v0 11) {I : mm_I} {J : mm_J} {o : Int32 × mm_I × mm_J}, f11_findRing_25 S n rec12 k v0 v1 v2 v3 v4 I J = some o → mm_W l M11_findRing (mm_rm (mm_rk M11_findRing)) 0 0 S (mm_end S (mm_Qi o.1 o.2.1 o.2.2)) 25 [(0, .ref v0), (1, .int v1), (2, .int v2), (3, .int v3), (4, .int v4)] [] I J := by
  intro k
  induction k with
  | zero =>
    intros
    rename_i h
    cases h
  | succ k ih =>
    intro v0 v1 v2 v3 v4 h0 I J o h
    exact ok11_findRing_25_b l hS hrec12 (fun {v0 v1 v2 v3 v4} h0 {I J o} h => ih h0 h) h0 h
set_option maxHeartbeats 4000000 in
set_option maxRecDepth 100000 in
theorem ok11_findRing_12_b (l : Launch) {S : mm_Sh} (hS : mm_WT S) {n : Nat}  {rec12 : Nat → Int32 → Int32 → Int32 → mm_I → mm_J → Option (Int32 × mm_I × mm_J)} (hrec12 : ∀ {v0 : Nat} {v1 : Int32} {v2 : Int32} {v3 : Int32} (_ : mm_is S v0 11) {I : mm_I} {J : mm_J} {o : Int32 × mm_I × mm_J}, rec12 v0 v1 v2 v3 I J = some o → mm_W l M11_findRing (mm_rm (mm_rk M11_findRing)) 0 0 S (mm_end S (mm_Qi o.1 o.2.1 o.2.2)) 12 [(0, .ref v0), (1, .int v1), (2, .int v2), (3, .int v3)] [] I J) {v0 : Nat} {v1 : Int32} {v2 : Int32} {v3 : Int32} (h0 : mm_is S v0 11) {I : mm_I} {J : mm_J} {o : Int32 × mm_I × mm_J} (h : f11_findRing_12_b S n rec12 v0 v1 v2 v3 I J = some o) : mm_W l M11_findRing (mm_rm (mm_rk M11_findRing)) 0 0 S (mm_end S (mm_Qi o.1 o.2.1 o.2.2)) 12 [(0, .ref v0), (1, .int v1), (2, .int v2), (3, .int v3)] [] I J := by
  unfold f11_findRing_12_b at h
  refine mm_iload_n d11_findRing_12 rfl ?_
  refine mm_iconst (v := 4) d11_findRing_13 (by decide +kernel) ?_
  refine mm_icmp_gt (tgt := 107) d11_findRing_14 (by decide) (fun hc1 => ?_) (fun hc1 => ?_)
  · rw [if_pos hc1] at h
    refine mm_iload_n d11_findRing_107 rfl ?_
    have h := Option.some.inj h
    subst h
    exact mm_iret rfl d11_findRing_108 ⟨rfl, rfl, rfl⟩
  · rw [if_neg hc1] at h
    refine mm_iload_n d11_findRing_17 rfl ?_
    refine mm_bipush (v := 8) d11_findRing_18 (by decide +kernel) ?_
    refine mm_imul d11_findRing_20 ?_
    refine mm_istore_n d11_findRing_21 rfl rfl ?_
    refine mm_iconst (v := 0) d11_findRing_22 (by decide +kernel) ?_
    refine mm_istore d11_findRing_23 rfl rfl ?_
    refine mm_sub [(0, .ref v0), (1, .int v1), (2, .int (v2 * 8)), (3, .int v3), (4, .int 0)] ⟨rfl, rfl, rfl, rfl, rfl, trivial⟩ ?_
    exact ok11_findRing_25 l hS hrec12 n h0 h
set_option maxHeartbeats 4000000 in
set_option maxRecDepth 100000 in
theorem ok11_findRing_12 (l : Launch) {S : mm_Sh} (hS : mm_WT S) {n : Nat}  : ∀ (k : Nat) {v0 : Nat} {v1 : Int32} {v2 : Int32} {v3 : Int32} (h0 : mm_is S v0 11) {I : mm_I} {J : mm_J} {o : Int32 × mm_I × mm_J}, f11_findRing_12 S n k v0 v1 v2 v3 I J = some o → mm_W l M11_findRing (mm_rm (mm_rk M11_findRing)) 0 0 S (mm_end S (mm_Qi o.1 o.2.1 o.2.2)) 12 [(0, .ref v0), (1, .int v1), (2, .int v2), (3, .int v3)] [] I J := by
  intro k
  induction k with
  | zero =>
    intros
    rename_i h
    cases h
  | succ k ih =>
    intro v0 v1 v2 v3 h0 I J o h
    exact ok11_findRing_12_b l hS (fun {v0 v1 v2 v3} h0 {I J o} h => ih h0 h) h0 h
set_option maxHeartbeats 4000000 in
set_option maxRecDepth 100000 in
theorem ok11_findRing (l : Launch) {S : mm_Sh} (hS : mm_WT S) {n : Nat}  {v0 : Nat} (h0 : mm_is S v0 11) {I : mm_I} {J : mm_J} {o : Int32 × mm_I × mm_J} (h : f11_findRing S n v0 I J = some o) : mm_C l M11_findRing S [.ref v0] I J (mm_Qi o.1 o.2.1 o.2.2) := by
  unfold f11_findRing at h
  refine mm_enter rfl (by decide +kernel) rfl ?_
  refine mm_iconst (v := 0) d11_findRing_0 (by decide +kernel) ?_
  refine mm_istore_n d11_findRing_1 rfl rfl ?_
  refine mm_aload_n d11_findRing_2 rfl ?_
  refine mm_iconst (v := 0) d11_findRing_3 (by decide +kernel) ?_
  refine mm_putI fp_X11_375 d11_findRing_4 (mm_wtI hS h0 rfl) ?_
  refine mm_bipush (v := 8) d11_findRing_7 (by decide +kernel) ?_
  refine mm_istore_n d11_findRing_9 rfl rfl ?_
  refine mm_iconst (v := 2) d11_findRing_10 (by decide +kernel) ?_
  refine mm_istore_n d11_findRing_11 rfl rfl ?_
  refine mm_sub [(0, .ref v0), (1, .int 0), (2, .int 8), (3, .int 2)] ⟨rfl, rfl, rfl, rfl, trivial⟩ ?_
  exact ok11_findRing_12 l hS  n h0 h
set_option maxHeartbeats 4000000 in
set_option maxRecDepth 100000 in
theorem ok11_laws_216 (l : Launch) {S : mm_Sh} (hS : mm_WT S) {n : Nat}  {v2 : Int32} {s0 : Nat} {s1 : Int32} (g0 : mm_is S s0 11) {I : mm_I} {J : mm_J} {o : Int32 × mm_I × mm_J} (h : f11_laws_216 S n v2 s0 s1 I J = some o) : mm_W l M11_laws (mm_rm (mm_rk M11_laws)) 0 0 S (mm_end S (mm_Qi o.1 o.2.1 o.2.2)) 216 [(2, .int v2)] [.int s1, .ref s0] I J := by
  unfold f11_laws_216 at h
  obtain ⟨hb1, h⟩ := mm_gd h
  refine mm_putZ fp_X11_254 d11_laws_216 (mm_wtI hS g0 rfl) (mm_bit_ok hb1) ?_
  refine mm_iload_n d11_laws_219 rfl ?_
  have h := Option.some.inj h
  subst h
  exact mm_iret rfl d11_laws_220 ⟨rfl, rfl, rfl⟩
set_option maxHeartbeats 4000000 in
set_option maxRecDepth 100000 in
theorem ok11_laws_198 (l : Launch) {S : mm_Sh} (hS : mm_WT S) {n : Nat}  {v0 : Nat} {v2 : Int32} {s0 : Nat} {s1 : Int32} (h0 : mm_is S v0 11) (g0 : mm_is S s0 11) {I : mm_I} {J : mm_J} {o : Int32 × mm_I × mm_J} (h : f11_laws_198 S n v0 v2 s0 s1 I J = some o) : mm_W l M11_laws (mm_rm (mm_rk M11_laws)) 0 0 S (mm_end S (mm_Qi o.1 o.2.1 o.2.2)) 198 [(0, .ref v0), (2, .int v2)] [.int s1, .ref s0] I J := by
  unfold f11_laws_198 at h
  refine mm_putI fp_X11_35 d11_laws_198 (mm_wtI hS g0 rfl) ?_
  refine mm_aload_n d11_laws_201 rfl ?_
  refine mm_aload_n d11_laws_202 rfl ?_
  refine mm_getR fl_X11_93 d11_laws_203 (mm_wtR hS 50 h0 rfl rfl) ?_
  refine mm_iconst (v := 5) d11_laws_206 (by decide +kernel) ?_
  obtain ⟨hb1, h⟩ := mm_gd h
  refine mm_iald d11_laws_207 (mm_wtA hS 41 0 h0 rfl rfl) (mm_inb_ok hb1) ?_
  refine mm_if_le (tgt := 215) d11_laws_208 (by decide) (fun hc2 => ?_) (fun hc2 => ?_)
  · rw [if_pos hc2] at h
    refine mm_iconst (v := 0) d11_laws_215 (by decide +kernel) ?_
    refine mm_sub [(2, .int v2)] ⟨rfl, trivial⟩ ?_
    exact ok11_laws_216 l hS  h0 h
  · rw [if_neg hc2] at h
    refine mm_iconst (v := 1) d11_laws_211 (by decide +kernel) ?_
    refine mm_goto (tgt := 216) d11_laws_212 (by decide) ?_
    refine mm_sub [(2, .int v2)] ⟨rfl, trivial⟩ ?_
    exact ok11_laws_216 l hS  h0 h
set_option maxHeartbeats 4000000 in
set_option maxRecDepth 100000 in
theorem ok11_laws_174 (l : Launch) {S : mm_Sh} (hS : mm_WT S) {n : Nat}  {v0 : Nat} {v2 : Int32} {s0 : Nat} {s1 : Int32} (h0 : mm_is S v0 11) (g0 : mm_is S s0 11) {I : mm_I} {J : mm_J} {o : Int32 × mm_I × mm_J} (h : f11_laws_174 S n v0 v2 s0 s1 I J = some o) : mm_W l M11_laws (mm_rm (mm_rk M11_laws)) 0 0 S (mm_end S (mm_Qi o.1 o.2.1 o.2.2)) 174 [(0, .ref v0), (2, .int v2)] [.int s1, .ref s0] I J := by
  unfold f11_laws_174 at h
  refine mm_putI fp_X11_32 d11_laws_174 (mm_wtI hS g0 rfl) ?_
  refine mm_aload_n d11_laws_177 rfl ?_
  refine mm_aload_n d11_laws_178 rfl ?_
  refine mm_getR fl_X11_93 d11_laws_179 (mm_wtR hS 50 h0 rfl rfl) ?_
  refine mm_iconst (v := 4) d11_laws_182 (by decide +kernel) ?_
  obtain ⟨hb1, h⟩ := mm_gd h
  refine mm_iald d11_laws_183 (mm_wtA hS 41 0 h0 rfl rfl) (mm_inb_ok hb1) ?_
  refine mm_if_ge (tgt := 192) d11_laws_184 (by decide) (fun hc2 => ?_) (fun hc2 => ?_)
  · rw [if_pos hc2] at h
    refine mm_aload_n d11_laws_192 rfl ?_
    refine mm_getR fl_X11_93 d11_laws_193 (mm_wtR hS 50 h0 rfl rfl) ?_
    refine mm_iconst (v := 4) d11_laws_196 (by decide +kernel) ?_
    obtain ⟨hb3, h⟩ := mm_gd h
    refine mm_iald d11_laws_197 (mm_wtA hS 41 0 h0 rfl rfl) (mm_inb_ok hb3) ?_
    refine mm_sub [(0, .ref v0), (2, .int v2)] ⟨rfl, rfl, trivial⟩ ?_
    exact ok11_laws_198 l hS  h0 h0 h
  · rw [if_neg hc2] at h
    refine mm_bipush (v := 70) d11_laws_187 (by decide +kernel) ?_
    refine mm_goto (tgt := 198) d11_laws_189 (by decide) ?_
    refine mm_sub [(0, .ref v0), (2, .int v2)] ⟨rfl, rfl, trivial⟩ ?_
    exact ok11_laws_198 l hS  h0 h0 h
set_option maxHeartbeats 4000000 in
set_option maxRecDepth 100000 in
theorem ok11_laws_151 (l : Launch) {S : mm_Sh} (hS : mm_WT S) {n : Nat}  {v0 : Nat} {v2 : Int32} {s0 : Nat} {s1 : Int32} (h0 : mm_is S v0 11) (g0 : mm_is S s0 11) {I : mm_I} {J : mm_J} {o : Int32 × mm_I × mm_J} (h : f11_laws_151 S n v0 v2 s0 s1 I J = some o) : mm_W l M11_laws (mm_rm (mm_rk M11_laws)) 0 0 S (mm_end S (mm_Qi o.1 o.2.1 o.2.2)) 151 [(0, .ref v0), (2, .int v2)] [.int s1, .ref s0] I J := by
  unfold f11_laws_151 at h
  refine mm_putI fp_X11_29 d11_laws_151 (mm_wtI hS g0 rfl) ?_
  refine mm_aload_n d11_laws_154 rfl ?_
  refine mm_aload_n d11_laws_155 rfl ?_
  refine mm_getR fl_X11_93 d11_laws_156 (mm_wtR hS 50 h0 rfl rfl) ?_
  refine mm_iconst (v := 3) d11_laws_159 (by decide +kernel) ?_
  obtain ⟨hb1, h⟩ := mm_gd h
  refine mm_iald d11_laws_160 (mm_wtA hS 41 0 h0 rfl rfl) (mm_inb_ok hb1) ?_
  refine mm_if_ge (tgt := 168) d11_laws_161 (by decide) (fun hc2 => ?_) (fun hc2 => ?_)
  · rw [if_pos hc2] at h
    refine mm_aload_n d11_laws_168 rfl ?_
    refine mm_getR fl_X11_93 d11_laws_169 (mm_wtR hS 50 h0 rfl rfl) ?_
    refine mm_iconst (v := 3) d11_laws_172 (by decide +kernel) ?_
    obtain ⟨hb3, h⟩ := mm_gd h
    refine mm_iald d11_laws_173 (mm_wtA hS 41 0 h0 rfl rfl) (mm_inb_ok hb3) ?_
    refine mm_sub [(0, .ref v0), (2, .int v2)] ⟨rfl, rfl, trivial⟩ ?_
    exact ok11_laws_174 l hS  h0 h0 h
  · rw [if_neg hc2] at h
    refine mm_iconst (v := 5) d11_laws_164 (by decide +kernel) ?_
    refine mm_goto (tgt := 174) d11_laws_165 (by decide) ?_
    refine mm_sub [(0, .ref v0), (2, .int v2)] ⟨rfl, rfl, trivial⟩ ?_
    exact ok11_laws_174 l hS  h0 h0 h
set_option maxHeartbeats 4000000 in
set_option maxRecDepth 100000 in
theorem ok11_laws_127 (l : Launch) {S : mm_Sh} (hS : mm_WT S) {n : Nat}  {v0 : Nat} {v2 : Int32} {s0 : Nat} {s1 : Int32} (h0 : mm_is S v0 11) (g0 : mm_is S s0 11) {I : mm_I} {J : mm_J} {o : Int32 × mm_I × mm_J} (h : f11_laws_127 S n v0 v2 s0 s1 I J = some o) : mm_W l M11_laws (mm_rm (mm_rk M11_laws)) 0 0 S (mm_end S (mm_Qi o.1 o.2.1 o.2.2)) 127 [(0, .ref v0), (2, .int v2)] [.int s1, .ref s0] I J := by
  unfold f11_laws_127 at h
  refine mm_putI fp_X11_26 d11_laws_127 (mm_wtI hS g0 rfl) ?_
  refine mm_aload_n d11_laws_130 rfl ?_
  refine mm_aload_n d11_laws_131 rfl ?_
  refine mm_getR fl_X11_93 d11_laws_132 (mm_wtR hS 50 h0 rfl rfl) ?_
  refine mm_iconst (v := 2) d11_laws_135 (by decide +kernel) ?_
  obtain ⟨hb1, h⟩ := mm_gd h
  refine mm_iald d11_laws_136 (mm_wtA hS 41 0 h0 rfl rfl) (mm_inb_ok hb1) ?_
  refine mm_if_ge (tgt := 145) d11_laws_137 (by decide) (fun hc2 => ?_) (fun hc2 => ?_)
  · rw [if_pos hc2] at h
    refine mm_aload_n d11_laws_145 rfl ?_
    refine mm_getR fl_X11_93 d11_laws_146 (mm_wtR hS 50 h0 rfl rfl) ?_
    refine mm_iconst (v := 2) d11_laws_149 (by decide +kernel) ?_
    obtain ⟨hb3, h⟩ := mm_gd h
    refine mm_iald d11_laws_150 (mm_wtA hS 41 0 h0 rfl rfl) (mm_inb_ok hb3) ?_
    refine mm_sub [(0, .ref v0), (2, .int v2)] ⟨rfl, rfl, trivial⟩ ?_
    exact ok11_laws_151 l hS  h0 h0 h
  · rw [if_neg hc2] at h
    refine mm_bipush (v := 25) d11_laws_140 (by decide +kernel) ?_
    refine mm_goto (tgt := 151) d11_laws_142 (by decide) ?_
    refine mm_sub [(0, .ref v0), (2, .int v2)] ⟨rfl, rfl, trivial⟩ ?_
    exact ok11_laws_151 l hS  h0 h0 h
set_option maxHeartbeats 4000000 in
set_option maxRecDepth 100000 in
theorem ok11_laws_104 (l : Launch) {S : mm_Sh} (hS : mm_WT S) {n : Nat}  {v0 : Nat} {v2 : Int32} {s0 : Nat} {s1 : Int32} (h0 : mm_is S v0 11) (g0 : mm_is S s0 11) {I : mm_I} {J : mm_J} {o : Int32 × mm_I × mm_J} (h : f11_laws_104 S n v0 v2 s0 s1 I J = some o) : mm_W l M11_laws (mm_rm (mm_rk M11_laws)) 0 0 S (mm_end S (mm_Qi o.1 o.2.1 o.2.2)) 104 [(0, .ref v0), (2, .int v2)] [.int s1, .ref s0] I J := by
  unfold f11_laws_104 at h
  refine mm_putI fp_X11_22 d11_laws_104 (mm_wtI hS g0 rfl) ?_
  refine mm_aload_n d11_laws_107 rfl ?_
  refine mm_aload_n d11_laws_108 rfl ?_
  refine mm_getR fl_X11_93 d11_laws_109 (mm_wtR hS 50 h0 rfl rfl) ?_
  refine mm_iconst (v := 1) d11_laws_112 (by decide +kernel) ?_
  obtain ⟨hb1, h⟩ := mm_gd h
  refine mm_iald d11_laws_113 (mm_wtA hS 41 0 h0 rfl rfl) (mm_inb_ok hb1) ?_
  refine mm_if_ge (tgt := 121) d11_laws_114 (by decide) (fun hc2 => ?_) (fun hc2 => ?_)
  · rw [if_pos hc2] at h
    refine mm_aload_n d11_laws_121 rfl ?_
    refine mm_getR fl_X11_93 d11_laws_122 (mm_wtR hS 50 h0 rfl rfl) ?_
    refine mm_iconst (v := 1) d11_laws_125 (by decide +kernel) ?_
    obtain ⟨hb3, h⟩ := mm_gd h
    refine mm_iald d11_laws_126 (mm_wtA hS 41 0 h0 rfl rfl) (mm_inb_ok hb3) ?_
    refine mm_sub [(0, .ref v0), (2, .int v2)] ⟨rfl, rfl, trivial⟩ ?_
    exact ok11_laws_127 l hS  h0 h0 h
  · rw [if_neg hc2] at h
    refine mm_iconst (v := 2) d11_laws_117 (by decide +kernel) ?_
    refine mm_goto (tgt := 127) d11_laws_118 (by decide) ?_
    refine mm_sub [(0, .ref v0), (2, .int v2)] ⟨rfl, rfl, trivial⟩ ?_
    exact ok11_laws_127 l hS  h0 h0 h
set_option maxHeartbeats 4000000 in
set_option maxRecDepth 100000 in
theorem ok11_laws_70 (l : Launch) {S : mm_Sh} (hS : mm_WT S) {n : Nat}  {v0 : Nat} {v1 : Int32} {v2 : Int32} (h0 : mm_is S v0 11) {I : mm_I} {J : mm_J} {o : Int32 × mm_I × mm_J} (h : f11_laws_70 S n v0 v1 v2 I J = some o) : mm_W l M11_laws (mm_rm (mm_rk M11_laws)) 0 0 S (mm_end S (mm_Qi o.1 o.2.1 o.2.2)) 70 [(0, .ref v0), (1, .int v1), (2, .int v2)] [] I J := by
  unfold f11_laws_70 at h
  refine mm_aload_n d11_laws_70 rfl ?_
  refine mm_iconst (v := 0) d11_laws_71 (by decide +kernel) ?_
  refine mm_putI fp_X11_157 d11_laws_72 (mm_wtI hS h0 rfl) ?_
  refine mm_iload_n d11_laws_75 rfl ?_
  refine mm_if_le (tgt := 84) d11_laws_76 (by decide) (fun hc1 => ?_) (fun hc1 => ?_)
  · rw [if_pos hc1] at h
    refine mm_aload_n d11_laws_84 rfl ?_
    refine mm_aload_n d11_laws_85 rfl ?_
    refine mm_getR fl_X11_93 d11_laws_86 (mm_wtR hS 50 h0 rfl rfl) ?_
    refine mm_iconst (v := 0) d11_laws_89 (by decide +kernel) ?_
    obtain ⟨hb2, h⟩ := mm_gd h
    refine mm_iald d11_laws_90 (mm_wtA hS 41 0 h0 rfl rfl) (mm_inb_ok hb2) ?_
    refine mm_if_ge (tgt := 98) d11_laws_91 (by decide) (fun hc3 => ?_) (fun hc3 => ?_)
    · rw [if_pos hc3] at h
      refine mm_aload_n d11_laws_98 rfl ?_
      refine mm_getR fl_X11_93 d11_laws_99 (mm_wtR hS 50 h0 rfl rfl) ?_
      refine mm_iconst (v := 0) d11_laws_102 (by decide +kernel) ?_
      obtain ⟨hb4, h⟩ := mm_gd h
      refine mm_iald d11_laws_103 (mm_wtA hS 41 0 h0 rfl rfl) (mm_inb_ok hb4) ?_
      refine mm_sub [(0, .ref v0), (2, .int v2)] ⟨rfl, rfl, trivial⟩ ?_
      exact ok11_laws_104 l hS  h0 h0 h
    · rw [if_neg hc3] at h
      refine mm_iconst (v := 2) d11_laws_94 (by decide +kernel) ?_
      refine mm_goto (tgt := 104) d11_laws_95 (by decide) ?_
      refine mm_sub [(0, .ref v0), (2, .int v2)] ⟨rfl, rfl, trivial⟩ ?_
      exact ok11_laws_104 l hS  h0 h0 h
  · rw [if_neg hc1] at h
    refine mm_bipush (v := (-10)) d11_laws_79 (by decide +kernel) ?_
    refine mm_iload_n d11_laws_81 rfl ?_
    refine mm_isub d11_laws_82 ?_
    have h := Option.some.inj h
    subst h
    exact mm_iret rfl d11_laws_83 ⟨rfl, rfl, rfl⟩
set_option maxHeartbeats 4000000 in
set_option maxRecDepth 100000 in
theorem ok11_laws_48_b (l : Launch) {S : mm_Sh} (hS : mm_WT S) {n : Nat}  {rec48 : Nat → Int32 → Int32 → mm_I → mm_J → Option (Int32 × mm_I × mm_J)} (hrec48 : ∀ {v0 : Nat} {v1 : Int32} {v2 : Int32} (_ : mm_is S v0 11) {I : mm_I} {J : mm_J} {o : Int32 × mm_I × mm_J}, rec48 v0 v1 v2 I J = some o → mm_W l M11_laws (mm_rm (mm_rk M11_laws)) 0 0 S (mm_end S (mm_Qi o.1 o.2.1 o.2.2)) 48 [(0, .ref v0), (1, .int v1), (2, .int v2)] [] I J) {v0 : Nat} {v1 : Int32} {v2 : Int32} (h0 : mm_is S v0 11) {I : mm_I} {J : mm_J} {o : Int32 × mm_I × mm_J} (h : f11_laws_48_b S n rec48 v0 v1 v2 I J = some o) : mm_W l M11_laws (mm_rm (mm_rk M11_laws)) 0 0 S (mm_end S (mm_Qi o.1 o.2.1 o.2.2)) 48 [(0, .ref v0), (1, .int v1), (2, .int v2)] [] I J := by
  unfold f11_laws_48_b at h
  refine mm_iload_n d11_laws_48 rfl ?_
  refine mm_if_ne (tgt := 70) d11_laws_49 (by decide) (fun hc1 => ?_) (fun hc1 => ?_)
  · rw [if_neg hc1] at h
    refine mm_sub [(0, .ref v0), (1, .int v1), (2, .int v2)] ⟨rfl, rfl, rfl, trivial⟩ ?_
    exact ok11_laws_70 l hS  h0 h
  · rw [if_pos hc1] at h
    refine mm_aload_n d11_laws_52 rfl ?_
    obtain ⟨o2, hk2, h⟩ := mm_bd h
    refine mm_cVi 11 (As := []) (ok11_here l hS h0 hk2) lk_X11_166 rfl d11_laws_53 (mm_room rfl rfl) rfl h0 rfl rfl ?_
    refine mm_if_lt (tgt := 70) d11_laws_56 (by decide) (fun hc3 => ?_) (fun hc3 => ?_)
    · rw [if_pos hc3] at h
      refine mm_sub [(0, .ref v0), (1, .int v1), (2, .int v2)] ⟨rfl, rfl, rfl, trivial⟩ ?_
      exact ok11_laws_70 l hS  h0 h
    · rw [if_neg hc3] at h
      refine mm_aload_n d11_laws_59 rfl ?_
      obtain ⟨o4, hk4, h⟩ := mm_bd h
      refine mm_cVi 11 (As := []) (ok11_takeLaw l hS h0 hk4) lk_X11_251 rfl d11_laws_60 (mm_room rfl rfl) rfl h0 rfl rfl ?_
      refine mm_istore_n d11_laws_63 rfl rfl ?_
      refine mm_iinc (v := v2 + 1) d11_laws_64 rfl rfl rfl rfl ?_
      refine mm_goto (tgt := 48) d11_laws_67 (by decide) ?_
      refine mm_sub [(0, .ref v0), (1, .int o4.1), (2, .int (v2 + 1))] ⟨rfl, rfl, rfl, trivial⟩ ?_
      exact hrec48 h0 h
set_option maxHeartbeats 4000000 in
set_option maxRecDepth 100000 in
theorem ok11_laws_48 (l : Launch) {S : mm_Sh} (hS : mm_WT S) {n : Nat}  : ∀ (k : Nat) {v0 : Nat} {v1 : Int32} {v2 : Int32} (h0 : mm_is S v0 11) {I : mm_I} {J : mm_J} {o : Int32 × mm_I × mm_J}, f11_laws_48 S n k v0 v1 v2 I J = some o → mm_W l M11_laws (mm_rm (mm_rk M11_laws)) 0 0 S (mm_end S (mm_Qi o.1 o.2.1 o.2.2)) 48 [(0, .ref v0), (1, .int v1), (2, .int v2)] [] I J := by
  intro k
  induction k with
  | zero =>
    intros
    rename_i h
    cases h
  | succ k ih =>
    intro v0 v1 v2 h0 I J o h
    exact ok11_laws_48_b l hS (fun {v0 v1 v2} h0 {I J o} h => ih h0 h) h0 h
set_option maxHeartbeats 4000000 in
set_option maxRecDepth 100000 in
theorem ok11_laws_25_b (l : Launch) {S : mm_Sh} (hS : mm_WT S) {n : Nat}  {rec25 : Nat → Int32 → mm_I → mm_J → Option (Int32 × mm_I × mm_J)} (hrec25 : ∀ {v0 : Nat} {v1 : Int32} (_ : mm_is S v0 11) {I : mm_I} {J : mm_J} {o : Int32 × mm_I × mm_J}, rec25 v0 v1 I J = some o → mm_W l M11_laws (mm_rm (mm_rk M11_laws)) 0 0 S (mm_end S (mm_Qi o.1 o.2.1 o.2.2)) 25 [(0, .ref v0), (1, .int v1)] [] I J) {v0 : Nat} {v1 : Int32} (h0 : mm_is S v0 11) {I : mm_I} {J : mm_J} {o : Int32 × mm_I × mm_J} (h : f11_laws_25_b S n rec25 v0 v1 I J = some o) : mm_W l M11_laws (mm_rm (mm_rk M11_laws)) 0 0 S (mm_end S (mm_Qi o.1 o.2.1 o.2.2)) 25 [(0, .ref v0), (1, .int v1)] [] I J := by
  unfold f11_laws_25_b at h
  refine mm_iload_n d11_laws_25 rfl ?_
  refine mm_bipush (v := 6) d11_laws_26 (by decide +kernel) ?_
  refine mm_icmp_ge (tgt := 44) d11_laws_28 (by decide) (fun hc1 => ?_) (fun hc1 => ?_)
  · rw [if_pos hc1] at h
    refine mm_iconst (v := 0) d11_laws_44 (by decide +kernel) ?_
    refine mm_istore_n d11_laws_45 rfl rfl ?_
    refine mm_iconst (v := 0) d11_laws_46 (by decide +kernel) ?_
    refine mm_istore_n d11_laws_47 rfl rfl ?_
    refine mm_sub [(0, .ref v0), (1, .int 0), (2, .int 0)] ⟨rfl, rfl, rfl, trivial⟩ ?_
    exact ok11_laws_48 l hS  n h0 h
  · rw [if_neg hc1] at h
    refine mm_aload_n d11_laws_31 rfl ?_
    refine mm_getR fl_X11_93 d11_laws_32 (mm_wtR hS 50 h0 rfl rfl) ?_
    refine mm_iload_n d11_laws_35 rfl ?_
    refine mm_iconst (v := (-1)) d11_laws_36 (by decide +kernel) ?_
    obtain ⟨hb2, h⟩ := mm_gd h
    refine mm_iast d11_laws_37 (mm_wtA hS 41 0 h0 rfl rfl) (mm_inb_ok hb2) ?_
    refine mm_iinc (v := v1 + 1) d11_laws_38 rfl rfl rfl rfl ?_
    refine mm_goto (tgt := 25) d11_laws_41 (by decide) ?_
    refine mm_sub [(0, .ref v0), (1, .int (v1 + 1))] ⟨rfl, rfl, trivial⟩ ?_
    exact hrec25 h0 h
set_option maxHeartbeats 4000000 in
set_option maxRecDepth 100000 in
theorem ok11_laws_25 (l : Launch) {S : mm_Sh} (hS : mm_WT S) {n : Nat}  : ∀ (k : Nat) {v0 : Nat} {v1 : Int32} (h0 : mm_is S v0 11) {I : mm_I} {J : mm_J} {o : Int32 × mm_I × mm_J}, f11_laws_25 S n k v0 v1 I J = some o → mm_W l M11_laws (mm_rm (mm_rk M11_laws)) 0 0 S (mm_end S (mm_Qi o.1 o.2.1 o.2.2)) 25 [(0, .ref v0), (1, .int v1)] [] I J := by
  intro k
  induction k with
  | zero =>
    intros
    rename_i h
    cases h
  | succ k ih =>
    intro v0 v1 h0 I J o h
    exact ok11_laws_25_b l hS (fun {v0 v1} h0 {I J o} h => ih h0 h) h0 h
set_option maxHeartbeats 4000000 in
set_option maxRecDepth 100000 in
theorem ok11_laws (l : Launch) {S : mm_Sh} (hS : mm_WT S) {n : Nat}  {v0 : Nat} (h0 : mm_is S v0 11) {I : mm_I} {J : mm_J} {o : Int32 × mm_I × mm_J} (h : f11_laws S n v0 I J = some o) : mm_C l M11_laws S [.ref v0] I J (mm_Qi o.1 o.2.1 o.2.2) := by
  unfold f11_laws at h
  refine mm_enter rfl (by decide +kernel) rfl ?_
  refine mm_aload_n d11_laws_0 rfl ?_
  refine mm_getI fl_X11_157 d11_laws_1 (mm_wtI hS h0 rfl) ?_
  refine mm_sipush (v := 200) d11_laws_4 (by decide +kernel) ?_
  refine mm_icmp_le (tgt := 13) d11_laws_7 (by decide) (fun hc1 => ?_) (fun hc1 => ?_)
  · rw [if_pos hc1] at h
    refine mm_aload_n d11_laws_13 rfl ?_
    refine mm_iconst (v := (-1)) d11_laws_14 (by decide +kernel) ?_
    refine mm_putI fp_X11_78 d11_laws_15 (mm_wtI hS h0 rfl) ?_
    refine mm_aload_n d11_laws_18 rfl ?_
    refine mm_iconst (v := 0) d11_laws_19 (by decide +kernel) ?_
    refine mm_putI fp_X11_163 d11_laws_20 (mm_wtI hS h0 rfl) ?_
    refine mm_iconst (v := 0) d11_laws_23 (by decide +kernel) ?_
    refine mm_istore_n d11_laws_24 rfl rfl ?_
    refine mm_sub [(0, .ref v0), (1, .int 0)] ⟨rfl, rfl, trivial⟩ ?_
    exact ok11_laws_25 l hS  n h0 h
  · rw [if_neg hc1] at h
    refine mm_ldc (v := (-1000000003)) d11_laws_10 kX11_250 ?_
    have h := Option.some.inj h
    subst h
    exact mm_iret rfl d11_laws_12 ⟨rfl, rfl, rfl⟩
set_option maxHeartbeats 4000000 in
set_option maxRecDepth 100000 in
theorem ok11_takeClause_110 (l : Launch) {S : mm_Sh} (hS : mm_WT S) {n : Nat}  {v0 : Nat} (h0 : mm_is S v0 11) {I : mm_I} {J : mm_J} {o : Int32 × mm_I × mm_J} (h : f11_takeClause_110 S n v0 I J = some o) : mm_W l M11_takeClause (mm_rm (mm_rk M11_takeClause)) 0 0 S (mm_end S (mm_Qi o.1 o.2.1 o.2.2)) 110 [(0, .ref v0)] [] I J := by
  unfold f11_takeClause_110 at h
  refine mm_aload_n d11_takeClause_110 rfl ?_
  refine mm_iconst (v := 1) d11_takeClause_111 (by decide +kernel) ?_
  refine mm_aload_n d11_takeClause_112 rfl ?_
  refine mm_getI fl_X11_163 d11_takeClause_113 (mm_wtI hS h0 rfl) ?_
  obtain ⟨o1, hk1, h⟩ := mm_bd h
  refine mm_cVi 11 (As := [.int 1, .int (I v0 29)]) (ok11_fails l hS h0 hk1) lk_X11_192 rfl d11_takeClause_116 (mm_room rfl rfl) rfl h0 rfl rfl ?_
  have h := Option.some.inj h
  subst h
  exact mm_iret rfl d11_takeClause_119 ⟨rfl, rfl, rfl⟩
set_option maxHeartbeats 4000000 in
set_option maxRecDepth 100000 in
theorem ok11_takeClause_162 (l : Launch) {S : mm_Sh} (hS : mm_WT S) {n : Nat}  {v0 : Nat} (h0 : mm_is S v0 11) {I : mm_I} {J : mm_J} {o : Int32 × mm_I × mm_J} (h : f11_takeClause_162 S n v0 I J = some o) : mm_W l M11_takeClause (mm_rm (mm_rk M11_takeClause)) 0 0 S (mm_end S (mm_Qi o.1 o.2.1 o.2.2)) 162 [(0, .ref v0)] [] I J := by
  unfold f11_takeClause_162 at h
  refine mm_aload_n d11_takeClause_162 rfl ?_
  refine mm_iconst (v := 3) d11_takeClause_163 (by decide +kernel) ?_
  refine mm_aload_n d11_takeClause_164 rfl ?_
  refine mm_getI fl_X11_163 d11_takeClause_165 (mm_wtI hS h0 rfl) ?_
  obtain ⟨o1, hk1, h⟩ := mm_bd h
  refine mm_cVi 11 (As := [.int 3, .int (I v0 29)]) (ok11_fails l hS h0 hk1) lk_X11_192 rfl d11_takeClause_168 (mm_room rfl rfl) rfl h0 rfl rfl ?_
  have h := Option.some.inj h
  subst h
  exact mm_iret rfl d11_takeClause_171 ⟨rfl, rfl, rfl⟩
set_option maxHeartbeats 4000000 in
set_option maxRecDepth 100000 in
theorem ok11_takeClause_220 (l : Launch) {S : mm_Sh} (hS : mm_WT S) {n : Nat}  {s0 : Int32}  {I : mm_I} {J : mm_J} {o : Int32 × mm_I × mm_J} (h : f11_takeClause_220 S n s0 I J = some o) : mm_W l M11_takeClause (mm_rm (mm_rk M11_takeClause)) 0 0 S (mm_end S (mm_Qi o.1 o.2.1 o.2.2)) 220 [] [.int s0] I J := by
  unfold f11_takeClause_220 at h
  have h := Option.some.inj h
  subst h
  exact mm_iret rfl d11_takeClause_220 ⟨rfl, rfl, rfl⟩
set_option maxHeartbeats 4000000 in
set_option maxRecDepth 100000 in
theorem ok11_takeClause_207 (l : Launch) {S : mm_Sh} (hS : mm_WT S) {n : Nat}  {v0 : Nat} {s0 : Int32} (h0 : mm_is S v0 11) {I : mm_I} {J : mm_J} {o : Int32 × mm_I × mm_J} (h : f11_takeClause_207 S n v0 s0 I J = some o) : mm_W l M11_takeClause (mm_rm (mm_rk M11_takeClause)) 0 0 S (mm_end S (mm_Qi o.1 o.2.1 o.2.2)) 207 [(0, .ref v0)] [.int s0] I J := by
  unfold f11_takeClause_207 at h
  refine mm_istore_n d11_takeClause_207 rfl rfl ?_
  refine mm_iload_n d11_takeClause_208 rfl ?_
  refine mm_if_le (tgt := 216) d11_takeClause_209 (by decide) (fun hc1 => ?_) (fun hc1 => ?_)
  · rw [if_pos hc1] at h
    refine mm_aload_n d11_takeClause_216 rfl ?_
    obtain ⟨o2, hk2, h⟩ := mm_bd h
    refine mm_cVi 11 (As := []) (ok11_takeStop l hS h0 hk2) lk_X11_238 rfl d11_takeClause_217 (mm_room rfl rfl) rfl h0 rfl rfl ?_
    refine mm_sub [] trivial ?_
    exact ok11_takeClause_220 l hS   h
  · rw [if_neg hc1] at h
    refine mm_iload_n d11_takeClause_212 rfl ?_
    refine mm_goto (tgt := 220) d11_takeClause_213 (by decide) ?_
    refine mm_sub [] trivial ?_
    exact ok11_takeClause_220 l hS   h
set_option maxHeartbeats 4000000 in
set_option maxRecDepth 100000 in
theorem ok11_takeClause_172 (l : Launch) {S : mm_Sh} (hS : mm_WT S) {n : Nat}  {v0 : Nat} {v1 : Int32} (h0 : mm_is S v0 11) {I : mm_I} {J : mm_J} {o : Int32 × mm_I × mm_J} (h : f11_takeClause_172 S n v0 v1 I J = some o) : mm_W l M11_takeClause (mm_rm (mm_rk M11_takeClause)) 0 0 S (mm_end S (mm_Qi o.1 o.2.1 o.2.2)) 172 [(0, .ref v0), (1, .int v1)] [] I J := by
  unfold f11_takeClause_172 at h
  refine mm_aload_n d11_takeClause_172 rfl ?_
  refine mm_aload_n d11_takeClause_173 rfl ?_
  refine mm_getI fl_X11_173 d11_takeClause_174 (mm_wtI hS h0 rfl) ?_
  refine mm_putI fp_X11_163 d11_takeClause_177 (mm_wtI hS h0 rfl) ?_
  refine mm_iload_n d11_takeClause_180 rfl ?_
  refine mm_if_ne (tgt := 191) d11_takeClause_181 (by decide) (fun hc1 => ?_) (fun hc1 => ?_)
  · rw [if_neg hc1] at h
    refine mm_iload_n d11_takeClause_191 rfl ?_
    refine mm_iconst (v := 1) d11_takeClause_192 (by decide +kernel) ?_
    refine mm_icmp_ne (tgt := 203) d11_takeClause_193 (by decide) (fun hc2 => ?_) (fun hc2 => ?_)
    · rw [if_neg hc2] at h
      refine mm_aload_n d11_takeClause_203 rfl ?_
      obtain ⟨o3, hk3, h⟩ := mm_bd h
      refine mm_cVi 11 (As := []) (ok11_takeLikes l hS h0 hk3) lk_X11_235 rfl d11_takeClause_204 (mm_room rfl rfl) rfl h0 rfl rfl ?_
      refine mm_sub [(0, .ref v0)] ⟨rfl, trivial⟩ ?_
      exact ok11_takeClause_207 l hS  h0 h
    · rw [if_pos hc2] at h
      refine mm_aload_n d11_takeClause_196 rfl ?_
      obtain ⟨o4, hk4, h⟩ := mm_bd h
      refine mm_cVi 11 (As := []) (ok11_takePerson l hS h0 hk4) lk_X11_232 rfl d11_takeClause_197 (mm_room rfl rfl) rfl h0 rfl rfl ?_
      refine mm_goto (tgt := 207) d11_takeClause_200 (by decide) ?_
      refine mm_sub [(0, .ref v0)] ⟨rfl, trivial⟩ ?_
      exact ok11_takeClause_207 l hS  h0 h
  · rw [if_pos hc1] at h
    refine mm_aload_n d11_takeClause_184 rfl ?_
    obtain ⟨o5, hk5, h⟩ := mm_bd h
    refine mm_cVi 11 (As := []) (ok11_takeTrade l hS h0 hk5) lk_X11_229 rfl d11_takeClause_185 (mm_room rfl rfl) rfl h0 rfl rfl ?_
    refine mm_goto (tgt := 207) d11_takeClause_188 (by decide) ?_
    refine mm_sub [(0, .ref v0)] ⟨rfl, trivial⟩ ?_
    exact ok11_takeClause_207 l hS  h0 h
set_option maxHeartbeats 4000000 in
set_option maxRecDepth 100000 in
theorem ok11_takeClause_120 (l : Launch) {S : mm_Sh} (hS : mm_WT S) {n : Nat}  {v0 : Nat} {v1 : Int32} (h0 : mm_is S v0 11) {I : mm_I} {J : mm_J} {o : Int32 × mm_I × mm_J} (h : f11_takeClause_120 S n v0 v1 I J = some o) : mm_W l M11_takeClause (mm_rm (mm_rk M11_takeClause)) 0 0 S (mm_end S (mm_Qi o.1 o.2.1 o.2.2)) 120 [(0, .ref v0), (1, .int v1)] [] I J := by
  unfold f11_takeClause_120 at h
  refine mm_iload_n d11_takeClause_120 rfl ?_
  refine mm_if_ne (tgt := 136) d11_takeClause_121 (by decide) (fun hc1 => ?_) (fun hc1 => ?_)
  · rw [if_neg hc1] at h
    refine mm_iload_n d11_takeClause_136 rfl ?_
    refine mm_iconst (v := 1) d11_takeClause_137 (by decide +kernel) ?_
    refine mm_icmp_ne (tgt := 153) d11_takeClause_138 (by decide) (fun hc2 => ?_) (fun hc2 => ?_)
    · rw [if_neg hc2] at h
      refine mm_aload_n d11_takeClause_153 rfl ?_
      refine mm_getI fl_X11_226 d11_takeClause_154 (mm_wtI hS h0 rfl) ?_
      refine mm_bipush (v := 40) d11_takeClause_157 (by decide +kernel) ?_
      refine mm_icmp_ne (tgt := 172) d11_takeClause_159 (by decide) (fun hc3 => ?_) (fun hc3 => ?_)
      · rw [if_neg hc3] at h
        refine mm_sub [(0, .ref v0), (1, .int v1)] ⟨rfl, rfl, trivial⟩ ?_
        exact ok11_takeClause_172 l hS  h0 h
      · rw [if_pos hc3] at h
        refine mm_sub [(0, .ref v0)] ⟨rfl, trivial⟩ ?_
        exact ok11_takeClause_162 l hS  h0 h
    · rw [if_pos hc2] at h
      refine mm_aload_n d11_takeClause_141 rfl ?_
      refine mm_getI fl_X11_223 d11_takeClause_142 (mm_wtI hS h0 rfl) ?_
      refine mm_bipush (v := 8) d11_takeClause_145 (by decide +kernel) ?_
      refine mm_icmp_ne (tgt := 172) d11_takeClause_147 (by decide) (fun hc4 => ?_) (fun hc4 => ?_)
      · rw [if_neg hc4] at h
        refine mm_sub [(0, .ref v0), (1, .int v1)] ⟨rfl, rfl, trivial⟩ ?_
        exact ok11_takeClause_172 l hS  h0 h
      · rw [if_pos hc4] at h
        refine mm_goto (tgt := 162) d11_takeClause_150 (by decide) ?_
        refine mm_sub [(0, .ref v0)] ⟨rfl, trivial⟩ ?_
        exact ok11_takeClause_162 l hS  h0 h
  · rw [if_pos hc1] at h
    refine mm_aload_n d11_takeClause_124 rfl ?_
    refine mm_getI fl_X11_208 d11_takeClause_125 (mm_wtI hS h0 rfl) ?_
    refine mm_bipush (v := 6) d11_takeClause_128 (by decide +kernel) ?_
    refine mm_icmp_ne (tgt := 172) d11_takeClause_130 (by decide) (fun hc5 => ?_) (fun hc5 => ?_)
    · rw [if_neg hc5] at h
      refine mm_sub [(0, .ref v0), (1, .int v1)] ⟨rfl, rfl, trivial⟩ ?_
      exact ok11_takeClause_172 l hS  h0 h
    · rw [if_pos hc5] at h
      refine mm_goto (tgt := 162) d11_takeClause_133 (by decide) ?_
      refine mm_sub [(0, .ref v0)] ⟨rfl, trivial⟩ ?_
      exact ok11_takeClause_162 l hS  h0 h
set_option maxHeartbeats 4000000 in
set_option maxRecDepth 100000 in
theorem ok11_takeClause_94 (l : Launch) {S : mm_Sh} (hS : mm_WT S) {n : Nat}  {v0 : Nat} {s0 : Int32} (h0 : mm_is S v0 11) {I : mm_I} {J : mm_J} {o : Int32 × mm_I × mm_J} (h : f11_takeClause_94 S n v0 s0 I J = some o) : mm_W l M11_takeClause (mm_rm (mm_rk M11_takeClause)) 0 0 S (mm_end S (mm_Qi o.1 o.2.1 o.2.2)) 94 [(0, .ref v0)] [.int s0] I J := by
  unfold f11_takeClause_94 at h
  refine mm_istore_n d11_takeClause_94 rfl rfl ?_
  refine mm_iload_n d11_takeClause_95 rfl ?_
  refine mm_if_lt (tgt := 110) d11_takeClause_96 (by decide) (fun hc1 => ?_) (fun hc1 => ?_)
  · rw [if_pos hc1] at h
    refine mm_sub [(0, .ref v0)] ⟨rfl, trivial⟩ ?_
    exact ok11_takeClause_110 l hS  h0 h
  · rw [if_neg hc1] at h
    refine mm_iload_n d11_takeClause_99 rfl ?_
    refine mm_if_ne (tgt := 120) d11_takeClause_100 (by decide) (fun hc2 => ?_) (fun hc2 => ?_)
    · rw [if_neg hc2] at h
      refine mm_sub [(0, .ref v0), (1, .int s0)] ⟨rfl, rfl, trivial⟩ ?_
      exact ok11_takeClause_120 l hS  h0 h
    · rw [if_pos hc2] at h
      refine mm_aload_n d11_takeClause_103 rfl ?_
      refine mm_getI fl_X11_223 d11_takeClause_104 (mm_wtI hS h0 rfl) ?_
      refine mm_if_le (tgt := 120) d11_takeClause_107 (by decide) (fun hc3 => ?_) (fun hc3 => ?_)
      · rw [if_pos hc3] at h
        refine mm_sub [(0, .ref v0), (1, .int s0)] ⟨rfl, rfl, trivial⟩ ?_
        exact ok11_takeClause_120 l hS  h0 h
      · rw [if_neg hc3] at h
        refine mm_sub [(0, .ref v0)] ⟨rfl, trivial⟩ ?_
        exact ok11_takeClause_110 l hS  h0 h
set_option maxHeartbeats 4000000 in
set_option maxRecDepth 100000 in
theorem ok11_takeClause (l : Launch) {S : mm_Sh} (hS : mm_WT S) {n : Nat}  {v0 : Nat} (h0 : mm_is S v0 11) {I : mm_I} {J : mm_J} {o : Int32 × mm_I × mm_J} (h : f11_takeClause S n v0 I J = some o) : mm_C l M11_takeClause S [.ref v0] I J (mm_Qi o.1 o.2.1 o.2.2) := by
  unfold f11_takeClause at h
  refine mm_enter rfl (by decide +kernel) rfl ?_
  refine mm_aload_n d11_takeClause_0 rfl ?_
  obtain ⟨o1, hk1, h⟩ := mm_bd h
  refine mm_cVv 11 (As := []) (ok11_readWord l hS h0 hk1) lk_X11_205 rfl d11_takeClause_1 (mm_room rfl rfl) rfl h0 rfl rfl ?_
  refine mm_aload_n d11_takeClause_4 rfl ?_
  refine mm_getJ fl_X11_169 d11_takeClause_5 (mm_wtJ hS h0 rfl) ?_
  refine mm_bipush (v := 116) d11_takeClause_8 (by decide +kernel) ?_
  refine mm_bipush (v := 114) d11_takeClause_10 (by decide +kernel) ?_
  refine mm_bipush (v := 97) d11_takeClause_12 (by decide +kernel) ?_
  refine mm_bipush (v := 100) d11_takeClause_14 (by decide +kernel) ?_
  obtain ⟨o2, hk2, h⟩ := mm_bd h
  refine mm_cSl (As := [.int 116, .int 114, .int 97, .int 100]) (ok11_code l hS hk2) lk_X11_211 rfl d11_takeClause_16 (mm_room rfl rfl) rfl rfl ?_
  refine mm_bipush (v := 101) d11_takeClause_19 (by decide +kernel) ?_
  obtain ⟨o3, hk3, h⟩ := mm_bd h
  refine mm_cSl (As := [.long o2, .int 101]) (ok11_longer l hS hk3) lk_X11_215 rfl d11_takeClause_21 (mm_room rfl rfl) rfl rfl ?_
  refine mm_lcmp d11_takeClause_24 ?_
  refine mm_if_ne (tgt := 32) d11_takeClause_25 (by decide) (fun hc4 => ?_) (fun hc4 => ?_)
  · rw [if_neg hc4] at h
    refine mm_aload_n d11_takeClause_32 rfl ?_
    refine mm_getJ fl_X11_169 d11_takeClause_33 (mm_wtJ hS h0 rfl) ?_
    refine mm_bipush (v := 112) d11_takeClause_36 (by decide +kernel) ?_
    refine mm_bipush (v := 101) d11_takeClause_38 (by decide +kernel) ?_
    refine mm_bipush (v := 114) d11_takeClause_40 (by decide +kernel) ?_
    refine mm_bipush (v := 115) d11_takeClause_42 (by decide +kernel) ?_
    obtain ⟨o5, hk5, h⟩ := mm_bd h
    refine mm_cSl (As := [.int 112, .int 101, .int 114, .int 115]) (ok11_code l hS hk5) lk_X11_211 rfl d11_takeClause_44 (mm_room rfl rfl) rfl rfl ?_
    refine mm_bipush (v := 111) d11_takeClause_47 (by decide +kernel) ?_
    obtain ⟨o6, hk6, h⟩ := mm_bd h
    refine mm_cSl (As := [.long o5, .int 111]) (ok11_longer l hS hk6) lk_X11_215 rfl d11_takeClause_49 (mm_room rfl rfl) rfl rfl ?_
    refine mm_bipush (v := 110) d11_takeClause_52 (by decide +kernel) ?_
    obtain ⟨o7, hk7, h⟩ := mm_bd h
    refine mm_cSl (As := [.long o6, .int 110]) (ok11_longer l hS hk7) lk_X11_215 rfl d11_takeClause_54 (mm_room rfl rfl) rfl rfl ?_
    refine mm_lcmp d11_takeClause_57 ?_
    refine mm_if_ne (tgt := 65) d11_takeClause_58 (by decide) (fun hc8 => ?_) (fun hc8 => ?_)
    · rw [if_neg hc8] at h
      refine mm_aload_n d11_takeClause_65 rfl ?_
      refine mm_getJ fl_X11_169 d11_takeClause_66 (mm_wtJ hS h0 rfl) ?_
      refine mm_bipush (v := 108) d11_takeClause_69 (by decide +kernel) ?_
      refine mm_bipush (v := 105) d11_takeClause_71 (by decide +kernel) ?_
      refine mm_bipush (v := 107) d11_takeClause_73 (by decide +kernel) ?_
      refine mm_bipush (v := 101) d11_takeClause_75 (by decide +kernel) ?_
      obtain ⟨o9, hk9, h⟩ := mm_bd h
      refine mm_cSl (As := [.int 108, .int 105, .int 107, .int 101]) (ok11_code l hS hk9) lk_X11_211 rfl d11_takeClause_77 (mm_room rfl rfl) rfl rfl ?_
      refine mm_bipush (v := 115) d11_takeClause_80 (by decide +kernel) ?_
      obtain ⟨o10, hk10, h⟩ := mm_bd h
      refine mm_cSl (As := [.long o9, .int 115]) (ok11_longer l hS hk10) lk_X11_215 rfl d11_takeClause_82 (mm_room rfl rfl) rfl rfl ?_
      refine mm_lcmp d11_takeClause_85 ?_
      refine mm_if_ne (tgt := 93) d11_takeClause_86 (by decide) (fun hc11 => ?_) (fun hc11 => ?_)
      · rw [if_neg hc11] at h
        refine mm_iconst (v := (-1)) d11_takeClause_93 (by decide +kernel) ?_
        refine mm_sub [(0, .ref v0)] ⟨rfl, trivial⟩ ?_
        exact ok11_takeClause_94 l hS  h0 h
      · rw [if_pos hc11] at h
        refine mm_iconst (v := 2) d11_takeClause_89 (by decide +kernel) ?_
        refine mm_goto (tgt := 94) d11_takeClause_90 (by decide) ?_
        refine mm_sub [(0, .ref v0)] ⟨rfl, trivial⟩ ?_
        exact ok11_takeClause_94 l hS  h0 h
    · rw [if_pos hc8] at h
      refine mm_iconst (v := 1) d11_takeClause_61 (by decide +kernel) ?_
      refine mm_goto (tgt := 94) d11_takeClause_62 (by decide) ?_
      refine mm_sub [(0, .ref v0)] ⟨rfl, trivial⟩ ?_
      exact ok11_takeClause_94 l hS  h0 h
  · rw [if_pos hc4] at h
    refine mm_iconst (v := 0) d11_takeClause_28 (by decide +kernel) ?_
    refine mm_goto (tgt := 94) d11_takeClause_29 (by decide) ?_
    refine mm_sub [(0, .ref v0)] ⟨rfl, trivial⟩ ?_
    exact ok11_takeClause_94 l hS  h0 h
set_option maxHeartbeats 4000000 in
set_option maxRecDepth 100000 in
theorem ok11_till_47 (l : Launch) {S : mm_Sh} (hS : mm_WT S) {n : Nat}  {v0 : Nat} {v2 : Int32} (h0 : mm_is S v0 11) {I : mm_I} {J : mm_J} {o : Int32 × mm_I × mm_J} (h : f11_till_47 S n v0 v2 I J = some o) : mm_W l M11_till (mm_rm (mm_rk M11_till)) 0 0 S (mm_end S (mm_Qi o.1 o.2.1 o.2.2)) 47 [(0, .ref v0), (2, .int v2)] [] I J := by
  unfold f11_till_47 at h
  refine mm_aload_n d11_till_47 rfl ?_
  refine mm_iconst (v := 2) d11_till_48 (by decide +kernel) ?_
  obtain ⟨o1, hk1, h⟩ := mm_bd h
  refine mm_cVv 11 (As := [.int 2]) (ok11_load l hS h0 hk1) lk_X11_351 rfl d11_till_49 (mm_room rfl rfl) rfl h0 rfl rfl ?_
  refine mm_iload_n d11_till_52 rfl ?_
  have h := Option.some.inj h
  subst h
  exact mm_iret rfl d11_till_53 ⟨rfl, rfl, rfl⟩
set_option maxHeartbeats 4000000 in
set_option maxRecDepth 100000 in
theorem ok11_till_19_b (l : Launch) {S : mm_Sh} (hS : mm_WT S) {n : Nat}  {rec19 : Nat → Int32 → Int32 → mm_I → mm_J → Option (Int32 × mm_I × mm_J)} (hrec19 : ∀ {v0 : Nat} {v1 : Int32} {v2 : Int32} (_ : mm_is S v0 11) {I : mm_I} {J : mm_J} {o : Int32 × mm_I × mm_J}, rec19 v0 v1 v2 I J = some o → mm_W l M11_till (mm_rm (mm_rk M11_till)) 0 0 S (mm_end S (mm_Qi o.1 o.2.1 o.2.2)) 19 [(0, .ref v0), (1, .int v1), (2, .int v2)] [] I J) {v0 : Nat} {v1 : Int32} {v2 : Int32} (h0 : mm_is S v0 11) {I : mm_I} {J : mm_J} {o : Int32 × mm_I × mm_J} (h : f11_till_19_b S n rec19 v0 v1 v2 I J = some o) : mm_W l M11_till (mm_rm (mm_rk M11_till)) 0 0 S (mm_end S (mm_Qi o.1 o.2.1 o.2.2)) 19 [(0, .ref v0), (1, .int v1), (2, .int v2)] [] I J := by
  unfold f11_till_19_b at h
  refine mm_iload_n d11_till_19 rfl ?_
  refine mm_sipush (v := 200) d11_till_20 (by decide +kernel) ?_
  refine mm_icmp_ge (tgt := 47) d11_till_23 (by decide) (fun hc1 => ?_) (fun hc1 => ?_)
  · rw [if_pos hc1] at h
    refine mm_sub [(0, .ref v0), (2, .int v2)] ⟨rfl, rfl, trivial⟩ ?_
    exact ok11_till_47 l hS  h0 h
  · rw [if_neg hc1] at h
    refine mm_aload_n d11_till_26 rfl ?_
    refine mm_iload_n d11_till_27 rfl ?_
    refine mm_bipush (v := 50) d11_till_28 (by decide +kernel) ?_
    obtain ⟨o2, hk2, h⟩ := mm_bd h
    refine mm_cVi 11 (As := [.int v1, .int 50]) (ok11_knowers l hS h0 hk2) lk_X11_258 rfl d11_till_30 (mm_room rfl rfl) rfl h0 rfl rfl ?_
    refine mm_if_eq (tgt := 47) d11_till_33 (by decide) (fun hc3 => ?_) (fun hc3 => ?_)
    · rw [if_pos hc3] at h
      refine mm_sub [(0, .ref v0), (2, .int v2)] ⟨rfl, rfl, trivial⟩ ?_
      exact ok11_till_47 l hS  h0 h
    · rw [if_neg hc3] at h
      refine mm_aload_n d11_till_36 rfl ?_
      obtain ⟨o4, hk4, h⟩ := mm_bd h
      refine mm_cVi 11 (As := []) (ok11_yearNow l hS h0 hk4) lk_X11_330 rfl d11_till_37 (mm_room rfl rfl) rfl h0 rfl rfl ?_
      refine mm_istore_n d11_till_40 rfl rfl ?_
      refine mm_iinc (v := v2 + 1) d11_till_41 rfl rfl rfl rfl ?_
      refine mm_goto (tgt := 19) d11_till_44 (by decide) ?_
      refine mm_sub [(0, .ref v0), (1, .int v1), (2, .int (v2 + 1))] ⟨rfl, rfl, rfl, trivial⟩ ?_
      exact hrec19 h0 h
set_option maxHeartbeats 4000000 in
set_option maxRecDepth 100000 in
theorem ok11_till_19 (l : Launch) {S : mm_Sh} (hS : mm_WT S) {n : Nat}  : ∀ (k : Nat) {v0 : Nat} {v1 : Int32} {v2 : Int32} (h0 : mm_is S v0 11) {I : mm_I} {J : mm_J} {o : Int32 × mm_I × mm_J}, f11_till_19 S n k v0 v1 v2 I J = some o → mm_W l M11_till (mm_rm (mm_rk M11_till)) 0 0 S (mm_end S (mm_Qi o.1 o.2.1 o.2.2)) 19 [(0, .ref v0), (1, .int v1), (2, .int v2)] [] I J := by
  intro k
  induction k with
  | zero =>
    intros
    rename_i h
    cases h
  | succ k ih =>
    intro v0 v1 v2 h0 I J o h
    exact ok11_till_19_b l hS (fun {v0 v1 v2} h0 {I J o} h => ih h0 h) h0 h
set_option maxHeartbeats 4000000 in
set_option maxRecDepth 100000 in
theorem ok11_till (l : Launch) {S : mm_Sh} (hS : mm_WT S) {n : Nat}  {v0 : Nat} {v1 : Int32} (h0 : mm_is S v0 11) {I : mm_I} {J : mm_J} {o : Int32 × mm_I × mm_J} (h : f11_till S n v0 v1 I J = some o) : mm_C l M11_till S [.ref v0, .int v1] I J (mm_Qi o.1 o.2.1 o.2.2) := by
  unfold f11_till at h
  refine mm_enter rfl (by decide +kernel) rfl ?_
  refine mm_aload_n d11_till_0 rfl ?_
  refine mm_iload_n d11_till_1 rfl ?_
  obtain ⟨o1, hk1, h⟩ := mm_bd h
  refine mm_cVi 11 (As := [.int v1]) (ok11_isTrade l hS h0 hk1) lk_X11_267 rfl d11_till_2 (mm_room rfl rfl) rfl h0 rfl rfl ?_
  refine mm_if_ne (tgt := 12) d11_till_5 (by decide) (fun hc2 => ?_) (fun hc2 => ?_)
  · rw [if_neg hc2] at h
    refine mm_aload_n d11_till_12 rfl ?_
    refine mm_iconst (v := 2) d11_till_13 (by decide +kernel) ?_
    obtain ⟨o3, hk3, h⟩ := mm_bd h
    refine mm_cVv 11 (As := [.int 2]) (ok11_save l hS h0 hk3) lk_X11_348 rfl d11_till_14 (mm_room rfl rfl) rfl h0 rfl rfl ?_
    refine mm_iconst (v := 0) d11_till_17 (by decide +kernel) ?_
    refine mm_istore_n d11_till_18 rfl rfl ?_
    refine mm_sub [(0, .ref v0), (1, .int v1), (2, .int 0)] ⟨rfl, rfl, rfl, trivial⟩ ?_
    exact ok11_till_19 l hS  n h0 h
  · rw [if_pos hc2] at h
    refine mm_ldcw (v := (-1000000001)) d11_till_8 kX11_271 ?_
    have h := Option.some.inj h
    subst h
    exact mm_iret rfl d11_till_11 ⟨rfl, rfl, rfl⟩
set_option maxHeartbeats 4000000 in
set_option maxRecDepth 100000 in
theorem ok11_year_17_b (l : Launch) {S : mm_Sh} (hS : mm_WT S) {n : Nat}  {rec17 : Nat → Int32 → Int32 → mm_I → mm_J → Option (Int32 × mm_I × mm_J)} (hrec17 : ∀ {v0 : Nat} {v1 : Int32} {v2 : Int32} (_ : mm_is S v0 11) {I : mm_I} {J : mm_J} {o : Int32 × mm_I × mm_J}, rec17 v0 v1 v2 I J = some o → mm_W l M11_year (mm_rm (mm_rk M11_year)) 0 0 S (mm_end S (mm_Qi o.1 o.2.1 o.2.2)) 17 [(0, .ref v0), (1, .int v1), (2, .int v2)] [] I J) {v0 : Nat} {v1 : Int32} {v2 : Int32} (h0 : mm_is S v0 11) {I : mm_I} {J : mm_J} {o : Int32 × mm_I × mm_J} (h : f11_year_17_b S n rec17 v0 v1 v2 I J = some o) : mm_W l M11_year (mm_rm (mm_rk M11_year)) 0 0 S (mm_end S (mm_Qi o.1 o.2.1 o.2.2)) 17 [(0, .ref v0), (1, .int v1), (2, .int v2)] [] I J := by
  unfold f11_year_17_b at h
  refine mm_iload_n d11_year_17 rfl ?_
  refine mm_iload_n d11_year_18 rfl ?_
  refine mm_icmp_ge (tgt := 33) d11_year_19 (by decide) (fun hc1 => ?_) (fun hc1 => ?_)
  · rw [if_pos hc1] at h
    refine mm_aload_n d11_year_33 rfl ?_
    obtain ⟨o2, hk2, h⟩ := mm_bd h
    refine mm_cVi 11 (As := []) (ok11_livesSet l hS h0 hk2) lk_X11_261 rfl d11_year_34 (mm_room rfl rfl) rfl h0 rfl rfl ?_
    have h := Option.some.inj h
    subst h
    exact mm_iret rfl d11_year_37 ⟨rfl, rfl, rfl⟩
  · rw [if_neg hc1] at h
    refine mm_aload_n d11_year_22 rfl ?_
    obtain ⟨o3, hk3, h⟩ := mm_bd h
    refine mm_cVi 11 (As := []) (ok11_yearNow l hS h0 hk3) lk_X11_330 rfl d11_year_23 (mm_room rfl rfl) rfl h0 rfl rfl ?_
    refine mm_istore_n d11_year_26 rfl rfl ?_
    refine mm_iinc (v := v2 + 1) d11_year_27 rfl rfl rfl rfl ?_
    refine mm_goto (tgt := 17) d11_year_30 (by decide) ?_
    refine mm_sub [(0, .ref v0), (1, .int v1), (2, .int (v2 + 1))] ⟨rfl, rfl, rfl, trivial⟩ ?_
    exact hrec17 h0 h
set_option maxHeartbeats 4000000 in
set_option maxRecDepth 100000 in
theorem ok11_year_17 (l : Launch) {S : mm_Sh} (hS : mm_WT S) {n : Nat}  : ∀ (k : Nat) {v0 : Nat} {v1 : Int32} {v2 : Int32} (h0 : mm_is S v0 11) {I : mm_I} {J : mm_J} {o : Int32 × mm_I × mm_J}, f11_year_17 S n k v0 v1 v2 I J = some o → mm_W l M11_year (mm_rm (mm_rk M11_year)) 0 0 S (mm_end S (mm_Qi o.1 o.2.1 o.2.2)) 17 [(0, .ref v0), (1, .int v1), (2, .int v2)] [] I J := by
  intro k
  induction k with
  | zero =>
    intros
    rename_i h
    cases h
  | succ k ih =>
    intro v0 v1 v2 h0 I J o h
    exact ok11_year_17_b l hS (fun {v0 v1 v2} h0 {I J o} h => ih h0 h) h0 h
set_option maxHeartbeats 4000000 in
set_option maxRecDepth 100000 in
theorem ok11_year (l : Launch) {S : mm_Sh} (hS : mm_WT S) {n : Nat}  {v0 : Nat} {v1 : Int32} (h0 : mm_is S v0 11) {I : mm_I} {J : mm_J} {o : Int32 × mm_I × mm_J} (h : f11_year S n v0 v1 I J = some o) : mm_C l M11_year S [.ref v0, .int v1] I J (mm_Qi o.1 o.2.1 o.2.2) := by
  unfold f11_year at h
  refine mm_enter rfl (by decide +kernel) rfl ?_
  refine mm_iload_n d11_year_0 rfl ?_
  refine mm_i2l d11_year_1 ?_
  refine mm_lconst (v := 1) d11_year_2 (by decide +kernel) ?_
  refine mm_ldc2 (v := 99) d11_year_3 kX11_328 ?_
  obtain ⟨o1, hk1, h⟩ := mm_bd h
  refine mm_cSi (As := [.long v1.toInt64, .long 1, .long 99]) (ok11_in l hS hk1) lk_X11_136 rfl d11_year_6 (mm_room rfl rfl) rfl rfl ?_
  refine mm_if_ne (tgt := 15) d11_year_9 (by decide) (fun hc2 => ?_) (fun hc2 => ?_)
  · rw [if_neg hc2] at h
    refine mm_iconst (v := 0) d11_year_15 (by decide +kernel) ?_
    refine mm_istore_n d11_year_16 rfl rfl ?_
    refine mm_sub [(0, .ref v0), (1, .int v1), (2, .int 0)] ⟨rfl, rfl, rfl, trivial⟩ ?_
    exact ok11_year_17 l hS  n h0 h
  · rw [if_pos hc2] at h
    refine mm_ldc (v := (-1000000002)) d11_year_12 kX11_156 ?_
    have h := Option.some.inj h
    subst h
    exact mm_iret rfl d11_year_14 ⟨rfl, rfl, rfl⟩
set_option maxHeartbeats 4000000 in
set_option maxRecDepth 100000 in
theorem ok11_compared_20 (l : Launch) {S : mm_Sh} (hS : mm_WT S) {n : Nat}    {I : mm_I} {J : mm_J} {o : Int32 × mm_I × mm_J} (h : f11_compared_20 S n  I J = some o) : mm_W l M11_compared (mm_rm (mm_rk M11_compared)) 0 0 S (mm_end S (mm_Qi o.1 o.2.1 o.2.2)) 20 [] [] I J := by
  unfold f11_compared_20 at h
  refine mm_ldc (v := (-1000000002)) d11_compared_20 kX11_156 ?_
  have h := Option.some.inj h
  subst h
  exact mm_iret rfl d11_compared_22 ⟨rfl, rfl, rfl⟩
set_option maxHeartbeats 4000000 in
set_option maxRecDepth 100000 in
theorem ok11_compared_52_b (l : Launch) {S : mm_Sh} (hS : mm_WT S) {n : Nat}  {rec52 : Nat → Int32 → Int32 → Int32 → Int32 → mm_I → mm_J → Option (Int32 × mm_I × mm_J)} (hrec52 : ∀ {v0 : Nat} {v1 : Int32} {v2 : Int32} {v4 : Int32} {v5 : Int32} (_ : mm_is S v0 11) {I : mm_I} {J : mm_J} {o : Int32 × mm_I × mm_J}, rec52 v0 v1 v2 v4 v5 I J = some o → mm_W l M11_compared (mm_rm (mm_rk M11_compared)) 0 0 S (mm_end S (mm_Qi o.1 o.2.1 o.2.2)) 52 [(0, .ref v0), (1, .int v1), (2, .int v2), (4, .int v4), (5, .int v5)] [] I J) {v0 : Nat} {v1 : Int32} {v2 : Int32} {v4 : Int32} {v5 : Int32} (h0 : mm_is S v0 11) {I : mm_I} {J : mm_J} {o : Int32 × mm_I × mm_J} (h : f11_compared_52_b S n rec52 v0 v1 v2 v4 v5 I J = some o) : mm_W l M11_compared (mm_rm (mm_rk M11_compared)) 0 0 S (mm_end S (mm_Qi o.1 o.2.1 o.2.2)) 52 [(0, .ref v0), (1, .int v1), (2, .int v2), (4, .int v4), (5, .int v5)] [] I J := by
  unfold f11_compared_52_b at h
  refine mm_iload d11_compared_52 rfl ?_
  refine mm_iload_n d11_compared_54 rfl ?_
  refine mm_icmp_ge (tgt := 69) d11_compared_55 (by decide) (fun hc1 => ?_) (fun hc1 => ?_)
  · rw [if_pos hc1] at h
    refine mm_aload_n d11_compared_69 rfl ?_
    obtain ⟨o2, hk2, h⟩ := mm_bd h
    refine mm_cVi 11 (As := []) (ok11_deadSet l hS h0 hk2) lk_X11_264 rfl d11_compared_70 (mm_room rfl rfl) rfl h0 rfl rfl ?_
    obtain ⟨o3, hk3, h⟩ := mm_bd h
    refine mm_cSi (As := [.int o2]) (ok11_bits l hS hk3) lk_X11_278 rfl d11_compared_73 (mm_room rfl rfl) rfl rfl ?_
    refine mm_istore d11_compared_76 rfl rfl ?_
    refine mm_aload_n d11_compared_78 rfl ?_
    refine mm_iconst (v := 2) d11_compared_79 (by decide +kernel) ?_
    obtain ⟨o4, hk4, h⟩ := mm_bd h
    refine mm_cVv 11 (As := [.int 2]) (ok11_load l hS h0 hk4) lk_X11_351 rfl d11_compared_80 (mm_room rfl rfl) rfl h0 rfl rfl ?_
    refine mm_aload_n d11_compared_83 rfl ?_
    refine mm_iload d11_compared_84 rfl ?_
    refine mm_putI fp_X11_22 d11_compared_86 (mm_wtI hS h0 rfl) ?_
    refine mm_iload d11_compared_89 rfl ?_
    have h := Option.some.inj h
    subst h
    exact mm_iret rfl d11_compared_91 ⟨rfl, rfl, rfl⟩
  · rw [if_neg hc1] at h
    refine mm_aload_n d11_compared_58 rfl ?_
    refine mm_iload_n d11_compared_59 rfl ?_
    obtain ⟨o5, hk5, h⟩ := mm_bd h
    refine mm_cVv 11 (As := [.int v2]) (ok11_drawYear l hS h0 hk5) lk_X11_343 rfl d11_compared_60 (mm_room rfl rfl) rfl h0 rfl rfl ?_
    refine mm_iinc (v := v5 + 1) d11_compared_63 rfl rfl rfl rfl ?_
    refine mm_goto (tgt := 52) d11_compared_66 (by decide) ?_
    refine mm_sub [(0, .ref v0), (1, .int v1), (2, .int v2), (4, .int v4), (5, .int (v5 + 1))] ⟨rfl, rfl, rfl, rfl, rfl, trivial⟩ ?_
    exact hrec52 h0 h
set_option maxHeartbeats 4000000 in
set_option maxRecDepth 100000 in
theorem ok11_compared_52 (l : Launch) {S : mm_Sh} (hS : mm_WT S) {n : Nat}  : ∀ (k : Nat) {v0 : Nat} {v1 : Int32} {v2 : Int32} {v4 : Int32} {v5 : Int32} (h0 : mm_is S v0 11) {I : mm_I} {J : mm_J} {o : Int32 × mm_I × mm_J}, f11_compared_52 S n k v0 v1 v2 v4 v5 I J = some o → mm_W l M11_compared (mm_rm (mm_rk M11_compared)) 0 0 S (mm_end S (mm_Qi o.1 o.2.1 o.2.2)) 52 [(0, .ref v0), (1, .int v1), (2, .int v2), (4, .int v4), (5, .int v5)] [] I J := by
  intro k
  induction k with
  | zero =>
    intros
    rename_i h
    cases h
  | succ k ih =>
    intro v0 v1 v2 v4 v5 h0 I J o h
    exact ok11_compared_52_b l hS (fun {v0 v1 v2 v4 v5} h0 {I J o} h => ih h0 h) h0 h
set_option maxHeartbeats 4000000 in
set_option maxRecDepth 100000 in
theorem ok11_compared (l : Launch) {S : mm_Sh} (hS : mm_WT S) {n : Nat}  {v0 : Nat} {v1 : Int32} {v2 : Int32} {v3 : Int32} (h0 : mm_is S v0 11) {I : mm_I} {J : mm_J} {o : Int32 × mm_I × mm_J} (h : f11_compared S n v0 v1 v2 v3 I J = some o) : mm_C l M11_compared S [.ref v0, .int v1, .int v2, .int v3] I J (mm_Qi o.1 o.2.1 o.2.2) := by
  unfold f11_compared at h
  refine mm_enter rfl (by decide +kernel) rfl ?_
  refine mm_iload_n d11_compared_0 rfl ?_
  refine mm_iload_n d11_compared_1 rfl ?_
  obtain ⟨o1, hk1, h⟩ := mm_bd h
  refine mm_cSi (As := [.int v1, .int v2]) (ok11_isDrift l hS hk1) lk_X11_340 rfl d11_compared_2 (mm_room rfl rfl) rfl rfl ?_
  refine mm_if_eq (tgt := 20) d11_compared_5 (by decide) (fun hc2 => ?_) (fun hc2 => ?_)
  · rw [if_pos hc2] at h
    refine mm_sub [] trivial ?_
    exact ok11_compared_20 l hS   h
  · rw [if_neg hc2] at h
    refine mm_iload_n d11_compared_8 rfl ?_
    refine mm_i2l d11_compared_9 ?_
    refine mm_lconst (v := 1) d11_compared_10 (by decide +kernel) ?_
    refine mm_ldc2 (v := 6) d11_compared_11 kX11_346 ?_
    obtain ⟨o3, hk3, h⟩ := mm_bd h
    refine mm_cSi (As := [.long v3.toInt64, .long 1, .long 6]) (ok11_in l hS hk3) lk_X11_136 rfl d11_compared_14 (mm_room rfl rfl) rfl rfl ?_
    refine mm_if_ne (tgt := 23) d11_compared_17 (by decide) (fun hc4 => ?_) (fun hc4 => ?_)
    · rw [if_neg hc4] at h
      refine mm_aload_n d11_compared_23 rfl ?_
      refine mm_getI fl_X11_133 d11_compared_24 (mm_wtI hS h0 rfl) ?_
      refine mm_if_ne (tgt := 33) d11_compared_27 (by decide) (fun hc5 => ?_) (fun hc5 => ?_)
      · rw [if_neg hc5] at h
        refine mm_aload_n d11_compared_33 rfl ?_
        refine mm_getI fl_X11_22 d11_compared_34 (mm_wtI hS h0 rfl) ?_
        refine mm_istore d11_compared_37 rfl rfl ?_
        refine mm_aload_n d11_compared_39 rfl ?_
        refine mm_iconst (v := 2) d11_compared_40 (by decide +kernel) ?_
        obtain ⟨o6, hk6, h⟩ := mm_bd h
        refine mm_cVv 11 (As := [.int 2]) (ok11_save l hS h0 hk6) lk_X11_348 rfl d11_compared_41 (mm_room rfl rfl) rfl h0 rfl rfl ?_
        refine mm_aload_n d11_compared_44 rfl ?_
        refine mm_iload_n d11_compared_45 rfl ?_
        refine mm_putI fp_X11_22 d11_compared_46 (mm_wtI hS h0 rfl) ?_
        refine mm_iconst (v := 0) d11_compared_49 (by decide +kernel) ?_
        refine mm_istore d11_compared_50 rfl rfl ?_
        refine mm_sub [(0, .ref v0), (1, .int v1), (2, .int v2), (4, .int (I v0 6)), (5, .int 0)] ⟨rfl, rfl, rfl, rfl, rfl, trivial⟩ ?_
        exact ok11_compared_52 l hS  n h0 h
      · rw [if_pos hc5] at h
        refine mm_ldc (v := (-1000000003)) d11_compared_30 kX11_250 ?_
        have h := Option.some.inj h
        subst h
        exact mm_iret rfl d11_compared_32 ⟨rfl, rfl, rfl⟩
    · rw [if_pos hc4] at h
      refine mm_sub [] trivial ?_
      exact ok11_compared_20 l hS   h
set_option maxHeartbeats 4000000 in
set_option maxRecDepth 100000 in
theorem ok11_drift_23_b (l : Launch) {S : mm_Sh} (hS : mm_WT S) {n : Nat}  {rec23 : Nat → Int32 → Int32 → Int32 → mm_I → mm_J → Option (Int32 × mm_I × mm_J)} (hrec23 : ∀ {v0 : Nat} {v1 : Int32} {v2 : Int32} {v3 : Int32} (_ : mm_is S v0 11) {I : mm_I} {J : mm_J} {o : Int32 × mm_I × mm_J}, rec23 v0 v1 v2 v3 I J = some o → mm_W l M11_drift (mm_rm (mm_rk M11_drift)) 0 0 S (mm_end S (mm_Qi o.1 o.2.1 o.2.2)) 23 [(0, .ref v0), (1, .int v1), (2, .int v2), (3, .int v3)] [] I J) {v0 : Nat} {v1 : Int32} {v2 : Int32} {v3 : Int32} (h0 : mm_is S v0 11) {I : mm_I} {J : mm_J} {o : Int32 × mm_I × mm_J} (h : f11_drift_23_b S n rec23 v0 v1 v2 v3 I J = some o) : mm_W l M11_drift (mm_rm (mm_rk M11_drift)) 0 0 S (mm_end S (mm_Qi o.1 o.2.1 o.2.2)) 23 [(0, .ref v0), (1, .int v1), (2, .int v2), (3, .int v3)] [] I J := by
  unfold f11_drift_23_b at h
  refine mm_iload_n d11_drift_23 rfl ?_
  refine mm_iload_n d11_drift_24 rfl ?_
  refine mm_icmp_ge (tgt := 39) d11_drift_25 (by decide) (fun hc1 => ?_) (fun hc1 => ?_)
  · rw [if_pos hc1] at h
    refine mm_aload_n d11_drift_39 rfl ?_
    obtain ⟨o2, hk2, h⟩ := mm_bd h
    refine mm_cVi 11 (As := []) (ok11_deadSet l hS h0 hk2) lk_X11_264 rfl d11_drift_40 (mm_room rfl rfl) rfl h0 rfl rfl ?_
    have h := Option.some.inj h
    subst h
    exact mm_iret rfl d11_drift_43 ⟨rfl, rfl, rfl⟩
  · rw [if_neg hc1] at h
    refine mm_aload_n d11_drift_28 rfl ?_
    refine mm_iload_n d11_drift_29 rfl ?_
    obtain ⟨o3, hk3, h⟩ := mm_bd h
    refine mm_cVv 11 (As := [.int v2]) (ok11_drawYear l hS h0 hk3) lk_X11_343 rfl d11_drift_30 (mm_room rfl rfl) rfl h0 rfl rfl ?_
    refine mm_iinc (v := v3 + 1) d11_drift_33 rfl rfl rfl rfl ?_
    refine mm_goto (tgt := 23) d11_drift_36 (by decide) ?_
    refine mm_sub [(0, .ref v0), (1, .int v1), (2, .int v2), (3, .int (v3 + 1))] ⟨rfl, rfl, rfl, rfl, trivial⟩ ?_
    exact hrec23 h0 h
set_option maxHeartbeats 4000000 in
set_option maxRecDepth 100000 in
theorem ok11_drift_23 (l : Launch) {S : mm_Sh} (hS : mm_WT S) {n : Nat}  : ∀ (k : Nat) {v0 : Nat} {v1 : Int32} {v2 : Int32} {v3 : Int32} (h0 : mm_is S v0 11) {I : mm_I} {J : mm_J} {o : Int32 × mm_I × mm_J}, f11_drift_23 S n k v0 v1 v2 v3 I J = some o → mm_W l M11_drift (mm_rm (mm_rk M11_drift)) 0 0 S (mm_end S (mm_Qi o.1 o.2.1 o.2.2)) 23 [(0, .ref v0), (1, .int v1), (2, .int v2), (3, .int v3)] [] I J := by
  intro k
  induction k with
  | zero =>
    intros
    rename_i h
    cases h
  | succ k ih =>
    intro v0 v1 v2 v3 h0 I J o h
    exact ok11_drift_23_b l hS (fun {v0 v1 v2 v3} h0 {I J o} h => ih h0 h) h0 h
set_option maxHeartbeats 4000000 in
set_option maxRecDepth 100000 in
theorem ok11_drift (l : Launch) {S : mm_Sh} (hS : mm_WT S) {n : Nat}  {v0 : Nat} {v1 : Int32} {v2 : Int32} (h0 : mm_is S v0 11) {I : mm_I} {J : mm_J} {o : Int32 × mm_I × mm_J} (h : f11_drift S n v0 v1 v2 I J = some o) : mm_C l M11_drift S [.ref v0, .int v1, .int v2] I J (mm_Qi o.1 o.2.1 o.2.2) := by
  unfold f11_drift at h
  refine mm_enter rfl (by decide +kernel) rfl ?_
  refine mm_iload_n d11_drift_0 rfl ?_
  refine mm_iload_n d11_drift_1 rfl ?_
  obtain ⟨o1, hk1, h⟩ := mm_bd h
  refine mm_cSi (As := [.int v1, .int v2]) (ok11_isDrift l hS hk1) lk_X11_340 rfl d11_drift_2 (mm_room rfl rfl) rfl rfl ?_
  refine mm_if_ne (tgt := 11) d11_drift_5 (by decide) (fun hc2 => ?_) (fun hc2 => ?_)
  · rw [if_neg hc2] at h
    refine mm_aload_n d11_drift_11 rfl ?_
    refine mm_getI fl_X11_133 d11_drift_12 (mm_wtI hS h0 rfl) ?_
    refine mm_if_ne (tgt := 21) d11_drift_15 (by decide) (fun hc3 => ?_) (fun hc3 => ?_)
    · rw [if_neg hc3] at h
      refine mm_iconst (v := 0) d11_drift_21 (by decide +kernel) ?_
      refine mm_istore_n d11_drift_22 rfl rfl ?_
      refine mm_sub [(0, .ref v0), (1, .int v1), (2, .int v2), (3, .int 0)] ⟨rfl, rfl, rfl, rfl, trivial⟩ ?_
      exact ok11_drift_23 l hS  n h0 h
    · rw [if_pos hc3] at h
      refine mm_ldc (v := (-1000000003)) d11_drift_18 kX11_250 ?_
      have h := Option.some.inj h
      subst h
      exact mm_iret rfl d11_drift_20 ⟨rfl, rfl, rfl⟩
  · rw [if_pos hc2] at h
    refine mm_ldc (v := (-1000000002)) d11_drift_8 kX11_156 ?_
    have h := Option.some.inj h
    subst h
    exact mm_iret rfl d11_drift_10 ⟨rfl, rfl, rfl⟩
set_option maxHeartbeats 4000000 in
set_option maxRecDepth 100000 in
theorem ok11_ring_62 (l : Launch) {S : mm_Sh} (hS : mm_WT S) {n : Nat}  {s0 : Int32}  {I : mm_I} {J : mm_J} {o : Int32 × mm_I × mm_J} (h : f11_ring_62 S n s0 I J = some o) : mm_W l M11_ring (mm_rm (mm_rk M11_ring)) 0 0 S (mm_end S (mm_Qi o.1 o.2.1 o.2.2)) 62 [] [.int s0] I J := by
  unfold f11_ring_62 at h
  have h := Option.some.inj h
  subst h
  exact mm_iret rfl d11_ring_62 ⟨rfl, rfl, rfl⟩
set_option maxHeartbeats 4000000 in
set_option maxRecDepth 100000 in
theorem ok11_ring (l : Launch) {S : mm_Sh} (hS : mm_WT S) {n : Nat}  {v0 : Nat} {v1 : Int32} (h0 : mm_is S v0 11) {I : mm_I} {J : mm_J} {o : Int32 × mm_I × mm_J} (h : f11_ring S n v0 v1 I J = some o) : mm_C l M11_ring S [.ref v0, .int v1] I J (mm_Qi o.1 o.2.1 o.2.2) := by
  unfold f11_ring at h
  refine mm_enter rfl (by decide +kernel) rfl ?_
  refine mm_iload_n d11_ring_0 rfl ?_
  refine mm_i2l d11_ring_1 ?_
  refine mm_lconst (v := 0) d11_ring_2 (by decide +kernel) ?_
  refine mm_ldc2 (v := 5) d11_ring_3 kX11_384 ?_
  obtain ⟨o1, hk1, h⟩ := mm_bd h
  refine mm_cSi (As := [.long v1.toInt64, .long 0, .long 5]) (ok11_in l hS hk1) lk_X11_136 rfl d11_ring_6 (mm_room rfl rfl) rfl rfl ?_
  refine mm_if_ne (tgt := 15) d11_ring_9 (by decide) (fun hc2 => ?_) (fun hc2 => ?_)
  · rw [if_neg hc2] at h
    refine mm_aload_n d11_ring_15 rfl ?_
    obtain ⟨o3, hk3, h⟩ := mm_bd h
    refine mm_cVi 11 (As := []) (ok11_findRing l hS h0 hk3) lk_X11_386 rfl d11_ring_16 (mm_room rfl rfl) rfl h0 rfl rfl ?_
    refine mm_istore_n d11_ring_19 rfl rfl ?_
    refine mm_iload_n d11_ring_20 rfl ?_
    refine mm_if_ne (tgt := 28) d11_ring_21 (by decide) (fun hc4 => ?_) (fun hc4 => ?_)
    · rw [if_neg hc4] at h
      refine mm_iload_n d11_ring_28 rfl ?_
      refine mm_iconst (v := 1) d11_ring_29 (by decide +kernel) ?_
      refine mm_icmp_ne (tgt := 40) d11_ring_30 (by decide) (fun hc5 => ?_) (fun hc5 => ?_)
      · rw [if_neg hc5] at h
        refine mm_iload_n d11_ring_40 rfl ?_
        refine mm_iconst (v := 2) d11_ring_41 (by decide +kernel) ?_
        refine mm_isub d11_ring_42 ?_
        refine mm_aload_n d11_ring_43 rfl ?_
        refine mm_getI fl_X11_375 d11_ring_44 (mm_wtI hS h0 rfl) ?_
        refine mm_icmp_ge (tgt := 61) d11_ring_47 (by decide) (fun hc6 => ?_) (fun hc6 => ?_)
        · rw [if_pos hc6] at h
          refine mm_iconst (v := (-1)) d11_ring_61 (by decide +kernel) ?_
          refine mm_sub [] trivial ?_
          exact ok11_ring_62 l hS   h
        · rw [if_neg hc6] at h
          refine mm_aload_n d11_ring_50 rfl ?_
          refine mm_getR fl_X11_105 d11_ring_51 (mm_wtR hS 50 h0 rfl rfl) ?_
          refine mm_iload_n d11_ring_54 rfl ?_
          refine mm_iconst (v := 2) d11_ring_55 (by decide +kernel) ?_
          refine mm_isub d11_ring_56 ?_
          obtain ⟨hb7, h⟩ := mm_gd h
          refine mm_iald d11_ring_57 (mm_wtA hS 46 0 h0 rfl rfl) (mm_inb_ok hb7) ?_
          refine mm_goto (tgt := 62) d11_ring_58 (by decide) ?_
          refine mm_sub [] trivial ?_
          exact ok11_ring_62 l hS   h
      · rw [if_pos hc5] at h
        refine mm_aload_n d11_ring_33 rfl ?_
        refine mm_getI fl_X11_375 d11_ring_34 (mm_wtI hS h0 rfl) ?_
        refine mm_goto (tgt := 62) d11_ring_37 (by decide) ?_
        refine mm_sub [] trivial ?_
        exact ok11_ring_62 l hS   h
    · rw [if_pos hc4] at h
      refine mm_iload_n d11_ring_24 rfl ?_
      refine mm_goto (tgt := 62) d11_ring_25 (by decide) ?_
      refine mm_sub [] trivial ?_
      exact ok11_ring_62 l hS   h
  · rw [if_pos hc2] at h
    refine mm_ldc (v := (-1000000002)) d11_ring_12 kX11_156 ?_
    have h := Option.some.inj h
    subst h
    exact mm_iret rfl d11_ring_14 ⟨rfl, rfl, rfl⟩
set_option maxHeartbeats 4000000 in
set_option maxRecDepth 100000 in
theorem ok11_town_175 (l : Launch) {S : mm_Sh} (hS : mm_WT S) {n : Nat}  {rec104 : Nat → Int32 → mm_I → mm_J → Option (Int32 × mm_I × mm_J)} (hrec104 : ∀ {v0 : Nat} {v2 : Int32} (_ : mm_is S v0 11) {I : mm_I} {J : mm_J} {o : Int32 × mm_I × mm_J}, rec104 v0 v2 I J = some o → mm_W l M11_town (mm_rm (mm_rk M11_town)) 0 0 S (mm_end S (mm_Qi o.1 o.2.1 o.2.2)) 104 [(0, .ref v0), (2, .int v2)] [] I J) {v0 : Nat} {v2 : Int32} {s0 : Nat} {s1 : Int32} {s2 : Int32} (h0 : mm_is S v0 11) (g0 : S[s0]? = some (.inl (0, mm_al S s0))) {I : mm_I} {J : mm_J} {o : Int32 × mm_I × mm_J} (h : f11_town_175 S n rec104 v0 v2 s0 s1 s2 I J = some o) : mm_W l M11_town (mm_rm (mm_rk M11_town)) 0 0 S (mm_end S (mm_Qi o.1 o.2.1 o.2.2)) 175 [(0, .ref v0), (2, .int v2)] [.int s2, .int s1, .ref s0] I J := by
  unfold f11_town_175 at h
  obtain ⟨hb1, h⟩ := mm_gd h
  refine mm_iast d11_town_175 g0 (mm_inb_ok hb1) ?_
  refine mm_iinc (v := v2 + 1) d11_town_176 rfl rfl rfl rfl ?_
  refine mm_goto (tgt := 104) d11_town_179 (by decide) ?_
  refine mm_sub [(0, .ref v0), (2, .int (v2 + 1))] ⟨rfl, rfl, trivial⟩ ?_
  exact hrec104 h0 h
set_option maxHeartbeats 4000000 in
set_option maxRecDepth 100000 in
theorem ok11_town_174 (l : Launch) {S : mm_Sh} (hS : mm_WT S) {n : Nat}  {rec104 : Nat → Int32 → mm_I → mm_J → Option (Int32 × mm_I × mm_J)} (hrec104 : ∀ {v0 : Nat} {v2 : Int32} (_ : mm_is S v0 11) {I : mm_I} {J : mm_J} {o : Int32 × mm_I × mm_J}, rec104 v0 v2 I J = some o → mm_W l M11_town (mm_rm (mm_rk M11_town)) 0 0 S (mm_end S (mm_Qi o.1 o.2.1 o.2.2)) 104 [(0, .ref v0), (2, .int v2)] [] I J) {v0 : Nat} {v2 : Int32} {s0 : Nat} {s1 : Int32} (h0 : mm_is S v0 11) (g0 : S[s0]? = some (.inl (0, mm_al S s0))) {I : mm_I} {J : mm_J} {o : Int32 × mm_I × mm_J} (h : f11_town_174 S n rec104 v0 v2 s0 s1 I J = some o) : mm_W l M11_town (mm_rm (mm_rk M11_town)) 0 0 S (mm_end S (mm_Qi o.1 o.2.1 o.2.2)) 174 [(0, .ref v0), (2, .int v2)] [.int s1, .ref s0] I J := by
  unfold f11_town_174 at h
  refine mm_iconst (v := 0) d11_town_174 (by decide +kernel) ?_
  refine mm_sub [(0, .ref v0), (2, .int v2)] ⟨rfl, rfl, trivial⟩ ?_
  exact ok11_town_175 l hS hrec104 h0 g0 h
set_option maxHeartbeats 4000000 in
set_option maxRecDepth 100000 in
theorem ok11_town_184_b (l : Launch) {S : mm_Sh} (hS : mm_WT S) {n : Nat}  {rec184 : Nat → Int32 → mm_I → mm_J → Option (Int32 × mm_I × mm_J)} (hrec184 : ∀ {v0 : Nat} {v2 : Int32} (_ : mm_is S v0 11) {I : mm_I} {J : mm_J} {o : Int32 × mm_I × mm_J}, rec184 v0 v2 I J = some o → mm_W l M11_town (mm_rm (mm_rk M11_town)) 0 0 S (mm_end S (mm_Qi o.1 o.2.1 o.2.2)) 184 [(0, .ref v0), (2, .int v2)] [] I J) {v0 : Nat} {v2 : Int32} (h0 : mm_is S v0 11) {I : mm_I} {J : mm_J} {o : Int32 × mm_I × mm_J} (h : f11_town_184_b S n rec184 v0 v2 I J = some o) : mm_W l M11_town (mm_rm (mm_rk M11_town)) 0 0 S (mm_end S (mm_Qi o.1 o.2.1 o.2.2)) 184 [(0, .ref v0), (2, .int v2)] [] I J := by
  unfold f11_town_184_b at h
  refine mm_iload_n d11_town_184 rfl ?_
  refine mm_bipush (v := 6) d11_town_185 (by decide +kernel) ?_
  refine mm_icmp_ge (tgt := 203) d11_town_187 (by decide) (fun hc1 => ?_) (fun hc1 => ?_)
  · rw [if_pos hc1] at h
    refine mm_aload_n d11_town_203 rfl ?_
    refine mm_iconst (v := 0) d11_town_204 (by decide +kernel) ?_
    refine mm_putI fp_X11_244 d11_town_205 (mm_wtI hS h0 rfl) ?_
    refine mm_aload_n d11_town_208 rfl ?_
    refine mm_iconst (v := 0) d11_town_209 (by decide +kernel) ?_
    refine mm_putI fp_X11_247 d11_town_210 (mm_wtI hS h0 rfl) ?_
    refine mm_aload_n d11_town_213 rfl ?_
    refine mm_getR fl_X11_126 d11_town_214 (mm_wtR hS 51 h0 rfl rfl) ?_
    refine mm_iconst (v := 0) d11_town_217 (by decide +kernel) ?_
    refine mm_iconst (v := 0) d11_town_218 (by decide +kernel) ?_
    obtain ⟨hb2, h⟩ := mm_gd h
    refine mm_zast d11_town_219 (mm_wtA hS 56 1 h0 rfl rfl) (mm_inb_ok hb2) (by decide) ?_
    refine mm_aload_n d11_town_220 rfl ?_
    refine mm_getR fl_X11_126 d11_town_221 (mm_wtR hS 51 h0 rfl rfl) ?_
    refine mm_iconst (v := 1) d11_town_224 (by decide +kernel) ?_
    refine mm_iconst (v := 0) d11_town_225 (by decide +kernel) ?_
    obtain ⟨hb3, h⟩ := mm_gd h
    refine mm_zast d11_town_226 (mm_wtA hS 56 1 h0 rfl rfl) (mm_inb_ok hb3) (by decide) ?_
    refine mm_aload_n d11_town_227 rfl ?_
    refine mm_iconst (v := 0) d11_town_228 (by decide +kernel) ?_
    refine mm_putI fp_X11_147 d11_town_229 (mm_wtI hS h0 rfl) ?_
    refine mm_aload_n d11_town_232 rfl ?_
    obtain ⟨o4, hk4, h⟩ := mm_bd h
    refine mm_cVi 11 (As := []) (ok11_begin l hS h0 hk4) lk_X11_129 rfl d11_town_233 (mm_room rfl rfl) rfl h0 rfl rfl ?_
    refine mm_istore_n d11_town_236 rfl rfl ?_
    refine mm_aload_n d11_town_237 rfl ?_
    refine mm_getI fl_X11_140 d11_town_238 (mm_wtI hS h0 rfl) ?_
    have h := Option.some.inj h
    subst h
    exact mm_iret rfl d11_town_241 ⟨rfl, rfl, rfl⟩
  · rw [if_neg hc1] at h
    refine mm_aload_n d11_town_190 rfl ?_
    refine mm_getR fl_X11_72 d11_town_191 (mm_wtR hS 50 h0 rfl rfl) ?_
    refine mm_iload_n d11_town_194 rfl ?_
    refine mm_iconst (v := 0) d11_town_195 (by decide +kernel) ?_
    obtain ⟨hb5, h⟩ := mm_gd h
    refine mm_iast d11_town_196 (mm_wtA hS 25 0 h0 rfl rfl) (mm_inb_ok hb5) ?_
    refine mm_iinc (v := v2 + 1) d11_town_197 rfl rfl rfl rfl ?_
    refine mm_goto (tgt := 184) d11_town_200 (by decide) ?_
    refine mm_sub [(0, .ref v0), (2, .int (v2 + 1))] ⟨rfl, rfl, trivial⟩ ?_
    exact hrec184 h0 h
set_option maxHeartbeats 4000000 in
set_option maxRecDepth 100000 in
theorem ok11_town_184 (l : Launch) {S : mm_Sh} (hS : mm_WT S) {n : Nat}  : ∀ (k : Nat) {v0 : Nat} {v2 : Int32} (h0 : mm_is S v0 11) {I : mm_I} {J : mm_J} {o : Int32 × mm_I × mm_J}, f11_town_184 S n k v0 v2 I J = some o → mm_W l M11_town (mm_rm (mm_rk M11_town)) 0 0 S (mm_end S (mm_Qi o.1 o.2.1 o.2.2)) 184 [(0, .ref v0), (2, .int v2)] [] I J := by
  intro k
  induction k with
  | zero =>
    intros
    rename_i h
    cases h
  | succ k ih =>
    intro v0 v2 h0 I J o h
    exact ok11_town_184_b l hS (fun {v0 v2} h0 {I J o} h => ih h0 h) h0 h
set_option maxHeartbeats 4000000 in
set_option maxRecDepth 100000 in
theorem ok11_town_104_b (l : Launch) {S : mm_Sh} (hS : mm_WT S) {n : Nat}  {rec104 : Nat → Int32 → mm_I → mm_J → Option (Int32 × mm_I × mm_J)} (hrec104 : ∀ {v0 : Nat} {v2 : Int32} (_ : mm_is S v0 11) {I : mm_I} {J : mm_J} {o : Int32 × mm_I × mm_J}, rec104 v0 v2 I J = some o → mm_W l M11_town (mm_rm (mm_rk M11_town)) 0 0 S (mm_end S (mm_Qi o.1 o.2.1 o.2.2)) 104 [(0, .ref v0), (2, .int v2)] [] I J) {v0 : Nat} {v2 : Int32} (h0 : mm_is S v0 11) {I : mm_I} {J : mm_J} {o : Int32 × mm_I × mm_J} (h : f11_town_104_b S n rec104 v0 v2 I J = some o) : mm_W l M11_town (mm_rm (mm_rk M11_town)) 0 0 S (mm_end S (mm_Qi o.1 o.2.1 o.2.2)) 104 [(0, .ref v0), (2, .int v2)] [] I J := by
  unfold f11_town_104_b at h
  refine mm_iload_n d11_town_104 rfl ?_
  refine mm_bipush (v := 48) d11_town_105 (by decide +kernel) ?_
  refine mm_icmp_ge (tgt := 182) d11_town_107 (by decide) (fun hc1 => ?_) (fun hc1 => ?_)
  · rw [if_pos hc1] at h
    refine mm_iconst (v := 0) d11_town_182 (by decide +kernel) ?_
    refine mm_istore_n d11_town_183 rfl rfl ?_
    refine mm_sub [(0, .ref v0), (2, .int 0)] ⟨rfl, rfl, trivial⟩ ?_
    exact ok11_town_184 l hS  n h0 h
  · rw [if_neg hc1] at h
    refine mm_aload_n d11_town_110 rfl ?_
    refine mm_getR fl_X11_13 d11_town_111 (mm_wtR hS 50 h0 rfl rfl) ?_
    refine mm_iload_n d11_town_114 rfl ?_
    refine mm_bipush (v := 6) d11_town_115 (by decide +kernel) ?_
    refine mm_idiv d11_town_117 (by decide) ?_
    refine mm_aload_n d11_town_118 rfl ?_
    refine mm_getR fl_X11_84 d11_town_119 (mm_wtR hS 50 h0 rfl rfl) ?_
    refine mm_iload_n d11_town_122 rfl ?_
    refine mm_bipush (v := 6) d11_town_123 (by decide +kernel) ?_
    refine mm_idiv d11_town_125 (by decide) ?_
    obtain ⟨hb2, h⟩ := mm_gd h
    refine mm_iald d11_town_126 (mm_wtA hS 37 0 h0 rfl rfl) (mm_inb_ok hb2) ?_
    obtain ⟨hb3, h⟩ := mm_gd h
    refine mm_iast d11_town_127 (mm_wtA hS 3 0 h0 rfl rfl) (mm_inb_ok hb3) ?_
    refine mm_aload_n d11_town_128 rfl ?_
    refine mm_getR fl_X11_16 d11_town_129 (mm_wtR hS 50 h0 rfl rfl) ?_
    refine mm_iload_n d11_town_132 rfl ?_
    refine mm_aload_n d11_town_133 rfl ?_
    refine mm_getR fl_X11_87 d11_town_134 (mm_wtR hS 50 h0 rfl rfl) ?_
    refine mm_iload_n d11_town_137 rfl ?_
    obtain ⟨hb4, h⟩ := mm_gd h
    refine mm_iald d11_town_138 (mm_wtA hS 38 0 h0 rfl rfl) (mm_inb_ok hb4) ?_
    obtain ⟨hb5, h⟩ := mm_gd h
    refine mm_iast d11_town_139 (mm_wtA hS 4 0 h0 rfl rfl) (mm_inb_ok hb5) ?_
    refine mm_aload_n d11_town_140 rfl ?_
    refine mm_getR fl_X11_19 d11_town_141 (mm_wtR hS 50 h0 rfl rfl) ?_
    refine mm_iload_n d11_town_144 rfl ?_
    refine mm_iload_n d11_town_145 rfl ?_
    refine mm_bipush (v := 6) d11_town_146 (by decide +kernel) ?_
    refine mm_idiv d11_town_148 (by decide) ?_
    refine mm_aload_n d11_town_149 rfl ?_
    refine mm_getI fl_X11_140 d11_town_150 (mm_wtI hS h0 rfl) ?_
    refine mm_icmp_ge (tgt := 174) d11_town_153 (by decide) (fun hc6 => ?_) (fun hc6 => ?_)
    · rw [if_pos hc6] at h
      refine mm_sub [(0, .ref v0), (2, .int v2)] ⟨rfl, rfl, trivial⟩ ?_
      exact ok11_town_174 l hS hrec104 h0 (mm_wtA hS 5 0 h0 rfl rfl) h
    · rw [if_neg hc6] at h
      refine mm_aload_n d11_town_156 rfl ?_
      refine mm_getR fl_X11_90 d11_town_157 (mm_wtR hS 50 h0 rfl rfl) ?_
      refine mm_iload_n d11_town_160 rfl ?_
      obtain ⟨hb7, h⟩ := mm_gd h
      refine mm_iald d11_town_161 (mm_wtA hS 40 0 h0 rfl rfl) (mm_inb_ok hb7) ?_
      refine mm_if_le (tgt := 174) d11_town_162 (by decide) (fun hc8 => ?_) (fun hc8 => ?_)
      · rw [if_pos hc8] at h
        refine mm_sub [(0, .ref v0), (2, .int v2)] ⟨rfl, rfl, trivial⟩ ?_
        exact ok11_town_174 l hS hrec104 h0 (mm_wtA hS 5 0 h0 rfl rfl) h
      · rw [if_neg hc8] at h
        refine mm_aload_n d11_town_165 rfl ?_
        refine mm_getR fl_X11_90 d11_town_166 (mm_wtR hS 50 h0 rfl rfl) ?_
        refine mm_iload_n d11_town_169 rfl ?_
        obtain ⟨hb9, h⟩ := mm_gd h
        refine mm_iald d11_town_170 (mm_wtA hS 40 0 h0 rfl rfl) (mm_inb_ok hb9) ?_
        refine mm_goto (tgt := 175) d11_town_171 (by decide) ?_
        refine mm_sub [(0, .ref v0), (2, .int v2)] ⟨rfl, rfl, trivial⟩ ?_
        exact ok11_town_175 l hS hrec104 h0 (mm_wtA hS 5 0 h0 rfl rfl) h
set_option maxHeartbeats 4000000 in
set_option maxRecDepth 100000 in
theorem ok11_town_104 (l : Launch) {S : mm_Sh} (hS : mm_WT S) {n : Nat}  : ∀ (k : Nat) {v0 : Nat} {v2 : Int32} (h0 : mm_is S v0 11) {I : mm_I} {J : mm_J} {o : Int32 × mm_I × mm_J}, f11_town_104 S n k v0 v2 I J = some o → mm_W l M11_town (mm_rm (mm_rk M11_town)) 0 0 S (mm_end S (mm_Qi o.1 o.2.1 o.2.2)) 104 [(0, .ref v0), (2, .int v2)] [] I J := by
  intro k
  induction k with
  | zero =>
    intros
    rename_i h
    cases h
  | succ k ih =>
    intro v0 v2 h0 I J o h
    exact ok11_town_104_b l hS (fun {v0 v2} h0 {I J o} h => ih h0 h) h0 h
set_option maxHeartbeats 4000000 in
set_option maxRecDepth 100000 in
theorem ok11_town_78_b (l : Launch) {S : mm_Sh} (hS : mm_WT S) {n : Nat}  {rec78 : Nat → Int32 → mm_I → mm_J → Option (Int32 × mm_I × mm_J)} (hrec78 : ∀ {v0 : Nat} {v2 : Int32} (_ : mm_is S v0 11) {I : mm_I} {J : mm_J} {o : Int32 × mm_I × mm_J}, rec78 v0 v2 I J = some o → mm_W l M11_town (mm_rm (mm_rk M11_town)) 0 0 S (mm_end S (mm_Qi o.1 o.2.1 o.2.2)) 78 [(0, .ref v0), (2, .int v2)] [] I J) {v0 : Nat} {v2 : Int32} (h0 : mm_is S v0 11) {I : mm_I} {J : mm_J} {o : Int32 × mm_I × mm_J} (h : f11_town_78_b S n rec78 v0 v2 I J = some o) : mm_W l M11_town (mm_rm (mm_rk M11_town)) 0 0 S (mm_end S (mm_Qi o.1 o.2.1 o.2.2)) 78 [(0, .ref v0), (2, .int v2)] [] I J := by
  unfold f11_town_78_b at h
  refine mm_iload_n d11_town_78 rfl ?_
  refine mm_bipush (v := 24) d11_town_79 (by decide +kernel) ?_
  refine mm_icmp_ge (tgt := 102) d11_town_81 (by decide) (fun hc1 => ?_) (fun hc1 => ?_)
  · rw [if_pos hc1] at h
    refine mm_iconst (v := 0) d11_town_102 (by decide +kernel) ?_
    refine mm_istore_n d11_town_103 rfl rfl ?_
    refine mm_sub [(0, .ref v0), (2, .int 0)] ⟨rfl, rfl, trivial⟩ ?_
    exact ok11_town_104 l hS  n h0 h
  · rw [if_neg hc1] at h
    refine mm_aload_n d11_town_84 rfl ?_
    refine mm_getR fl_X11_7 d11_town_85 (mm_wtR hS 50 h0 rfl rfl) ?_
    refine mm_iload_n d11_town_88 rfl ?_
    refine mm_aload_n d11_town_89 rfl ?_
    refine mm_getR fl_X11_81 d11_town_90 (mm_wtR hS 50 h0 rfl rfl) ?_
    refine mm_iload_n d11_town_93 rfl ?_
    obtain ⟨hb2, h⟩ := mm_gd h
    refine mm_iald d11_town_94 (mm_wtA hS 35 0 h0 rfl rfl) (mm_inb_ok hb2) ?_
    obtain ⟨hb3, h⟩ := mm_gd h
    refine mm_iast d11_town_95 (mm_wtA hS 1 0 h0 rfl rfl) (mm_inb_ok hb3) ?_
    refine mm_iinc (v := v2 + 1) d11_town_96 rfl rfl rfl rfl ?_
    refine mm_goto (tgt := 78) d11_town_99 (by decide) ?_
    refine mm_sub [(0, .ref v0), (2, .int (v2 + 1))] ⟨rfl, rfl, trivial⟩ ?_
    exact hrec78 h0 h
set_option maxHeartbeats 4000000 in
set_option maxRecDepth 100000 in
theorem ok11_town_78 (l : Launch) {S : mm_Sh} (hS : mm_WT S) {n : Nat}  : ∀ (k : Nat) {v0 : Nat} {v2 : Int32} (h0 : mm_is S v0 11) {I : mm_I} {J : mm_J} {o : Int32 × mm_I × mm_J}, f11_town_78 S n k v0 v2 I J = some o → mm_W l M11_town (mm_rm (mm_rk M11_town)) 0 0 S (mm_end S (mm_Qi o.1 o.2.1 o.2.2)) 78 [(0, .ref v0), (2, .int v2)] [] I J := by
  intro k
  induction k with
  | zero =>
    intros
    rename_i h
    cases h
  | succ k ih =>
    intro v0 v2 h0 I J o h
    exact ok11_town_78_b l hS (fun {v0 v2} h0 {I J o} h => ih h0 h) h0 h
set_option maxHeartbeats 4000000 in
set_option maxRecDepth 100000 in
theorem ok11_town_46 (l : Launch) {S : mm_Sh} (hS : mm_WT S) {n : Nat}  {v0 : Nat} {v1 : Int32} (h0 : mm_is S v0 11) {I : mm_I} {J : mm_J} {o : Int32 × mm_I × mm_J} (h : f11_town_46 S n v0 v1 I J = some o) : mm_W l M11_town (mm_rm (mm_rk M11_town)) 0 0 S (mm_end S (mm_Qi o.1 o.2.1 o.2.2)) 46 [(0, .ref v0), (1, .int v1)] [] I J := by
  unfold f11_town_46 at h
  refine mm_aload_n d11_town_46 rfl ?_
  refine mm_iconst (v := 0) d11_town_47 (by decide +kernel) ?_
  refine mm_putI fp_X11_157 d11_town_48 (mm_wtI hS h0 rfl) ?_
  refine mm_iload_n d11_town_51 rfl ?_
  refine mm_if_le (tgt := 60) d11_town_52 (by decide) (fun hc1 => ?_) (fun hc1 => ?_)
  · rw [if_pos hc1] at h
    refine mm_aload_n d11_town_60 rfl ?_
    refine mm_aload_n d11_town_61 rfl ?_
    refine mm_getI fl_X11_208 d11_town_62 (mm_wtI hS h0 rfl) ?_
    refine mm_putI fp_X11_133 d11_town_65 (mm_wtI hS h0 rfl) ?_
    refine mm_aload_n d11_town_68 rfl ?_
    refine mm_aload_n d11_town_69 rfl ?_
    refine mm_getI fl_X11_223 d11_town_70 (mm_wtI hS h0 rfl) ?_
    refine mm_putI fp_X11_140 d11_town_73 (mm_wtI hS h0 rfl) ?_
    refine mm_iconst (v := 0) d11_town_76 (by decide +kernel) ?_
    refine mm_istore_n d11_town_77 rfl rfl ?_
    refine mm_sub [(0, .ref v0), (2, .int 0)] ⟨rfl, rfl, trivial⟩ ?_
    exact ok11_town_78 l hS  n h0 h
  · rw [if_neg hc1] at h
    refine mm_bipush (v := (-10)) d11_town_55 (by decide +kernel) ?_
    refine mm_iload_n d11_town_57 rfl ?_
    refine mm_isub d11_town_58 ?_
    have h := Option.some.inj h
    subst h
    exact mm_iret rfl d11_town_59 ⟨rfl, rfl, rfl⟩
set_option maxHeartbeats 4000000 in
set_option maxRecDepth 100000 in
theorem ok11_town_27_b (l : Launch) {S : mm_Sh} (hS : mm_WT S) {n : Nat}  {rec27 : Nat → Int32 → mm_I → mm_J → Option (Int32 × mm_I × mm_J)} (hrec27 : ∀ {v0 : Nat} {v1 : Int32} (_ : mm_is S v0 11) {I : mm_I} {J : mm_J} {o : Int32 × mm_I × mm_J}, rec27 v0 v1 I J = some o → mm_W l M11_town (mm_rm (mm_rk M11_town)) 0 0 S (mm_end S (mm_Qi o.1 o.2.1 o.2.2)) 27 [(0, .ref v0), (1, .int v1)] [] I J) {v0 : Nat} {v1 : Int32} (h0 : mm_is S v0 11) {I : mm_I} {J : mm_J} {o : Int32 × mm_I × mm_J} (h : f11_town_27_b S n rec27 v0 v1 I J = some o) : mm_W l M11_town (mm_rm (mm_rk M11_town)) 0 0 S (mm_end S (mm_Qi o.1 o.2.1 o.2.2)) 27 [(0, .ref v0), (1, .int v1)] [] I J := by
  unfold f11_town_27_b at h
  refine mm_iload_n d11_town_27 rfl ?_
  refine mm_if_ne (tgt := 46) d11_town_28 (by decide) (fun hc1 => ?_) (fun hc1 => ?_)
  · rw [if_neg hc1] at h
    refine mm_sub [(0, .ref v0), (1, .int v1)] ⟨rfl, rfl, trivial⟩ ?_
    exact ok11_town_46 l hS  h0 h
  · rw [if_pos hc1] at h
    refine mm_aload_n d11_town_31 rfl ?_
    obtain ⟨o2, hk2, h⟩ := mm_bd h
    refine mm_cVi 11 (As := []) (ok11_here l hS h0 hk2) lk_X11_166 rfl d11_town_32 (mm_room rfl rfl) rfl h0 rfl rfl ?_
    refine mm_if_lt (tgt := 46) d11_town_35 (by decide) (fun hc3 => ?_) (fun hc3 => ?_)
    · rw [if_pos hc3] at h
      refine mm_sub [(0, .ref v0), (1, .int v1)] ⟨rfl, rfl, trivial⟩ ?_
      exact ok11_town_46 l hS  h0 h
    · rw [if_neg hc3] at h
      refine mm_aload_n d11_town_38 rfl ?_
      obtain ⟨o4, hk4, h⟩ := mm_bd h
      refine mm_cVi 11 (As := []) (ok11_takeClause l hS h0 hk4) lk_X11_241 rfl d11_town_39 (mm_room rfl rfl) rfl h0 rfl rfl ?_
      refine mm_istore_n d11_town_42 rfl rfl ?_
      refine mm_goto (tgt := 27) d11_town_43 (by decide) ?_
      refine mm_sub [(0, .ref v0), (1, .int o4.1)] ⟨rfl, rfl, trivial⟩ ?_
      exact hrec27 h0 h
set_option maxHeartbeats 4000000 in
set_option maxRecDepth 100000 in
theorem ok11_town_27 (l : Launch) {S : mm_Sh} (hS : mm_WT S) {n : Nat}  : ∀ (k : Nat) {v0 : Nat} {v1 : Int32} (h0 : mm_is S v0 11) {I : mm_I} {J : mm_J} {o : Int32 × mm_I × mm_J}, f11_town_27 S n k v0 v1 I J = some o → mm_W l M11_town (mm_rm (mm_rk M11_town)) 0 0 S (mm_end S (mm_Qi o.1 o.2.1 o.2.2)) 27 [(0, .ref v0), (1, .int v1)] [] I J := by
  intro k
  induction k with
  | zero =>
    intros
    rename_i h
    cases h
  | succ k ih =>
    intro v0 v1 h0 I J o h
    exact ok11_town_27_b l hS (fun {v0 v1} h0 {I J o} h => ih h0 h) h0 h
set_option maxHeartbeats 4000000 in
set_option maxRecDepth 100000 in
theorem ok11_town (l : Launch) {S : mm_Sh} (hS : mm_WT S) {n : Nat}  {v0 : Nat} (h0 : mm_is S v0 11) {I : mm_I} {J : mm_J} {o : Int32 × mm_I × mm_J} (h : f11_town S n v0 I J = some o) : mm_C l M11_town S [.ref v0] I J (mm_Qi o.1 o.2.1 o.2.2) := by
  unfold f11_town at h
  refine mm_enter rfl (by decide +kernel) rfl ?_
  refine mm_aload_n d11_town_0 rfl ?_
  refine mm_iconst (v := (-1)) d11_town_1 (by decide +kernel) ?_
  refine mm_putI fp_X11_78 d11_town_2 (mm_wtI hS h0 rfl) ?_
  refine mm_aload_n d11_town_5 rfl ?_
  refine mm_iconst (v := 0) d11_town_6 (by decide +kernel) ?_
  refine mm_putI fp_X11_163 d11_town_7 (mm_wtI hS h0 rfl) ?_
  refine mm_aload_n d11_town_10 rfl ?_
  refine mm_iconst (v := 0) d11_town_11 (by decide +kernel) ?_
  refine mm_putI fp_X11_208 d11_town_12 (mm_wtI hS h0 rfl) ?_
  refine mm_aload_n d11_town_15 rfl ?_
  refine mm_iconst (v := 0) d11_town_16 (by decide +kernel) ?_
  refine mm_putI fp_X11_223 d11_town_17 (mm_wtI hS h0 rfl) ?_
  refine mm_aload_n d11_town_20 rfl ?_
  refine mm_iconst (v := 0) d11_town_21 (by decide +kernel) ?_
  refine mm_putI fp_X11_226 d11_town_22 (mm_wtI hS h0 rfl) ?_
  refine mm_iconst (v := 0) d11_town_25 (by decide +kernel) ?_
  refine mm_istore_n d11_town_26 rfl rfl ?_
  refine mm_sub [(0, .ref v0), (1, .int 0)] ⟨rfl, rfl, trivial⟩ ?_
  exact ok11_town_27 l hS  n h0 h
