/-! ===== the machine does what the functions say: written by wip/whole/gen.py ===== -/
set_option maxHeartbeats 4000000 in
set_option maxRecDepth 100000 in
theorem ok11_bestOf_55 (l : Launch) {S : mm_Sh} (hS : mm_WT S) {n : Nat}  {rec4 : Nat → Int32 → Int32 → Int32 → mm_I → mm_J → Option (Int32)} (hrec4 : ∀ {v0 : Nat} {v1 : Int32} {v2 : Int32} {v3 : Int32} (_ : mm_is S v0 11) {I : mm_I} {J : mm_J} {o : Int32}, rec4 v0 v1 v2 v3 I J = some o → mm_W l M11_bestOf (mm_rm (mm_rk M11_bestOf)) 0 0 S (mm_end S (mm_Qi o I J)) 4 [(0, .ref v0), (1, .int v1), (2, .int v2), (3, .int v3)] [] I J) {v0 : Nat} {v1 : Int32} {v3 : Int32} {s0 : Int32} (h0 : mm_is S v0 11) {I : mm_I} {J : mm_J} {o : Int32} (h : f11_bestOf_55 S n rec4 v0 v1 v3 s0 I J = some o) : mm_W l M11_bestOf (mm_rm (mm_rk M11_bestOf)) 0 0 S (mm_end S (mm_Qi o I J)) 55 [(0, .ref v0), (1, .int v1), (3, .int v3)] [.int s0] I J := by
  unfold f11_bestOf_55 at h
  refine mm_istore_n d11_bestOf_55 rfl rfl ?_
  refine mm_iinc (v := v3 + 1) d11_bestOf_56 rfl rfl rfl rfl ?_
  refine mm_goto (tgt := 4) d11_bestOf_59 (by decide) ?_
  refine mm_sub [(0, .ref v0), (1, .int v1), (2, .int s0), (3, .int (v3 + 1))] ⟨rfl, rfl, rfl, rfl, trivial⟩ ?_
  exact hrec4 h0 h
set_option maxHeartbeats 4000000 in
set_option maxRecDepth 100000 in
theorem ok11_bestOf_50 (l : Launch) {S : mm_Sh} (hS : mm_WT S) {n : Nat}  {rec4 : Nat → Int32 → Int32 → Int32 → mm_I → mm_J → Option (Int32)} (hrec4 : ∀ {v0 : Nat} {v1 : Int32} {v2 : Int32} {v3 : Int32} (_ : mm_is S v0 11) {I : mm_I} {J : mm_J} {o : Int32}, rec4 v0 v1 v2 v3 I J = some o → mm_W l M11_bestOf (mm_rm (mm_rk M11_bestOf)) 0 0 S (mm_end S (mm_Qi o I J)) 4 [(0, .ref v0), (1, .int v1), (2, .int v2), (3, .int v3)] [] I J) {v0 : Nat} {v1 : Int32} {v3 : Int32} (h0 : mm_is S v0 11) {I : mm_I} {J : mm_J} {o : Int32} (h : f11_bestOf_50 S n rec4 v0 v1 v3 I J = some o) : mm_W l M11_bestOf (mm_rm (mm_rk M11_bestOf)) 0 0 S (mm_end S (mm_Qi o I J)) 50 [(0, .ref v0), (1, .int v1), (3, .int v3)] [] I J := by
  unfold f11_bestOf_50 at h
  refine mm_iload_n d11_bestOf_50 rfl ?_
  refine mm_goto (tgt := 55) d11_bestOf_51 (by decide) ?_
  refine mm_sub [(0, .ref v0), (1, .int v1), (3, .int v3)] ⟨rfl, rfl, rfl, trivial⟩ ?_
  exact ok11_bestOf_55 l hS hrec4 h0 h
set_option maxHeartbeats 4000000 in
set_option maxRecDepth 100000 in
theorem ok11_bestOf_54 (l : Launch) {S : mm_Sh} (hS : mm_WT S) {n : Nat}  {rec4 : Nat → Int32 → Int32 → Int32 → mm_I → mm_J → Option (Int32)} (hrec4 : ∀ {v0 : Nat} {v1 : Int32} {v2 : Int32} {v3 : Int32} (_ : mm_is S v0 11) {I : mm_I} {J : mm_J} {o : Int32}, rec4 v0 v1 v2 v3 I J = some o → mm_W l M11_bestOf (mm_rm (mm_rk M11_bestOf)) 0 0 S (mm_end S (mm_Qi o I J)) 4 [(0, .ref v0), (1, .int v1), (2, .int v2), (3, .int v3)] [] I J) {v0 : Nat} {v1 : Int32} {v2 : Int32} {v3 : Int32} (h0 : mm_is S v0 11) {I : mm_I} {J : mm_J} {o : Int32} (h : f11_bestOf_54 S n rec4 v0 v1 v2 v3 I J = some o) : mm_W l M11_bestOf (mm_rm (mm_rk M11_bestOf)) 0 0 S (mm_end S (mm_Qi o I J)) 54 [(0, .ref v0), (1, .int v1), (2, .int v2), (3, .int v3)] [] I J := by
  unfold f11_bestOf_54 at h
  refine mm_iload_n d11_bestOf_54 rfl ?_
  refine mm_sub [(0, .ref v0), (1, .int v1), (3, .int v3)] ⟨rfl, rfl, rfl, trivial⟩ ?_
  exact ok11_bestOf_55 l hS hrec4 h0 h
set_option maxHeartbeats 4000000 in
set_option maxRecDepth 100000 in
theorem ok11_bestOf_4_b (l : Launch) {S : mm_Sh} (hS : mm_WT S) {n : Nat}  {rec4 : Nat → Int32 → Int32 → Int32 → mm_I → mm_J → Option (Int32)} (hrec4 : ∀ {v0 : Nat} {v1 : Int32} {v2 : Int32} {v3 : Int32} (_ : mm_is S v0 11) {I : mm_I} {J : mm_J} {o : Int32}, rec4 v0 v1 v2 v3 I J = some o → mm_W l M11_bestOf (mm_rm (mm_rk M11_bestOf)) 0 0 S (mm_end S (mm_Qi o I J)) 4 [(0, .ref v0), (1, .int v1), (2, .int v2), (3, .int v3)] [] I J) {v0 : Nat} {v1 : Int32} {v2 : Int32} {v3 : Int32} (h0 : mm_is S v0 11) {I : mm_I} {J : mm_J} {o : Int32} (h : f11_bestOf_4_b S n rec4 v0 v1 v2 v3 I J = some o) : mm_W l M11_bestOf (mm_rm (mm_rk M11_bestOf)) 0 0 S (mm_end S (mm_Qi o I J)) 4 [(0, .ref v0), (1, .int v1), (2, .int v2), (3, .int v3)] [] I J := by
  unfold f11_bestOf_4_b at h
  refine mm_iload_n d11_bestOf_4 rfl ?_
  refine mm_aload_n d11_bestOf_5 rfl ?_
  refine mm_getI fl_X11_133 d11_bestOf_6 (mm_wtI hS h0 rfl) ?_
  refine mm_icmp_ge (tgt := 62) d11_bestOf_9 (by decide) (fun hc1 => ?_) (fun hc1 => ?_)
  · rw [if_pos hc1] at h
    refine mm_iload_n d11_bestOf_62 rfl ?_
    have h := Option.some.inj h
    subst h
    exact mm_iret rfl d11_bestOf_63 ⟨rfl, rfl, rfl⟩
  · rw [if_neg hc1] at h
    refine mm_aload_n d11_bestOf_12 rfl ?_
    refine mm_iload_n d11_bestOf_13 rfl ?_
    refine mm_iload_n d11_bestOf_14 rfl ?_
    obtain ⟨o2, hk2, h⟩ := mm_bd h
    refine mm_cVi 11 (As := [.int v1, .int v3]) (ok11_knows l hS h0 hk2) lk_X11_143 rfl d11_bestOf_15 (mm_room rfl rfl) rfl h0 rfl rfl ?_
    refine mm_if_eq (tgt := 54) d11_bestOf_18 (by decide) (fun hc3 => ?_) (fun hc3 => ?_)
    · rw [if_pos hc3] at h
      refine mm_sub [(0, .ref v0), (1, .int v1), (2, .int v2), (3, .int v3)] ⟨rfl, rfl, rfl, rfl, trivial⟩ ?_
      exact ok11_bestOf_54 l hS hrec4 h0 h
    · rw [if_neg hc3] at h
      refine mm_iload_n d11_bestOf_21 rfl ?_
      refine mm_if_lt (tgt := 50) d11_bestOf_22 (by decide) (fun hc4 => ?_) (fun hc4 => ?_)
      · rw [if_pos hc4] at h
        refine mm_sub [(0, .ref v0), (1, .int v1), (3, .int v3)] ⟨rfl, rfl, rfl, trivial⟩ ?_
        exact ok11_bestOf_50 l hS hrec4 h0 h
      · rw [if_neg hc4] at h
        refine mm_aload_n d11_bestOf_25 rfl ?_
        refine mm_getR fl_X11_45 d11_bestOf_26 (mm_wtR hS 50 h0 rfl rfl) ?_
        refine mm_bipush (v := 6) d11_bestOf_29 (by decide +kernel) ?_
        refine mm_iload_n d11_bestOf_31 rfl ?_
        refine mm_imul d11_bestOf_32 ?_
        refine mm_iload_n d11_bestOf_33 rfl ?_
        refine mm_iadd d11_bestOf_34 ?_
        obtain ⟨hb5, h⟩ := mm_gd h
        refine mm_iald d11_bestOf_35 (mm_wtA hS 14 0 h0 rfl rfl) (mm_inb_ok hb5) ?_
        refine mm_aload_n d11_bestOf_36 rfl ?_
        refine mm_getR fl_X11_45 d11_bestOf_37 (mm_wtR hS 50 h0 rfl rfl) ?_
        refine mm_bipush (v := 6) d11_bestOf_40 (by decide +kernel) ?_
        refine mm_iload_n d11_bestOf_42 rfl ?_
        refine mm_imul d11_bestOf_43 ?_
        refine mm_iload_n d11_bestOf_44 rfl ?_
        refine mm_iadd d11_bestOf_45 ?_
        obtain ⟨hb6, h⟩ := mm_gd h
        refine mm_iald d11_bestOf_46 (mm_wtA hS 14 0 h0 rfl rfl) (mm_inb_ok hb6) ?_
        refine mm_icmp_le (tgt := 54) d11_bestOf_47 (by decide) (fun hc7 => ?_) (fun hc7 => ?_)
        · rw [if_pos hc7] at h
          refine mm_sub [(0, .ref v0), (1, .int v1), (2, .int v2), (3, .int v3)] ⟨rfl, rfl, rfl, rfl, trivial⟩ ?_
          exact ok11_bestOf_54 l hS hrec4 h0 h
        · rw [if_neg hc7] at h
          refine mm_sub [(0, .ref v0), (1, .int v1), (3, .int v3)] ⟨rfl, rfl, rfl, trivial⟩ ?_
          exact ok11_bestOf_50 l hS hrec4 h0 h
set_option maxHeartbeats 4000000 in
set_option maxRecDepth 100000 in
theorem ok11_bestOf_4 (l : Launch) {S : mm_Sh} (hS : mm_WT S) {n : Nat}  : ∀ (k : Nat) {v0 : Nat} {v1 : Int32} {v2 : Int32} {v3 : Int32} (h0 : mm_is S v0 11) {I : mm_I} {J : mm_J} {o : Int32}, f11_bestOf_4 S n k v0 v1 v2 v3 I J = some o → mm_W l M11_bestOf (mm_rm (mm_rk M11_bestOf)) 0 0 S (mm_end S (mm_Qi o I J)) 4 [(0, .ref v0), (1, .int v1), (2, .int v2), (3, .int v3)] [] I J := by
  intro k
  induction k with
  | zero =>
    intros
    rename_i h
    cases h
  | succ k ih =>
    intro v0 v1 v2 v3 h0 I J o h
    exact ok11_bestOf_4_b l hS (fun {v0 v1 v2 v3} h0 {I J o} h => ih h0 h) h0 h
set_option maxHeartbeats 4000000 in
set_option maxRecDepth 100000 in
theorem ok11_bestOf (l : Launch) {S : mm_Sh} (hS : mm_WT S) {n : Nat}  {v0 : Nat} {v1 : Int32} (h0 : mm_is S v0 11) {I : mm_I} {J : mm_J} {o : Int32} (h : f11_bestOf S n v0 v1 I J = some o) : mm_C l M11_bestOf S [.ref v0, .int v1] I J (mm_Qi o I J) := by
  unfold f11_bestOf at h
  refine mm_enter rfl (by decide +kernel) rfl ?_
  refine mm_iconst (v := (-1)) d11_bestOf_0 (by decide +kernel) ?_
  refine mm_istore_n d11_bestOf_1 rfl rfl ?_
  refine mm_iconst (v := 0) d11_bestOf_2 (by decide +kernel) ?_
  refine mm_istore_n d11_bestOf_3 rfl rfl ?_
  refine mm_sub [(0, .ref v0), (1, .int v1), (2, .int (-1)), (3, .int 0)] ⟨rfl, rfl, rfl, rfl, trivial⟩ ?_
  exact ok11_bestOf_4 l hS  n h0 h
set_option maxHeartbeats 4000000 in
set_option maxRecDepth 100000 in
theorem ok11_costOf_51 (l : Launch) {S : mm_Sh} (hS : mm_WT S)  {s0 : Int32}  {I : mm_I} {J : mm_J} {o : Int32} (h : f11_costOf_51 S s0 I J = some o) : mm_W l M11_costOf (mm_rm (mm_rk M11_costOf)) 0 0 S (mm_end S (mm_Qi o I J)) 51 [] [.int s0] I J := by
  unfold f11_costOf_51 at h
  have h := Option.some.inj h
  subst h
  exact mm_iret rfl d11_costOf_51 ⟨rfl, rfl, rfl⟩
set_option maxHeartbeats 4000000 in
set_option maxRecDepth 100000 in
theorem ok11_costOf_99 (l : Launch) {S : mm_Sh} (hS : mm_WT S)  {s0 : Int32}  {I : mm_I} {J : mm_J} {o : Int32} (h : f11_costOf_99 S s0 I J = some o) : mm_W l M11_costOf (mm_rm (mm_rk M11_costOf)) 0 0 S (mm_end S (mm_Qi o I J)) 99 [] [.int s0] I J := by
  unfold f11_costOf_99 at h
  have h := Option.some.inj h
  subst h
  exact mm_iret rfl d11_costOf_99 ⟨rfl, rfl, rfl⟩
set_option maxHeartbeats 4000000 in
set_option maxRecDepth 100000 in
theorem ok11_costOf_91 (l : Launch) {S : mm_Sh} (hS : mm_WT S)    {I : mm_I} {J : mm_J} {o : Int32} (h : f11_costOf_91 S  I J = some o) : mm_W l M11_costOf (mm_rm (mm_rk M11_costOf)) 0 0 S (mm_end S (mm_Qi o I J)) 91 [] [] I J := by
  unfold f11_costOf_91 at h
  refine mm_ldcw (v := 1000000) d11_costOf_91 kX11_354 ?_
  refine mm_goto (tgt := 99) d11_costOf_94 (by decide) ?_
  refine mm_sub [] trivial ?_
  exact ok11_costOf_99 l hS   h
set_option maxHeartbeats 4000000 in
set_option maxRecDepth 100000 in
theorem ok11_costOf_97 (l : Launch) {S : mm_Sh} (hS : mm_WT S)  {v4 : Int32}  {I : mm_I} {J : mm_J} {o : Int32} (h : f11_costOf_97 S v4 I J = some o) : mm_W l M11_costOf (mm_rm (mm_rk M11_costOf)) 0 0 S (mm_end S (mm_Qi o I J)) 97 [(4, .int v4)] [] I J := by
  unfold f11_costOf_97 at h
  refine mm_iload d11_costOf_97 rfl ?_
  refine mm_sub [] trivial ?_
  exact ok11_costOf_99 l hS   h
set_option maxHeartbeats 4000000 in
set_option maxRecDepth 100000 in
theorem ok11_costOf (l : Launch) {S : mm_Sh} (hS : mm_WT S)  {v0 : Nat} {v1 : Int32} {v2 : Int32} (h0 : mm_is S v0 11) {I : mm_I} {J : mm_J} {o : Int32} (h : f11_costOf S v0 v1 v2 I J = some o) : mm_C l M11_costOf S [.ref v0, .int v1, .int v2] I J (mm_Qi o I J) := by
  unfold f11_costOf at h
  refine mm_enter rfl (by decide +kernel) rfl ?_
  refine mm_aload_n d11_costOf_0 rfl ?_
  refine mm_getR fl_X11_45 d11_costOf_1 (mm_wtR hS 50 h0 rfl rfl) ?_
  refine mm_bipush (v := 6) d11_costOf_4 (by decide +kernel) ?_
  refine mm_iload_n d11_costOf_6 rfl ?_
  refine mm_imul d11_costOf_7 ?_
  refine mm_iload_n d11_costOf_8 rfl ?_
  refine mm_iadd d11_costOf_9 ?_
  obtain ⟨hb1, h⟩ := mm_gd h
  refine mm_iald d11_costOf_10 (mm_wtA hS 14 0 h0 rfl rfl) (mm_inb_ok hb1) ?_
  refine mm_istore_n d11_costOf_11 rfl rfl ?_
  refine mm_aload_n d11_costOf_12 rfl ?_
  refine mm_getR fl_X11_7 d11_costOf_13 (mm_wtR hS 50 h0 rfl rfl) ?_
  refine mm_iconst (v := 4) d11_costOf_16 (by decide +kernel) ?_
  refine mm_iload_n d11_costOf_17 rfl ?_
  refine mm_imul d11_costOf_18 ?_
  refine mm_iconst (v := 1) d11_costOf_19 (by decide +kernel) ?_
  refine mm_iadd d11_costOf_20 ?_
  obtain ⟨hb2, h⟩ := mm_gd h
  refine mm_iald d11_costOf_21 (mm_wtA hS 1 0 h0 rfl rfl) (mm_inb_ok hb2) ?_
  refine mm_istore d11_costOf_22 rfl rfl ?_
  refine mm_iload_n d11_costOf_24 rfl ?_
  refine mm_if_le (tgt := 52) d11_costOf_25 (by decide) (fun hc3 => ?_) (fun hc3 => ?_)
  · rw [if_pos hc3] at h
    refine mm_aload_n d11_costOf_52 rfl ?_
    refine mm_getR fl_X11_7 d11_costOf_53 (mm_wtR hS 50 h0 rfl rfl) ?_
    refine mm_iconst (v := 4) d11_costOf_56 (by decide +kernel) ?_
    refine mm_iload_n d11_costOf_57 rfl ?_
    refine mm_imul d11_costOf_58 ?_
    refine mm_iconst (v := 3) d11_costOf_59 (by decide +kernel) ?_
    refine mm_iadd d11_costOf_60 ?_
    obtain ⟨hb4, h⟩ := mm_gd h
    refine mm_iald d11_costOf_61 (mm_wtA hS 1 0 h0 rfl rfl) (mm_inb_ok hb4) ?_
    refine mm_istore d11_costOf_62 rfl rfl ?_
    refine mm_aload_n d11_costOf_64 rfl ?_
    refine mm_getR fl_X11_7 d11_costOf_65 (mm_wtR hS 50 h0 rfl rfl) ?_
    refine mm_iconst (v := 4) d11_costOf_68 (by decide +kernel) ?_
    refine mm_iload_n d11_costOf_69 rfl ?_
    refine mm_imul d11_costOf_70 ?_
    obtain ⟨hb5, h⟩ := mm_gd h
    refine mm_iald d11_costOf_71 (mm_wtA hS 1 0 h0 rfl rfl) (mm_inb_ok hb5) ?_
    refine mm_iconst (v := 3) d11_costOf_72 (by decide +kernel) ?_
    refine mm_icmp_eq (tgt := 91) d11_costOf_73 (by decide) (fun hc6 => ?_) (fun hc6 => ?_)
    · rw [if_pos hc6] at h
      refine mm_sub [] trivial ?_
      exact ok11_costOf_91 l hS   h
    · rw [if_neg hc6] at h
      refine mm_iload d11_costOf_76 rfl ?_
      refine mm_if_lt (tgt := 97) d11_costOf_78 (by decide) (fun hc7 => ?_) (fun hc7 => ?_)
      · rw [if_pos hc7] at h
        refine mm_sub [(4, .int (I (mm_rf S v0 1) ((4 * v2) + 1).toNatClampNeg))] ⟨rfl, trivial⟩ ?_
        exact ok11_costOf_97 l hS   h
      · rw [if_neg hc7] at h
        refine mm_aload_n d11_costOf_81 rfl ?_
        refine mm_iload_n d11_costOf_82 rfl ?_
        refine mm_iload d11_costOf_83 rfl ?_
        obtain ⟨o8, hk8, h⟩ := mm_bd h
        refine mm_cVi 11 (As := [.int v1, .int (I (mm_rf S v0 1) ((4 * v2) + 3).toNatClampNeg)]) (ok11_knows l hS h0 hk8) lk_X11_143 rfl d11_costOf_85 (mm_room rfl rfl) rfl h0 rfl rfl ?_
        refine mm_if_ne (tgt := 97) d11_costOf_88 (by decide) (fun hc9 => ?_) (fun hc9 => ?_)
        · rw [if_neg hc9] at h
          refine mm_sub [(4, .int (I (mm_rf S v0 1) ((4 * v2) + 1).toNatClampNeg))] ⟨rfl, trivial⟩ ?_
          exact ok11_costOf_97 l hS   h
        · rw [if_pos hc9] at h
          refine mm_sub [] trivial ?_
          exact ok11_costOf_91 l hS   h
  · rw [if_neg hc3] at h
    refine mm_iload_n d11_costOf_28 rfl ?_
    refine mm_bipush (v := 50) d11_costOf_29 (by decide +kernel) ?_
    refine mm_icmp_lt (tgt := 38) d11_costOf_31 (by decide) (fun hc10 => ?_) (fun hc10 => ?_)
    · rw [if_pos hc10] at h
      refine mm_iload d11_costOf_38 rfl ?_
      refine mm_bipush (v := 100) d11_costOf_40 (by decide +kernel) ?_
      refine mm_iload_n d11_costOf_42 rfl ?_
      refine mm_isub d11_costOf_43 ?_
      refine mm_imul d11_costOf_44 ?_
      refine mm_bipush (v := 99) d11_costOf_45 (by decide +kernel) ?_
      refine mm_iadd d11_costOf_47 ?_
      refine mm_bipush (v := 100) d11_costOf_48 (by decide +kernel) ?_
      refine mm_idiv d11_costOf_50 (by decide) ?_
      refine mm_sub [] trivial ?_
      exact ok11_costOf_51 l hS   h
    · rw [if_neg hc10] at h
      refine mm_iconst (v := 0) d11_costOf_34 (by decide +kernel) ?_
      refine mm_goto (tgt := 51) d11_costOf_35 (by decide) ?_
      refine mm_sub [] trivial ?_
      exact ok11_costOf_51 l hS   h
set_option maxHeartbeats 4000000 in
set_option maxRecDepth 100000 in
theorem ok11_deadSet_29 (l : Launch) {S : mm_Sh} (hS : mm_WT S) {n : Nat}  {rec4 : Nat → Int32 → Int32 → mm_I → mm_J → Option (Int32)} (hrec4 : ∀ {v0 : Nat} {v1 : Int32} {v2 : Int32} (_ : mm_is S v0 11) {I : mm_I} {J : mm_J} {o : Int32}, rec4 v0 v1 v2 I J = some o → mm_W l M11_deadSet (mm_rm (mm_rk M11_deadSet)) 0 0 S (mm_end S (mm_Qi o I J)) 4 [(0, .ref v0), (1, .int v1), (2, .int v2)] [] I J) {v0 : Nat} {v2 : Int32} {s0 : Int32} {s1 : Int32} (h0 : mm_is S v0 11) {I : mm_I} {J : mm_J} {o : Int32} (h : f11_deadSet_29 S n rec4 v0 v2 s0 s1 I J = some o) : mm_W l M11_deadSet (mm_rm (mm_rk M11_deadSet)) 0 0 S (mm_end S (mm_Qi o I J)) 29 [(0, .ref v0), (2, .int v2)] [.int s1, .int s0] I J := by
  unfold f11_deadSet_29 at h
  refine mm_ior d11_deadSet_29 ?_
  refine mm_istore_n d11_deadSet_30 rfl rfl ?_
  refine mm_iinc (v := v2 + 1) d11_deadSet_31 rfl rfl rfl rfl ?_
  refine mm_goto (tgt := 4) d11_deadSet_34 (by decide) ?_
  refine mm_sub [(0, .ref v0), (1, .int (s0 ||| s1)), (2, .int (v2 + 1))] ⟨rfl, rfl, rfl, trivial⟩ ?_
  exact hrec4 h0 h
set_option maxHeartbeats 4000000 in
set_option maxRecDepth 100000 in
theorem ok11_deadSet_4_b (l : Launch) {S : mm_Sh} (hS : mm_WT S) {n : Nat}  {rec4 : Nat → Int32 → Int32 → mm_I → mm_J → Option (Int32)} (hrec4 : ∀ {v0 : Nat} {v1 : Int32} {v2 : Int32} (_ : mm_is S v0 11) {I : mm_I} {J : mm_J} {o : Int32}, rec4 v0 v1 v2 I J = some o → mm_W l M11_deadSet (mm_rm (mm_rk M11_deadSet)) 0 0 S (mm_end S (mm_Qi o I J)) 4 [(0, .ref v0), (1, .int v1), (2, .int v2)] [] I J) {v0 : Nat} {v1 : Int32} {v2 : Int32} (h0 : mm_is S v0 11) {I : mm_I} {J : mm_J} {o : Int32} (h : f11_deadSet_4_b S n rec4 v0 v1 v2 I J = some o) : mm_W l M11_deadSet (mm_rm (mm_rk M11_deadSet)) 0 0 S (mm_end S (mm_Qi o I J)) 4 [(0, .ref v0), (1, .int v1), (2, .int v2)] [] I J := by
  unfold f11_deadSet_4_b at h
  refine mm_iload_n d11_deadSet_4 rfl ?_
  refine mm_aload_n d11_deadSet_5 rfl ?_
  refine mm_getI fl_X11_133 d11_deadSet_6 (mm_wtI hS h0 rfl) ?_
  refine mm_icmp_ge (tgt := 37) d11_deadSet_9 (by decide) (fun hc1 => ?_) (fun hc1 => ?_)
  · rw [if_pos hc1] at h
    refine mm_iload_n d11_deadSet_37 rfl ?_
    have h := Option.some.inj h
    subst h
    exact mm_iret rfl d11_deadSet_38 ⟨rfl, rfl, rfl⟩
  · rw [if_neg hc1] at h
    refine mm_iload_n d11_deadSet_12 rfl ?_
    refine mm_aload_n d11_deadSet_13 rfl ?_
    refine mm_iload_n d11_deadSet_14 rfl ?_
    refine mm_iconst (v := 1) d11_deadSet_15 (by decide +kernel) ?_
    obtain ⟨o2, hk2, h⟩ := mm_bd h
    refine mm_cVi 11 (As := [.int v2, .int 1]) (ok11_knowers l hS h0 hk2) lk_X11_258 rfl d11_deadSet_16 (mm_room rfl rfl) rfl h0 rfl rfl ?_
    refine mm_if_ne (tgt := 28) d11_deadSet_19 (by decide) (fun hc3 => ?_) (fun hc3 => ?_)
    · rw [if_neg hc3] at h
      refine mm_iconst (v := 0) d11_deadSet_28 (by decide +kernel) ?_
      refine mm_sub [(0, .ref v0), (2, .int v2)] ⟨rfl, rfl, trivial⟩ ?_
      exact ok11_deadSet_29 l hS hrec4 h0 h
    · rw [if_pos hc3] at h
      refine mm_iconst (v := 1) d11_deadSet_22 (by decide +kernel) ?_
      refine mm_iload_n d11_deadSet_23 rfl ?_
      refine mm_ishl d11_deadSet_24 ?_
      refine mm_goto (tgt := 29) d11_deadSet_25 (by decide) ?_
      refine mm_sub [(0, .ref v0), (2, .int v2)] ⟨rfl, rfl, trivial⟩ ?_
      exact ok11_deadSet_29 l hS hrec4 h0 h
set_option maxHeartbeats 4000000 in
set_option maxRecDepth 100000 in
theorem ok11_deadSet_4 (l : Launch) {S : mm_Sh} (hS : mm_WT S) {n : Nat}  : ∀ (k : Nat) {v0 : Nat} {v1 : Int32} {v2 : Int32} (h0 : mm_is S v0 11) {I : mm_I} {J : mm_J} {o : Int32}, f11_deadSet_4 S n k v0 v1 v2 I J = some o → mm_W l M11_deadSet (mm_rm (mm_rk M11_deadSet)) 0 0 S (mm_end S (mm_Qi o I J)) 4 [(0, .ref v0), (1, .int v1), (2, .int v2)] [] I J := by
  intro k
  induction k with
  | zero =>
    intros
    rename_i h
    cases h
  | succ k ih =>
    intro v0 v1 v2 h0 I J o h
    exact ok11_deadSet_4_b l hS (fun {v0 v1 v2} h0 {I J o} h => ih h0 h) h0 h
set_option maxHeartbeats 4000000 in
set_option maxRecDepth 100000 in
theorem ok11_deadSet (l : Launch) {S : mm_Sh} (hS : mm_WT S) {n : Nat}  {v0 : Nat} (h0 : mm_is S v0 11) {I : mm_I} {J : mm_J} {o : Int32} (h : f11_deadSet S n v0 I J = some o) : mm_C l M11_deadSet S [.ref v0] I J (mm_Qi o I J) := by
  unfold f11_deadSet at h
  refine mm_enter rfl (by decide +kernel) rfl ?_
  refine mm_iconst (v := 0) d11_deadSet_0 (by decide +kernel) ?_
  refine mm_istore_n d11_deadSet_1 rfl rfl ?_
  refine mm_iconst (v := 0) d11_deadSet_2 (by decide +kernel) ?_
  refine mm_istore_n d11_deadSet_3 rfl rfl ?_
  refine mm_sub [(0, .ref v0), (1, .int 0), (2, .int 0)] ⟨rfl, rfl, rfl, trivial⟩ ?_
  exact ok11_deadSet_4 l hS  n h0 h
set_option maxHeartbeats 4000000 in
set_option maxRecDepth 100000 in
theorem ok11_feed_35_b (l : Launch) {S : mm_Sh} (hS : mm_WT S) {n : Nat}  {rec35 : Nat → Int64 → Int32 → mm_I → mm_J → Option (Int32 × mm_I × mm_J)} (hrec35 : ∀ {v0 : Nat} {v2 : Int64} {v4 : Int32} (_ : mm_is S v0 11) {I : mm_I} {J : mm_J} {o : Int32 × mm_I × mm_J}, rec35 v0 v2 v4 I J = some o → mm_W l M11_feed (mm_rm (mm_rk M11_feed)) 0 0 S (mm_end S (mm_Qi o.1 o.2.1 o.2.2)) 35 [(0, .ref v0), (2, .long v2), (4, .int v4)] [] I J) {v0 : Nat} {v2 : Int64} {v4 : Int32} (h0 : mm_is S v0 11) {I : mm_I} {J : mm_J} {o : Int32 × mm_I × mm_J} (h : f11_feed_35_b S n rec35 v0 v2 v4 I J = some o) : mm_W l M11_feed (mm_rm (mm_rk M11_feed)) 0 0 S (mm_end S (mm_Qi o.1 o.2.1 o.2.2)) 35 [(0, .ref v0), (2, .long v2), (4, .int v4)] [] I J := by
  unfold f11_feed_35_b at h
  refine mm_iload d11_feed_35 rfl ?_
  refine mm_if_lt (tgt := 77) d11_feed_37 (by decide) (fun hc1 => ?_) (fun hc1 => ?_)
  · rw [if_pos hc1] at h
    refine mm_aload_n d11_feed_77 rfl ?_
    refine mm_getI fl_X11_157 d11_feed_78 (mm_wtI hS h0 rfl) ?_
    have h := Option.some.inj h
    subst h
    exact mm_iret rfl d11_feed_81 ⟨rfl, rfl, rfl⟩
  · rw [if_neg hc1] at h
    refine mm_aload_n d11_feed_40 rfl ?_
    refine mm_getR fl_X11_75 d11_feed_41 (mm_wtR hS 50 h0 rfl rfl) ?_
    refine mm_aload_n d11_feed_44 rfl ?_
    refine mm_getI fl_X11_157 d11_feed_45 (mm_wtI hS h0 rfl) ?_
    refine mm_lload_n d11_feed_48 rfl ?_
    refine mm_bipush (v := 8) d11_feed_49 (by decide +kernel) ?_
    refine mm_iload d11_feed_51 rfl ?_
    refine mm_imul d11_feed_53 ?_
    refine mm_lshr d11_feed_54 ?_
    refine mm_ldc2 (v := 255) d11_feed_55 kX11_161 ?_
    refine mm_land d11_feed_58 ?_
    refine mm_l2i d11_feed_59 ?_
    obtain ⟨hb2, h⟩ := mm_gd h
    refine mm_iast d11_feed_60 (mm_wtA hS 26 0 h0 rfl rfl) (mm_inb_ok hb2) ?_
    refine mm_aload_n d11_feed_61 rfl ?_
    refine mm_dup d11_feed_62 rfl ?_
    refine mm_getI fl_X11_157 d11_feed_63 (mm_wtI hS h0 rfl) ?_
    refine mm_iconst (v := 1) d11_feed_66 (by decide +kernel) ?_
    refine mm_iadd d11_feed_67 ?_
    refine mm_putI fp_X11_157 d11_feed_68 (mm_wtI hS h0 rfl) ?_
    refine mm_iinc (v := v4 + (-1)) d11_feed_71 rfl rfl rfl rfl ?_
    refine mm_goto (tgt := 35) d11_feed_74 (by decide) ?_
    refine mm_sub [(0, .ref v0), (2, .long v2), (4, .int (v4 + (-1)))] ⟨rfl, rfl, rfl, trivial⟩ ?_
    exact hrec35 h0 h
set_option maxHeartbeats 4000000 in
set_option maxRecDepth 100000 in
theorem ok11_feed_35 (l : Launch) {S : mm_Sh} (hS : mm_WT S) {n : Nat}  : ∀ (k : Nat) {v0 : Nat} {v2 : Int64} {v4 : Int32} (h0 : mm_is S v0 11) {I : mm_I} {J : mm_J} {o : Int32 × mm_I × mm_J}, f11_feed_35 S n k v0 v2 v4 I J = some o → mm_W l M11_feed (mm_rm (mm_rk M11_feed)) 0 0 S (mm_end S (mm_Qi o.1 o.2.1 o.2.2)) 35 [(0, .ref v0), (2, .long v2), (4, .int v4)] [] I J := by
  intro k
  induction k with
  | zero =>
    intros
    rename_i h
    cases h
  | succ k ih =>
    intro v0 v2 v4 h0 I J o h
    exact ok11_feed_35_b l hS (fun {v0 v2 v4} h0 {I J o} h => ih h0 h) h0 h
set_option maxHeartbeats 4000000 in
set_option maxRecDepth 100000 in
theorem ok11_feed (l : Launch) {S : mm_Sh} (hS : mm_WT S) {n : Nat}  {v0 : Nat} {v1 : Int32} {v2 : Int64} (h0 : mm_is S v0 11) {I : mm_I} {J : mm_J} {o : Int32 × mm_I × mm_J} (h : f11_feed S n v0 v1 v2 I J = some o) : mm_C l M11_feed S [.ref v0, .int v1, .long v2] I J (mm_Qi o.1 o.2.1 o.2.2) := by
  unfold f11_feed at h
  refine mm_enter rfl (by decide +kernel) rfl ?_
  refine mm_iload_n d11_feed_0 rfl ?_
  refine mm_i2l d11_feed_1 ?_
  refine mm_lconst (v := 1) d11_feed_2 (by decide +kernel) ?_
  refine mm_ldc2 (v := 8) d11_feed_3 kX11_154 ?_
  obtain ⟨o1, hk1, h⟩ := mm_bd h
  refine mm_cSi (As := [.long v1.toInt64, .long 1, .long 8]) (ok11_in l hS hk1) lk_X11_136 rfl d11_feed_6 (mm_room rfl rfl) rfl rfl ?_
  refine mm_if_ne (tgt := 15) d11_feed_9 (by decide) (fun hc2 => ?_) (fun hc2 => ?_)
  · rw [if_neg hc2] at h
    refine mm_aload_n d11_feed_15 rfl ?_
    refine mm_getI fl_X11_157 d11_feed_16 (mm_wtI hS h0 rfl) ?_
    refine mm_iload_n d11_feed_19 rfl ?_
    refine mm_iadd d11_feed_20 ?_
    refine mm_sipush (v := 500) d11_feed_21 (by decide +kernel) ?_
    refine mm_icmp_le (tgt := 30) d11_feed_24 (by decide) (fun hc3 => ?_) (fun hc3 => ?_)
    · rw [if_pos hc3] at h
      refine mm_iload_n d11_feed_30 rfl ?_
      refine mm_iconst (v := 1) d11_feed_31 (by decide +kernel) ?_
      refine mm_isub d11_feed_32 ?_
      refine mm_istore d11_feed_33 rfl rfl ?_
      refine mm_sub [(0, .ref v0), (2, .long v2), (4, .int (v1 - 1))] ⟨rfl, rfl, rfl, trivial⟩ ?_
      exact ok11_feed_35 l hS  n h0 h
    · rw [if_neg hc3] at h
      refine mm_ldc (v := (-1000000004)) d11_feed_27 kX11_160 ?_
      have h := Option.some.inj h
      subst h
      exact mm_iret rfl d11_feed_29 ⟨rfl, rfl, rfl⟩
  · rw [if_pos hc2] at h
    refine mm_ldc (v := (-1000000002)) d11_feed_12 kX11_156 ?_
    have h := Option.some.inj h
    subst h
    exact mm_iret rfl d11_feed_14 ⟨rfl, rfl, rfl⟩
set_option maxHeartbeats 4000000 in
set_option maxRecDepth 100000 in
theorem ok11_findWitnesses_88 (l : Launch) {S : mm_Sh} (hS : mm_WT S) {n : Nat}  {rec5 : Nat → Int32 → Int32 → Int32 → Int32 → mm_I → mm_J → Option (Int32)} (hrec5 : ∀ {v0 : Nat} {v1 : Int32} {v2 : Int32} {v3 : Int32} {v4 : Int32} (_ : mm_is S v0 11) {I : mm_I} {J : mm_J} {o : Int32}, rec5 v0 v1 v2 v3 v4 I J = some o → mm_W l M11_findWitnesses (mm_rm (mm_rk M11_findWitnesses)) 0 0 S (mm_end S (mm_Qi o I J)) 5 [(0, .ref v0), (1, .int v1), (2, .int v2), (3, .int v3), (4, .int v4)] [] I J) {v0 : Nat} {v1 : Int32} {v2 : Int32} {v4 : Int32} {s0 : Int32} {s1 : Int32} (h0 : mm_is S v0 11) {I : mm_I} {J : mm_J} {o : Int32} (h : f11_findWitnesses_88 S n rec5 v0 v1 v2 v4 s0 s1 I J = some o) : mm_W l M11_findWitnesses (mm_rm (mm_rk M11_findWitnesses)) 0 0 S (mm_end S (mm_Qi o I J)) 88 [(0, .ref v0), (1, .int v1), (2, .int v2), (4, .int v4)] [.int s1, .int s0] I J := by
  unfold f11_findWitnesses_88 at h
  refine mm_ior d11_findWitnesses_88 ?_
  refine mm_istore_n d11_findWitnesses_89 rfl rfl ?_
  refine mm_iinc (v := v4 + 1) d11_findWitnesses_90 rfl rfl rfl rfl ?_
  refine mm_goto (tgt := 5) d11_findWitnesses_93 (by decide) ?_
  refine mm_sub [(0, .ref v0), (1, .int v1), (2, .int v2), (3, .int (s0 ||| s1)), (4, .int (v4 + 1))] ⟨rfl, rfl, rfl, rfl, rfl, trivial⟩ ?_
  exact hrec5 h0 h
set_option maxHeartbeats 4000000 in
set_option maxRecDepth 100000 in
theorem ok11_findWitnesses_72 (l : Launch) {S : mm_Sh} (hS : mm_WT S) {n : Nat}  {rec5 : Nat → Int32 → Int32 → Int32 → Int32 → mm_I → mm_J → Option (Int32)} (hrec5 : ∀ {v0 : Nat} {v1 : Int32} {v2 : Int32} {v3 : Int32} {v4 : Int32} (_ : mm_is S v0 11) {I : mm_I} {J : mm_J} {o : Int32}, rec5 v0 v1 v2 v3 v4 I J = some o → mm_W l M11_findWitnesses (mm_rm (mm_rk M11_findWitnesses)) 0 0 S (mm_end S (mm_Qi o I J)) 5 [(0, .ref v0), (1, .int v1), (2, .int v2), (3, .int v3), (4, .int v4)] [] I J) {v0 : Nat} {v1 : Int32} {v2 : Int32} {v3 : Int32} {v4 : Int32} {s0 : Int32} (h0 : mm_is S v0 11) {I : mm_I} {J : mm_J} {o : Int32} (h : f11_findWitnesses_72 S n rec5 v0 v1 v2 v3 v4 s0 I J = some o) : mm_W l M11_findWitnesses (mm_rm (mm_rk M11_findWitnesses)) 0 0 S (mm_end S (mm_Qi o I J)) 72 [(0, .ref v0), (1, .int v1), (2, .int v2), (3, .int v3), (4, .int v4)] [.int s0] I J := by
  unfold f11_findWitnesses_72 at h
  refine mm_istore d11_findWitnesses_72 rfl rfl ?_
  refine mm_iload_n d11_findWitnesses_74 rfl ?_
  refine mm_iload d11_findWitnesses_75 rfl ?_
  refine mm_if_eq (tgt := 87) d11_findWitnesses_77 (by decide) (fun hc1 => ?_) (fun hc1 => ?_)
  · rw [if_pos hc1] at h
    refine mm_iconst (v := 0) d11_findWitnesses_87 (by decide +kernel) ?_
    refine mm_sub [(0, .ref v0), (1, .int v1), (2, .int v2), (4, .int v4)] ⟨rfl, rfl, rfl, rfl, trivial⟩ ?_
    exact ok11_findWitnesses_88 l hS hrec5 h0 h
  · rw [if_neg hc1] at h
    refine mm_iconst (v := 1) d11_findWitnesses_80 (by decide +kernel) ?_
    refine mm_iload d11_findWitnesses_81 rfl ?_
    refine mm_ishl d11_findWitnesses_83 ?_
    refine mm_goto (tgt := 88) d11_findWitnesses_84 (by decide) ?_
    refine mm_sub [(0, .ref v0), (1, .int v1), (2, .int v2), (4, .int v4)] ⟨rfl, rfl, rfl, rfl, trivial⟩ ?_
    exact ok11_findWitnesses_88 l hS hrec5 h0 h
set_option maxHeartbeats 4000000 in
set_option maxRecDepth 100000 in
theorem ok11_findWitnesses_71 (l : Launch) {S : mm_Sh} (hS : mm_WT S) {n : Nat}  {rec5 : Nat → Int32 → Int32 → Int32 → Int32 → mm_I → mm_J → Option (Int32)} (hrec5 : ∀ {v0 : Nat} {v1 : Int32} {v2 : Int32} {v3 : Int32} {v4 : Int32} (_ : mm_is S v0 11) {I : mm_I} {J : mm_J} {o : Int32}, rec5 v0 v1 v2 v3 v4 I J = some o → mm_W l M11_findWitnesses (mm_rm (mm_rk M11_findWitnesses)) 0 0 S (mm_end S (mm_Qi o I J)) 5 [(0, .ref v0), (1, .int v1), (2, .int v2), (3, .int v3), (4, .int v4)] [] I J) {v0 : Nat} {v1 : Int32} {v2 : Int32} {v3 : Int32} {v4 : Int32} (h0 : mm_is S v0 11) {I : mm_I} {J : mm_J} {o : Int32} (h : f11_findWitnesses_71 S n rec5 v0 v1 v2 v3 v4 I J = some o) : mm_W l M11_findWitnesses (mm_rm (mm_rk M11_findWitnesses)) 0 0 S (mm_end S (mm_Qi o I J)) 71 [(0, .ref v0), (1, .int v1), (2, .int v2), (3, .int v3), (4, .int v4)] [] I J := by
  unfold f11_findWitnesses_71 at h
  refine mm_iconst (v := 0) d11_findWitnesses_71 (by decide +kernel) ?_
  refine mm_sub [(0, .ref v0), (1, .int v1), (2, .int v2), (3, .int v3), (4, .int v4)] ⟨rfl, rfl, rfl, rfl, rfl, trivial⟩ ?_
  exact ok11_findWitnesses_72 l hS hrec5 h0 h
set_option maxHeartbeats 4000000 in
set_option maxRecDepth 100000 in
theorem ok11_findWitnesses_112 (l : Launch) {S : mm_Sh} (hS : mm_WT S) {n : Nat}  {s0 : Int32}  {I : mm_I} {J : mm_J} {o : Int32} (h : f11_findWitnesses_112 S n s0 I J = some o) : mm_W l M11_findWitnesses (mm_rm (mm_rk M11_findWitnesses)) 0 0 S (mm_end S (mm_Qi o I J)) 112 [] [.int s0] I J := by
  unfold f11_findWitnesses_112 at h
  have h := Option.some.inj h
  subst h
  exact mm_iret rfl d11_findWitnesses_112 ⟨rfl, rfl, rfl⟩
set_option maxHeartbeats 4000000 in
set_option maxRecDepth 100000 in
theorem ok11_findWitnesses_96 (l : Launch) {S : mm_Sh} (hS : mm_WT S) {n : Nat}  {v0 : Nat} {v3 : Int32} (h0 : mm_is S v0 11) {I : mm_I} {J : mm_J} {o : Int32} (h : f11_findWitnesses_96 S n v0 v3 I J = some o) : mm_W l M11_findWitnesses (mm_rm (mm_rk M11_findWitnesses)) 0 0 S (mm_end S (mm_Qi o I J)) 96 [(0, .ref v0), (3, .int v3)] [] I J := by
  unfold f11_findWitnesses_96 at h
  refine mm_iload_n d11_findWitnesses_96 rfl ?_
  obtain ⟨o1, hk1, h⟩ := mm_bd h
  refine mm_cSi (As := [.int v3]) (ok11_bits l hS hk1) lk_X11_278 rfl d11_findWitnesses_97 (mm_room rfl rfl) rfl rfl ?_
  refine mm_aload_n d11_findWitnesses_100 rfl ?_
  refine mm_getI fl_X11_26 d11_findWitnesses_101 (mm_wtI hS h0 rfl) ?_
  refine mm_icmp_ge (tgt := 111) d11_findWitnesses_104 (by decide) (fun hc2 => ?_) (fun hc2 => ?_)
  · rw [if_pos hc2] at h
    refine mm_iload_n d11_findWitnesses_111 rfl ?_
    refine mm_sub [] trivial ?_
    exact ok11_findWitnesses_112 l hS   h
  · rw [if_neg hc2] at h
    refine mm_iconst (v := (-1)) d11_findWitnesses_107 (by decide +kernel) ?_
    refine mm_goto (tgt := 112) d11_findWitnesses_108 (by decide) ?_
    refine mm_sub [] trivial ?_
    exact ok11_findWitnesses_112 l hS   h
set_option maxHeartbeats 4000000 in
set_option maxRecDepth 100000 in
theorem ok11_findWitnesses_5_b (l : Launch) {S : mm_Sh} (hS : mm_WT S) {n : Nat}  {rec5 : Nat → Int32 → Int32 → Int32 → Int32 → mm_I → mm_J → Option (Int32)} (hrec5 : ∀ {v0 : Nat} {v1 : Int32} {v2 : Int32} {v3 : Int32} {v4 : Int32} (_ : mm_is S v0 11) {I : mm_I} {J : mm_J} {o : Int32}, rec5 v0 v1 v2 v3 v4 I J = some o → mm_W l M11_findWitnesses (mm_rm (mm_rk M11_findWitnesses)) 0 0 S (mm_end S (mm_Qi o I J)) 5 [(0, .ref v0), (1, .int v1), (2, .int v2), (3, .int v3), (4, .int v4)] [] I J) {v0 : Nat} {v1 : Int32} {v2 : Int32} {v3 : Int32} {v4 : Int32} (h0 : mm_is S v0 11) {I : mm_I} {J : mm_J} {o : Int32} (h : f11_findWitnesses_5_b S n rec5 v0 v1 v2 v3 v4 I J = some o) : mm_W l M11_findWitnesses (mm_rm (mm_rk M11_findWitnesses)) 0 0 S (mm_end S (mm_Qi o I J)) 5 [(0, .ref v0), (1, .int v1), (2, .int v2), (3, .int v3), (4, .int v4)] [] I J := by
  unfold f11_findWitnesses_5_b at h
  refine mm_iload d11_findWitnesses_5 rfl ?_
  refine mm_aload_n d11_findWitnesses_7 rfl ?_
  refine mm_getI fl_X11_140 d11_findWitnesses_8 (mm_wtI hS h0 rfl) ?_
  refine mm_icmp_ge (tgt := 96) d11_findWitnesses_11 (by decide) (fun hc1 => ?_) (fun hc1 => ?_)
  · rw [if_pos hc1] at h
    refine mm_sub [(0, .ref v0), (3, .int v3)] ⟨rfl, rfl, trivial⟩ ?_
    exact ok11_findWitnesses_96 l hS  h0 h
  · rw [if_neg hc1] at h
    refine mm_iload_n d11_findWitnesses_14 rfl ?_
    obtain ⟨o2, hk2, h⟩ := mm_bd h
    refine mm_cSi (As := [.int v3]) (ok11_bits l hS hk2) lk_X11_278 rfl d11_findWitnesses_15 (mm_room rfl rfl) rfl rfl ?_
    refine mm_aload_n d11_findWitnesses_18 rfl ?_
    refine mm_getI fl_X11_26 d11_findWitnesses_19 (mm_wtI hS h0 rfl) ?_
    refine mm_icmp_ge (tgt := 96) d11_findWitnesses_22 (by decide) (fun hc3 => ?_) (fun hc3 => ?_)
    · rw [if_pos hc3] at h
      refine mm_sub [(0, .ref v0), (3, .int v3)] ⟨rfl, rfl, trivial⟩ ?_
      exact ok11_findWitnesses_96 l hS  h0 h
    · rw [if_neg hc3] at h
      refine mm_iload d11_findWitnesses_25 rfl ?_
      refine mm_iload_n d11_findWitnesses_27 rfl ?_
      refine mm_icmp_eq (tgt := 71) d11_findWitnesses_28 (by decide) (fun hc4 => ?_) (fun hc4 => ?_)
      · rw [if_pos hc4] at h
        refine mm_sub [(0, .ref v0), (1, .int v1), (2, .int v2), (3, .int v3), (4, .int v4)] ⟨rfl, rfl, rfl, rfl, rfl, trivial⟩ ?_
        exact ok11_findWitnesses_71 l hS hrec5 h0 h
      · rw [if_neg hc4] at h
        refine mm_iload d11_findWitnesses_31 rfl ?_
        refine mm_iload_n d11_findWitnesses_33 rfl ?_
        refine mm_icmp_eq (tgt := 71) d11_findWitnesses_34 (by decide) (fun hc5 => ?_) (fun hc5 => ?_)
        · rw [if_pos hc5] at h
          refine mm_sub [(0, .ref v0), (1, .int v1), (2, .int v2), (3, .int v3), (4, .int v4)] ⟨rfl, rfl, rfl, rfl, rfl, trivial⟩ ?_
          exact ok11_findWitnesses_71 l hS hrec5 h0 h
        · rw [if_neg hc5] at h
          refine mm_aload_n d11_findWitnesses_37 rfl ?_
          refine mm_getR fl_X11_41 d11_findWitnesses_38 (mm_wtR hS 51 h0 rfl rfl) ?_
          refine mm_iload d11_findWitnesses_41 rfl ?_
          obtain ⟨hb6, h⟩ := mm_gd h
          refine mm_zald d11_findWitnesses_43 (mm_wtA hS 13 1 h0 rfl rfl) (mm_inb_ok hb6) ?_
          refine mm_if_eq (tgt := 71) d11_findWitnesses_44 (by decide) (fun hc7 => ?_) (fun hc7 => ?_)
          · rw [if_pos hc7] at h
            refine mm_sub [(0, .ref v0), (1, .int v1), (2, .int v2), (3, .int v3), (4, .int v4)] ⟨rfl, rfl, rfl, rfl, rfl, trivial⟩ ?_
            exact ok11_findWitnesses_71 l hS hrec5 h0 h
          · rw [if_neg hc7] at h
            refine mm_aload_n d11_findWitnesses_47 rfl ?_
            refine mm_getR fl_X11_54 d11_findWitnesses_48 (mm_wtR hS 50 h0 rfl rfl) ?_
            refine mm_iload d11_findWitnesses_51 rfl ?_
            obtain ⟨hb8, h⟩ := mm_gd h
            refine mm_iald d11_findWitnesses_53 (mm_wtA hS 17 0 h0 rfl rfl) (mm_inb_ok hb8) ?_
            refine mm_if_ge (tgt := 71) d11_findWitnesses_54 (by decide) (fun hc9 => ?_) (fun hc9 => ?_)
            · rw [if_pos hc9] at h
              refine mm_sub [(0, .ref v0), (1, .int v1), (2, .int v2), (3, .int v3), (4, .int v4)] ⟨rfl, rfl, rfl, rfl, rfl, trivial⟩ ?_
              exact ok11_findWitnesses_71 l hS hrec5 h0 h
            · rw [if_neg hc9] at h
              refine mm_aload_n d11_findWitnesses_57 rfl ?_
              refine mm_getR fl_X11_66 d11_findWitnesses_58 (mm_wtR hS 51 h0 rfl rfl) ?_
              refine mm_iload d11_findWitnesses_61 rfl ?_
              obtain ⟨hb10, h⟩ := mm_gd h
              refine mm_zald d11_findWitnesses_63 (mm_wtA hS 21 1 h0 rfl rfl) (mm_inb_ok hb10) ?_
              refine mm_if_ne (tgt := 71) d11_findWitnesses_64 (by decide) (fun hc11 => ?_) (fun hc11 => ?_)
              · rw [if_neg hc11] at h
                refine mm_sub [(0, .ref v0), (1, .int v1), (2, .int v2), (3, .int v3), (4, .int v4)] ⟨rfl, rfl, rfl, rfl, rfl, trivial⟩ ?_
                exact ok11_findWitnesses_71 l hS hrec5 h0 h
              · rw [if_pos hc11] at h
                refine mm_iconst (v := 1) d11_findWitnesses_67 (by decide +kernel) ?_
                refine mm_goto (tgt := 72) d11_findWitnesses_68 (by decide) ?_
                refine mm_sub [(0, .ref v0), (1, .int v1), (2, .int v2), (3, .int v3), (4, .int v4)] ⟨rfl, rfl, rfl, rfl, rfl, trivial⟩ ?_
                exact ok11_findWitnesses_72 l hS hrec5 h0 h
set_option maxHeartbeats 4000000 in
set_option maxRecDepth 100000 in
theorem ok11_findWitnesses_5 (l : Launch) {S : mm_Sh} (hS : mm_WT S) {n : Nat}  : ∀ (k : Nat) {v0 : Nat} {v1 : Int32} {v2 : Int32} {v3 : Int32} {v4 : Int32} (h0 : mm_is S v0 11) {I : mm_I} {J : mm_J} {o : Int32}, f11_findWitnesses_5 S n k v0 v1 v2 v3 v4 I J = some o → mm_W l M11_findWitnesses (mm_rm (mm_rk M11_findWitnesses)) 0 0 S (mm_end S (mm_Qi o I J)) 5 [(0, .ref v0), (1, .int v1), (2, .int v2), (3, .int v3), (4, .int v4)] [] I J := by
  intro k
  induction k with
  | zero =>
    intros
    rename_i h
    cases h
  | succ k ih =>
    intro v0 v1 v2 v3 v4 h0 I J o h
    exact ok11_findWitnesses_5_b l hS (fun {v0 v1 v2 v3 v4} h0 {I J o} h => ih h0 h) h0 h
set_option maxHeartbeats 4000000 in
set_option maxRecDepth 100000 in
theorem ok11_findWitnesses (l : Launch) {S : mm_Sh} (hS : mm_WT S) {n : Nat}  {v0 : Nat} {v1 : Int32} {v2 : Int32} (h0 : mm_is S v0 11) {I : mm_I} {J : mm_J} {o : Int32} (h : f11_findWitnesses S n v0 v1 v2 I J = some o) : mm_C l M11_findWitnesses S [.ref v0, .int v1, .int v2] I J (mm_Qi o I J) := by
  unfold f11_findWitnesses at h
  refine mm_enter rfl (by decide +kernel) rfl ?_
  refine mm_iconst (v := 0) d11_findWitnesses_0 (by decide +kernel) ?_
  refine mm_istore_n d11_findWitnesses_1 rfl rfl ?_
  refine mm_iconst (v := 0) d11_findWitnesses_2 (by decide +kernel) ?_
  refine mm_istore d11_findWitnesses_3 rfl rfl ?_
  refine mm_sub [(0, .ref v0), (1, .int v1), (2, .int v2), (3, .int 0), (4, .int 0)] ⟨rfl, rfl, rfl, rfl, rfl, trivial⟩ ?_
  exact ok11_findWitnesses_5 l hS  n h0 h
set_option maxHeartbeats 4000000 in
set_option maxRecDepth 100000 in
theorem ok11_fits_24 (l : Launch) {S : mm_Sh} (hS : mm_WT S) {n : Nat}    {I : mm_I} {J : mm_J} {o : Int32} (h : f11_fits_24 S n  I J = some o) : mm_W l M11_fits (mm_rm (mm_rk M11_fits)) 0 0 S (mm_end S (mm_Qi o I J)) 24 [] [] I J := by
  unfold f11_fits_24 at h
  refine mm_ldc (v := (-1000000002)) d11_fits_24 kX11_156 ?_
  have h := Option.some.inj h
  subst h
  exact mm_iret rfl d11_fits_26 ⟨rfl, rfl, rfl⟩
set_option maxHeartbeats 4000000 in
set_option maxRecDepth 100000 in
theorem ok11_fits_125 (l : Launch) {S : mm_Sh} (hS : mm_WT S) {n : Nat}  {rec44 : Nat → Int32 → Int32 → Int32 → Int32 → Int32 → Int32 → Int32 → mm_I → mm_J → Option (Int32)} (hrec44 : ∀ {v0 : Nat} {v1 : Int32} {v2 : Int32} {v3 : Int32} {v4 : Int32} {v5 : Int32} {v6 : Int32} {v7 : Int32} (_ : mm_is S v0 11) {I : mm_I} {J : mm_J} {o : Int32}, rec44 v0 v1 v2 v3 v4 v5 v6 v7 I J = some o → mm_W l M11_fits (mm_rm (mm_rk M11_fits)) 0 0 S (mm_end S (mm_Qi o I J)) 44 [(0, .ref v0), (1, .int v1), (2, .int v2), (3, .int v3), (4, .int v4), (5, .int v5), (6, .int v6), (7, .int v7)] [] I J) {rec82 : Nat → Int32 → Int32 → Int32 → Int32 → Int32 → Int32 → Int32 → Int32 → Int32 → mm_I → mm_J → Option (Int32)} (hrec82 : ∀ {v0 : Nat} {v1 : Int32} {v2 : Int32} {v3 : Int32} {v4 : Int32} {v5 : Int32} {v6 : Int32} {v7 : Int32} {v8 : Int32} {v9 : Int32} (_ : mm_is S v0 11) {I : mm_I} {J : mm_J} {o : Int32}, rec82 v0 v1 v2 v3 v4 v5 v6 v7 v8 v9 I J = some o → mm_W l M11_fits (mm_rm (mm_rk M11_fits)) 0 0 S (mm_end S (mm_Qi o I J)) 82 [(0, .ref v0), (1, .int v1), (2, .int v2), (3, .int v3), (4, .int v4), (5, .int v5), (6, .int v6), (7, .int v7), (8, .int v8), (9, .int v9)] [] I J) {v0 : Nat} {v1 : Int32} {v2 : Int32} {v3 : Int32} {v4 : Int32} {v5 : Int32} {v6 : Int32} {v7 : Int32} {v9 : Int32} {s0 : Int32} (h0 : mm_is S v0 11) {I : mm_I} {J : mm_J} {o : Int32} (h : f11_fits_125 S n rec44 rec82 v0 v1 v2 v3 v4 v5 v6 v7 v9 s0 I J = some o) : mm_W l M11_fits (mm_rm (mm_rk M11_fits)) 0 0 S (mm_end S (mm_Qi o I J)) 125 [(0, .ref v0), (1, .int v1), (2, .int v2), (3, .int v3), (4, .int v4), (5, .int v5), (6, .int v6), (7, .int v7), (9, .int v9)] [.int s0] I J := by
  unfold f11_fits_125 at h
  refine mm_istore d11_fits_125 rfl rfl ?_
  refine mm_iinc (v := v9 + 1) d11_fits_127 rfl rfl rfl rfl ?_
  refine mm_goto (tgt := 82) d11_fits_130 (by decide) ?_
  refine mm_sub [(0, .ref v0), (1, .int v1), (2, .int v2), (3, .int v3), (4, .int v4), (5, .int v5), (6, .int v6), (7, .int v7), (8, .int s0), (9, .int (v9 + 1))] ⟨rfl, rfl, rfl, rfl, rfl, rfl, rfl, rfl, rfl, rfl, trivial⟩ ?_
  exact hrec82 h0 h
set_option maxHeartbeats 4000000 in
set_option maxRecDepth 100000 in
theorem ok11_fits_124 (l : Launch) {S : mm_Sh} (hS : mm_WT S) {n : Nat}  {rec44 : Nat → Int32 → Int32 → Int32 → Int32 → Int32 → Int32 → Int32 → mm_I → mm_J → Option (Int32)} (hrec44 : ∀ {v0 : Nat} {v1 : Int32} {v2 : Int32} {v3 : Int32} {v4 : Int32} {v5 : Int32} {v6 : Int32} {v7 : Int32} (_ : mm_is S v0 11) {I : mm_I} {J : mm_J} {o : Int32}, rec44 v0 v1 v2 v3 v4 v5 v6 v7 I J = some o → mm_W l M11_fits (mm_rm (mm_rk M11_fits)) 0 0 S (mm_end S (mm_Qi o I J)) 44 [(0, .ref v0), (1, .int v1), (2, .int v2), (3, .int v3), (4, .int v4), (5, .int v5), (6, .int v6), (7, .int v7)] [] I J) {rec82 : Nat → Int32 → Int32 → Int32 → Int32 → Int32 → Int32 → Int32 → Int32 → Int32 → mm_I → mm_J → Option (Int32)} (hrec82 : ∀ {v0 : Nat} {v1 : Int32} {v2 : Int32} {v3 : Int32} {v4 : Int32} {v5 : Int32} {v6 : Int32} {v7 : Int32} {v8 : Int32} {v9 : Int32} (_ : mm_is S v0 11) {I : mm_I} {J : mm_J} {o : Int32}, rec82 v0 v1 v2 v3 v4 v5 v6 v7 v8 v9 I J = some o → mm_W l M11_fits (mm_rm (mm_rk M11_fits)) 0 0 S (mm_end S (mm_Qi o I J)) 82 [(0, .ref v0), (1, .int v1), (2, .int v2), (3, .int v3), (4, .int v4), (5, .int v5), (6, .int v6), (7, .int v7), (8, .int v8), (9, .int v9)] [] I J) {v0 : Nat} {v1 : Int32} {v2 : Int32} {v3 : Int32} {v4 : Int32} {v5 : Int32} {v6 : Int32} {v7 : Int32} {v9 : Int32} (h0 : mm_is S v0 11) {I : mm_I} {J : mm_J} {o : Int32} (h : f11_fits_124 S n rec44 rec82 v0 v1 v2 v3 v4 v5 v6 v7 v9 I J = some o) : mm_W l M11_fits (mm_rm (mm_rk M11_fits)) 0 0 S (mm_end S (mm_Qi o I J)) 124 [(0, .ref v0), (1, .int v1), (2, .int v2), (3, .int v3), (4, .int v4), (5, .int v5), (6, .int v6), (7, .int v7), (9, .int v9)] [] I J := by
  unfold f11_fits_124 at h
  refine mm_iconst (v := 0) d11_fits_124 (by decide +kernel) ?_
  refine mm_sub [(0, .ref v0), (1, .int v1), (2, .int v2), (3, .int v3), (4, .int v4), (5, .int v5), (6, .int v6), (7, .int v7), (9, .int v9)] ⟨rfl, rfl, rfl, rfl, rfl, rfl, rfl, rfl, rfl, trivial⟩ ?_
  exact ok11_fits_125 l hS hrec44 hrec82 h0 h
set_option maxHeartbeats 4000000 in
set_option maxRecDepth 100000 in
theorem ok11_fits_164 (l : Launch) {S : mm_Sh} (hS : mm_WT S) {n : Nat}  {rec44 : Nat → Int32 → Int32 → Int32 → Int32 → Int32 → Int32 → Int32 → mm_I → mm_J → Option (Int32)} (hrec44 : ∀ {v0 : Nat} {v1 : Int32} {v2 : Int32} {v3 : Int32} {v4 : Int32} {v5 : Int32} {v6 : Int32} {v7 : Int32} (_ : mm_is S v0 11) {I : mm_I} {J : mm_J} {o : Int32}, rec44 v0 v1 v2 v3 v4 v5 v6 v7 I J = some o → mm_W l M11_fits (mm_rm (mm_rk M11_fits)) 0 0 S (mm_end S (mm_Qi o I J)) 44 [(0, .ref v0), (1, .int v1), (2, .int v2), (3, .int v3), (4, .int v4), (5, .int v5), (6, .int v6), (7, .int v7)] [] I J) {v0 : Nat} {v1 : Int32} {v2 : Int32} {v3 : Int32} {v4 : Int32} {v5 : Int32} {v6 : Int32} {v7 : Int32} (h0 : mm_is S v0 11) {I : mm_I} {J : mm_J} {o : Int32} (h : f11_fits_164 S n rec44 v0 v1 v2 v3 v4 v5 v6 v7 I J = some o) : mm_W l M11_fits (mm_rm (mm_rk M11_fits)) 0 0 S (mm_end S (mm_Qi o I J)) 164 [(0, .ref v0), (1, .int v1), (2, .int v2), (3, .int v3), (4, .int v4), (5, .int v5), (6, .int v6), (7, .int v7)] [] I J := by
  unfold f11_fits_164 at h
  refine mm_iinc (v := v7 + 1) d11_fits_164 rfl rfl rfl rfl ?_
  refine mm_goto (tgt := 44) d11_fits_167 (by decide) ?_
  refine mm_sub [(0, .ref v0), (1, .int v1), (2, .int v2), (3, .int v3), (4, .int v4), (5, .int v5), (6, .int v6), (7, .int (v7 + 1))] ⟨rfl, rfl, rfl, rfl, rfl, rfl, rfl, rfl, trivial⟩ ?_
  exact hrec44 h0 h
set_option maxHeartbeats 4000000 in
set_option maxRecDepth 100000 in
theorem ok11_fits_161 (l : Launch) {S : mm_Sh} (hS : mm_WT S) {n : Nat}  {rec44 : Nat → Int32 → Int32 → Int32 → Int32 → Int32 → Int32 → Int32 → mm_I → mm_J → Option (Int32)} (hrec44 : ∀ {v0 : Nat} {v1 : Int32} {v2 : Int32} {v3 : Int32} {v4 : Int32} {v5 : Int32} {v6 : Int32} {v7 : Int32} (_ : mm_is S v0 11) {I : mm_I} {J : mm_J} {o : Int32}, rec44 v0 v1 v2 v3 v4 v5 v6 v7 I J = some o → mm_W l M11_fits (mm_rm (mm_rk M11_fits)) 0 0 S (mm_end S (mm_Qi o I J)) 44 [(0, .ref v0), (1, .int v1), (2, .int v2), (3, .int v3), (4, .int v4), (5, .int v5), (6, .int v6), (7, .int v7)] [] I J) {v0 : Nat} {v1 : Int32} {v2 : Int32} {v3 : Int32} {v4 : Int32} {v5 : Int32} {v7 : Int32} {s0 : Int32} {s1 : Int32} (h0 : mm_is S v0 11) {I : mm_I} {J : mm_J} {o : Int32} (h : f11_fits_161 S n rec44 v0 v1 v2 v3 v4 v5 v7 s0 s1 I J = some o) : mm_W l M11_fits (mm_rm (mm_rk M11_fits)) 0 0 S (mm_end S (mm_Qi o I J)) 161 [(0, .ref v0), (1, .int v1), (2, .int v2), (3, .int v3), (4, .int v4), (5, .int v5), (7, .int v7)] [.int s1, .int s0] I J := by
  unfold f11_fits_161 at h
  refine mm_iand d11_fits_161 ?_
  refine mm_istore d11_fits_162 rfl rfl ?_
  refine mm_sub [(0, .ref v0), (1, .int v1), (2, .int v2), (3, .int v3), (4, .int v4), (5, .int v5), (6, .int (s0 &&& s1)), (7, .int v7)] ⟨rfl, rfl, rfl, rfl, rfl, rfl, rfl, rfl, trivial⟩ ?_
  exact ok11_fits_164 l hS hrec44 h0 h
set_option maxHeartbeats 4000000 in
set_option maxRecDepth 100000 in
theorem ok11_fits_145 (l : Launch) {S : mm_Sh} (hS : mm_WT S) {n : Nat}  {rec44 : Nat → Int32 → Int32 → Int32 → Int32 → Int32 → Int32 → Int32 → mm_I → mm_J → Option (Int32)} (hrec44 : ∀ {v0 : Nat} {v1 : Int32} {v2 : Int32} {v3 : Int32} {v4 : Int32} {v5 : Int32} {v6 : Int32} {v7 : Int32} (_ : mm_is S v0 11) {I : mm_I} {J : mm_J} {o : Int32}, rec44 v0 v1 v2 v3 v4 v5 v6 v7 I J = some o → mm_W l M11_fits (mm_rm (mm_rk M11_fits)) 0 0 S (mm_end S (mm_Qi o I J)) 44 [(0, .ref v0), (1, .int v1), (2, .int v2), (3, .int v3), (4, .int v4), (5, .int v5), (6, .int v6), (7, .int v7)] [] I J) {v0 : Nat} {v1 : Int32} {v2 : Int32} {v3 : Int32} {v5 : Int32} {v6 : Int32} {v7 : Int32} {v8 : Int32} {s0 : Int32} {s1 : Int32} (h0 : mm_is S v0 11) {I : mm_I} {J : mm_J} {o : Int32} (h : f11_fits_145 S n rec44 v0 v1 v2 v3 v5 v6 v7 v8 s0 s1 I J = some o) : mm_W l M11_fits (mm_rm (mm_rk M11_fits)) 0 0 S (mm_end S (mm_Qi o I J)) 145 [(0, .ref v0), (1, .int v1), (2, .int v2), (3, .int v3), (5, .int v5), (6, .int v6), (7, .int v7), (8, .int v8)] [.int s1, .int s0] I J := by
  unfold f11_fits_145 at h
  refine mm_iadd d11_fits_145 ?_
  refine mm_istore d11_fits_146 rfl rfl ?_
  refine mm_iload d11_fits_148 rfl ?_
  refine mm_iload d11_fits_150 rfl ?_
  refine mm_if_eq (tgt := 160) d11_fits_152 (by decide) (fun hc1 => ?_) (fun hc1 => ?_)
  · rw [if_pos hc1] at h
    refine mm_iconst (v := (-1)) d11_fits_160 (by decide +kernel) ?_
    refine mm_sub [(0, .ref v0), (1, .int v1), (2, .int v2), (3, .int v3), (4, .int (s0 + s1)), (5, .int v5), (7, .int v7)] ⟨rfl, rfl, rfl, rfl, rfl, rfl, rfl, trivial⟩ ?_
    exact ok11_fits_161 l hS hrec44 h0 h
  · rw [if_neg hc1] at h
    refine mm_iload d11_fits_155 rfl ?_
    refine mm_goto (tgt := 161) d11_fits_157 (by decide) ?_
    refine mm_sub [(0, .ref v0), (1, .int v1), (2, .int v2), (3, .int v3), (4, .int (s0 + s1)), (5, .int v5), (7, .int v7)] ⟨rfl, rfl, rfl, rfl, rfl, rfl, rfl, trivial⟩ ?_
    exact ok11_fits_161 l hS hrec44 h0 h
set_option maxHeartbeats 4000000 in
set_option maxRecDepth 100000 in
theorem ok11_fits_82_b (l : Launch) {S : mm_Sh} (hS : mm_WT S) {n : Nat}  {rec44 : Nat → Int32 → Int32 → Int32 → Int32 → Int32 → Int32 → Int32 → mm_I → mm_J → Option (Int32)} (hrec44 : ∀ {v0 : Nat} {v1 : Int32} {v2 : Int32} {v3 : Int32} {v4 : Int32} {v5 : Int32} {v6 : Int32} {v7 : Int32} (_ : mm_is S v0 11) {I : mm_I} {J : mm_J} {o : Int32}, rec44 v0 v1 v2 v3 v4 v5 v6 v7 I J = some o → mm_W l M11_fits (mm_rm (mm_rk M11_fits)) 0 0 S (mm_end S (mm_Qi o I J)) 44 [(0, .ref v0), (1, .int v1), (2, .int v2), (3, .int v3), (4, .int v4), (5, .int v5), (6, .int v6), (7, .int v7)] [] I J) {rec82 : Nat → Int32 → Int32 → Int32 → Int32 → Int32 → Int32 → Int32 → Int32 → Int32 → mm_I → mm_J → Option (Int32)} (hrec82 : ∀ {v0 : Nat} {v1 : Int32} {v2 : Int32} {v3 : Int32} {v4 : Int32} {v5 : Int32} {v6 : Int32} {v7 : Int32} {v8 : Int32} {v9 : Int32} (_ : mm_is S v0 11) {I : mm_I} {J : mm_J} {o : Int32}, rec82 v0 v1 v2 v3 v4 v5 v6 v7 v8 v9 I J = some o → mm_W l M11_fits (mm_rm (mm_rk M11_fits)) 0 0 S (mm_end S (mm_Qi o I J)) 82 [(0, .ref v0), (1, .int v1), (2, .int v2), (3, .int v3), (4, .int v4), (5, .int v5), (6, .int v6), (7, .int v7), (8, .int v8), (9, .int v9)] [] I J) {v0 : Nat} {v1 : Int32} {v2 : Int32} {v3 : Int32} {v4 : Int32} {v5 : Int32} {v6 : Int32} {v7 : Int32} {v8 : Int32} {v9 : Int32} (h0 : mm_is S v0 11) {I : mm_I} {J : mm_J} {o : Int32} (h : f11_fits_82_b S n rec44 rec82 v0 v1 v2 v3 v4 v5 v6 v7 v8 v9 I J = some o) : mm_W l M11_fits (mm_rm (mm_rk M11_fits)) 0 0 S (mm_end S (mm_Qi o I J)) 82 [(0, .ref v0), (1, .int v1), (2, .int v2), (3, .int v3), (4, .int v4), (5, .int v5), (6, .int v6), (7, .int v7), (8, .int v8), (9, .int v9)] [] I J := by
  unfold f11_fits_82_b at h
  refine mm_iload d11_fits_82 rfl ?_
  refine mm_aload_n d11_fits_84 rfl ?_
  refine mm_getI fl_X11_244 d11_fits_85 (mm_wtI hS h0 rfl) ?_
  refine mm_icmp_ge (tgt := 133) d11_fits_88 (by decide) (fun hc1 => ?_) (fun hc1 => ?_)
  · rw [if_pos hc1] at h
    refine mm_iload d11_fits_133 rfl ?_
    refine mm_iload d11_fits_135 rfl ?_
    refine mm_if_eq (tgt := 144) d11_fits_137 (by decide) (fun hc2 => ?_) (fun hc2 => ?_)
    · rw [if_pos hc2] at h
      refine mm_iconst (v := 0) d11_fits_144 (by decide +kernel) ?_
      refine mm_sub [(0, .ref v0), (1, .int v1), (2, .int v2), (3, .int v3), (5, .int v5), (6, .int v6), (7, .int v7), (8, .int v8)] ⟨rfl, rfl, rfl, rfl, rfl, rfl, rfl, rfl, trivial⟩ ?_
      exact ok11_fits_145 l hS hrec44 h0 h
    · rw [if_neg hc2] at h
      refine mm_iconst (v := 1) d11_fits_140 (by decide +kernel) ?_
      refine mm_goto (tgt := 145) d11_fits_141 (by decide) ?_
      refine mm_sub [(0, .ref v0), (1, .int v1), (2, .int v2), (3, .int v3), (5, .int v5), (6, .int v6), (7, .int v7), (8, .int v8)] ⟨rfl, rfl, rfl, rfl, rfl, rfl, rfl, rfl, trivial⟩ ?_
      exact ok11_fits_145 l hS hrec44 h0 h
  · rw [if_neg hc1] at h
    refine mm_iload d11_fits_91 rfl ?_
    refine mm_if_eq (tgt := 124) d11_fits_93 (by decide) (fun hc3 => ?_) (fun hc3 => ?_)
    · rw [if_pos hc3] at h
      refine mm_sub [(0, .ref v0), (1, .int v1), (2, .int v2), (3, .int v3), (4, .int v4), (5, .int v5), (6, .int v6), (7, .int v7), (9, .int v9)] ⟨rfl, rfl, rfl, rfl, rfl, rfl, rfl, rfl, rfl, trivial⟩ ?_
      exact ok11_fits_124 l hS hrec44 hrec82 h0 h
    · rw [if_neg hc3] at h
      refine mm_iload d11_fits_96 rfl ?_
      refine mm_aload_n d11_fits_98 rfl ?_
      refine mm_aload_n d11_fits_99 rfl ?_
      refine mm_getR fl_X11_108 d11_fits_100 (mm_wtR hS 50 h0 rfl rfl) ?_
      refine mm_iload d11_fits_103 rfl ?_
      obtain ⟨hb4, h⟩ := mm_gd h
      refine mm_iald d11_fits_105 (mm_wtA hS 49 0 h0 rfl rfl) (mm_inb_ok hb4) ?_
      refine mm_aload_n d11_fits_106 rfl ?_
      refine mm_getR fl_X11_111 d11_fits_107 (mm_wtR hS 50 h0 rfl rfl) ?_
      refine mm_iload d11_fits_110 rfl ?_
      obtain ⟨hb5, h⟩ := mm_gd h
      refine mm_iald d11_fits_112 (mm_wtA hS 50 0 h0 rfl rfl) (mm_inb_ok hb5) ?_
      obtain ⟨o6, hk6, h⟩ := mm_bd h
      refine mm_cVi 11 (As := [.int (I (mm_rf S v0 49) v9.toNatClampNeg), .int (I (mm_rf S v0 50) v9.toNatClampNeg)]) (ok11_knowers l hS h0 hk6) lk_X11_258 rfl d11_fits_113 (mm_room rfl rfl) rfl h0 rfl rfl ?_
      refine mm_iand d11_fits_116 ?_
      refine mm_if_eq (tgt := 124) d11_fits_117 (by decide) (fun hc7 => ?_) (fun hc7 => ?_)
      · rw [if_pos hc7] at h
        refine mm_sub [(0, .ref v0), (1, .int v1), (2, .int v2), (3, .int v3), (4, .int v4), (5, .int v5), (6, .int v6), (7, .int v7), (9, .int v9)] ⟨rfl, rfl, rfl, rfl, rfl, rfl, rfl, rfl, rfl, trivial⟩ ?_
        exact ok11_fits_124 l hS hrec44 hrec82 h0 h
      · rw [if_neg hc7] at h
        refine mm_iconst (v := 1) d11_fits_120 (by decide +kernel) ?_
        refine mm_goto (tgt := 125) d11_fits_121 (by decide) ?_
        refine mm_sub [(0, .ref v0), (1, .int v1), (2, .int v2), (3, .int v3), (4, .int v4), (5, .int v5), (6, .int v6), (7, .int v7), (9, .int v9)] ⟨rfl, rfl, rfl, rfl, rfl, rfl, rfl, rfl, rfl, trivial⟩ ?_
        exact ok11_fits_125 l hS hrec44 hrec82 h0 h
set_option maxHeartbeats 4000000 in
set_option maxRecDepth 100000 in
theorem ok11_fits_82 (l : Launch) {S : mm_Sh} (hS : mm_WT S) {n : Nat}  {rec44 : Nat → Int32 → Int32 → Int32 → Int32 → Int32 → Int32 → Int32 → mm_I → mm_J → Option (Int32)} (hrec44 : ∀ {v0 : Nat} {v1 : Int32} {v2 : Int32} {v3 : Int32} {v4 : Int32} {v5 : Int32} {v6 : Int32} {v7 : Int32} (_ : mm_is S v0 11) {I : mm_I} {J : mm_J} {o : Int32}, rec44 v0 v1 v2 v3 v4 v5 v6 v7 I J = some o → mm_W l M11_fits (mm_rm (mm_rk M11_fits)) 0 0 S (mm_end S (mm_Qi o I J)) 44 [(0, .ref v0), (1, .int v1), (2, .int v2), (3, .int v3), (4, .int v4), (5, .int v5), (6, .int v6), (7, .int v7)] [] I J) : ∀ (k : Nat) {v0 : Nat} {v1 : Int32} {v2 : Int32} {v3 : Int32} {v4 : Int32} {v5 : Int32} {v6 : Int32} {v7 : Int32} {v8 : Int32} {v9 : Int32} (h0 : mm_is S v0 11) {I : mm_I} {J : mm_J} {o : Int32}, f11_fits_82 S n rec44 k v0 v1 v2 v3 v4 v5 v6 v7 v8 v9 I J = some o → mm_W l M11_fits (mm_rm (mm_rk M11_fits)) 0 0 S (mm_end S (mm_Qi o I J)) 82 [(0, .ref v0), (1, .int v1), (2, .int v2), (3, .int v3), (4, .int v4), (5, .int v5), (6, .int v6), (7, .int v7), (8, .int v8), (9, .int v9)] [] I J := by
  intro k
  induction k with
  | zero =>
    intros
    rename_i h
    cases h
  | succ k ih =>
    intro v0 v1 v2 v3 v4 v5 v6 v7 v8 v9 h0 I J o h
    exact ok11_fits_82_b l hS hrec44 (fun {v0 v1 v2 v3 v4 v5 v6 v7 v8 v9} h0 {I J o} h => ih h0 h) h0 h
set_option maxHeartbeats 4000000 in
set_option maxRecDepth 100000 in
theorem ok11_fits_216 (l : Launch) {S : mm_Sh} (hS : mm_WT S) {n : Nat}  {s0 : Int32}  {I : mm_I} {J : mm_J} {o : Int32} (h : f11_fits_216 S n s0 I J = some o) : mm_W l M11_fits (mm_rm (mm_rk M11_fits)) 0 0 S (mm_end S (mm_Qi o I J)) 216 [] [.int s0] I J := by
  unfold f11_fits_216 at h
  have h := Option.some.inj h
  subst h
  exact mm_iret rfl d11_fits_216 ⟨rfl, rfl, rfl⟩
set_option maxHeartbeats 4000000 in
set_option maxRecDepth 100000 in
theorem ok11_fits_44_b (l : Launch) {S : mm_Sh} (hS : mm_WT S) {n : Nat}  {rec44 : Nat → Int32 → Int32 → Int32 → Int32 → Int32 → Int32 → Int32 → mm_I → mm_J → Option (Int32)} (hrec44 : ∀ {v0 : Nat} {v1 : Int32} {v2 : Int32} {v3 : Int32} {v4 : Int32} {v5 : Int32} {v6 : Int32} {v7 : Int32} (_ : mm_is S v0 11) {I : mm_I} {J : mm_J} {o : Int32}, rec44 v0 v1 v2 v3 v4 v5 v6 v7 I J = some o → mm_W l M11_fits (mm_rm (mm_rk M11_fits)) 0 0 S (mm_end S (mm_Qi o I J)) 44 [(0, .ref v0), (1, .int v1), (2, .int v2), (3, .int v3), (4, .int v4), (5, .int v5), (6, .int v6), (7, .int v7)] [] I J) {v0 : Nat} {v1 : Int32} {v2 : Int32} {v3 : Int32} {v4 : Int32} {v5 : Int32} {v6 : Int32} {v7 : Int32} (h0 : mm_is S v0 11) {I : mm_I} {J : mm_J} {o : Int32} (h : f11_fits_44_b S n rec44 v0 v1 v2 v3 v4 v5 v6 v7 I J = some o) : mm_W l M11_fits (mm_rm (mm_rk M11_fits)) 0 0 S (mm_end S (mm_Qi o I J)) 44 [(0, .ref v0), (1, .int v1), (2, .int v2), (3, .int v3), (4, .int v4), (5, .int v5), (6, .int v6), (7, .int v7)] [] I J := by
  unfold f11_fits_44_b at h
  refine mm_iload d11_fits_44 rfl ?_
  refine mm_iconst (v := 1) d11_fits_46 (by decide +kernel) ?_
  refine mm_aload_n d11_fits_47 rfl ?_
  refine mm_getI fl_X11_140 d11_fits_48 (mm_wtI hS h0 rfl) ?_
  refine mm_ishl d11_fits_51 ?_
  refine mm_icmp_ge (tgt := 170) d11_fits_52 (by decide) (fun hc1 => ?_) (fun hc1 => ?_)
  · rw [if_pos hc1] at h
    refine mm_iload_n d11_fits_170 rfl ?_
    refine mm_if_ne (tgt := 179) d11_fits_171 (by decide) (fun hc2 => ?_) (fun hc2 => ?_)
    · rw [if_neg hc2] at h
      refine mm_iload_n d11_fits_179 rfl ?_
      refine mm_iconst (v := 1) d11_fits_180 (by decide +kernel) ?_
      refine mm_icmp_ne (tgt := 198) d11_fits_181 (by decide) (fun hc3 => ?_) (fun hc3 => ?_)
      · rw [if_neg hc3] at h
        refine mm_iload d11_fits_198 rfl ?_
        refine mm_if_ne (tgt := 207) d11_fits_200 (by decide) (fun hc4 => ?_) (fun hc4 => ?_)
        · rw [if_neg hc4] at h
          refine mm_ldcw (v := 1000000) d11_fits_207 kX11_354 ?_
          refine mm_iload d11_fits_210 rfl ?_
          refine mm_imul d11_fits_212 ?_
          refine mm_iload d11_fits_213 rfl ?_
          obtain ⟨hz5, h⟩ := mm_gz h
          refine mm_idiv d11_fits_215 hz5 ?_
          refine mm_sub [] trivial ?_
          exact ok11_fits_216 l hS   h
        · rw [if_pos hc4] at h
          refine mm_iconst (v := 0) d11_fits_203 (by decide +kernel) ?_
          refine mm_goto (tgt := 216) d11_fits_204 (by decide) ?_
          refine mm_sub [] trivial ?_
          exact ok11_fits_216 l hS   h
      · rw [if_pos hc3] at h
        refine mm_iload d11_fits_184 rfl ?_
        refine mm_if_ne (tgt := 193) d11_fits_186 (by decide) (fun hc6 => ?_) (fun hc6 => ?_)
        · rw [if_neg hc6] at h
          refine mm_iload d11_fits_193 rfl ?_
          refine mm_goto (tgt := 216) d11_fits_195 (by decide) ?_
          refine mm_sub [] trivial ?_
          exact ok11_fits_216 l hS   h
        · rw [if_pos hc6] at h
          refine mm_iconst (v := (-1)) d11_fits_189 (by decide +kernel) ?_
          refine mm_goto (tgt := 216) d11_fits_190 (by decide) ?_
          refine mm_sub [] trivial ?_
          exact ok11_fits_216 l hS   h
    · rw [if_pos hc2] at h
      refine mm_iload d11_fits_174 rfl ?_
      refine mm_goto (tgt := 216) d11_fits_176 (by decide) ?_
      refine mm_sub [] trivial ?_
      exact ok11_fits_216 l hS   h
  · rw [if_neg hc1] at h
    refine mm_iload d11_fits_55 rfl ?_
    obtain ⟨o7, hk7, h⟩ := mm_bd h
    refine mm_cSi (As := [.int v7]) (ok11_bits l hS hk7) lk_X11_278 rfl d11_fits_57 (mm_room rfl rfl) rfl rfl ?_
    refine mm_iload_n d11_fits_60 rfl ?_
    refine mm_icmp_ne (tgt := 164) d11_fits_61 (by decide) (fun hc8 => ?_) (fun hc8 => ?_)
    · rw [if_neg hc8] at h
      refine mm_sub [(0, .ref v0), (1, .int v1), (2, .int v2), (3, .int v3), (4, .int v4), (5, .int v5), (6, .int v6), (7, .int v7)] ⟨rfl, rfl, rfl, rfl, rfl, rfl, rfl, rfl, trivial⟩ ?_
      exact ok11_fits_164 l hS hrec44 h0 h
    · rw [if_pos hc8] at h
      refine mm_iload d11_fits_64 rfl ?_
      refine mm_iload_n d11_fits_66 rfl ?_
      refine mm_iconst (v := (-1)) d11_fits_67 (by decide +kernel) ?_
      refine mm_ixor d11_fits_68 ?_
      refine mm_iand d11_fits_69 ?_
      refine mm_if_ne (tgt := 164) d11_fits_70 (by decide) (fun hc9 => ?_) (fun hc9 => ?_)
      · rw [if_neg hc9] at h
        refine mm_sub [(0, .ref v0), (1, .int v1), (2, .int v2), (3, .int v3), (4, .int v4), (5, .int v5), (6, .int v6), (7, .int v7)] ⟨rfl, rfl, rfl, rfl, rfl, rfl, rfl, rfl, trivial⟩ ?_
        exact ok11_fits_164 l hS hrec44 h0 h
      · rw [if_pos hc9] at h
        refine mm_iinc (v := v5 + 1) d11_fits_73 rfl rfl rfl rfl ?_
        refine mm_iconst (v := 1) d11_fits_76 (by decide +kernel) ?_
        refine mm_istore d11_fits_77 rfl rfl ?_
        refine mm_iconst (v := 0) d11_fits_79 (by decide +kernel) ?_
        refine mm_istore d11_fits_80 rfl rfl ?_
        refine mm_sub [(0, .ref v0), (1, .int v1), (2, .int v2), (3, .int v3), (4, .int v4), (5, .int (v5 + 1)), (6, .int v6), (7, .int v7), (8, .int 1), (9, .int 0)] ⟨rfl, rfl, rfl, rfl, rfl, rfl, rfl, rfl, rfl, rfl, trivial⟩ ?_
        exact ok11_fits_82 l hS hrec44 n h0 h
set_option maxHeartbeats 4000000 in
set_option maxRecDepth 100000 in
theorem ok11_fits_44 (l : Launch) {S : mm_Sh} (hS : mm_WT S) {n : Nat}  : ∀ (k : Nat) {v0 : Nat} {v1 : Int32} {v2 : Int32} {v3 : Int32} {v4 : Int32} {v5 : Int32} {v6 : Int32} {v7 : Int32} (h0 : mm_is S v0 11) {I : mm_I} {J : mm_J} {o : Int32}, f11_fits_44 S n k v0 v1 v2 v3 v4 v5 v6 v7 I J = some o → mm_W l M11_fits (mm_rm (mm_rk M11_fits)) 0 0 S (mm_end S (mm_Qi o I J)) 44 [(0, .ref v0), (1, .int v1), (2, .int v2), (3, .int v3), (4, .int v4), (5, .int v5), (6, .int v6), (7, .int v7)] [] I J := by
  intro k
  induction k with
  | zero =>
    intros
    rename_i h
    cases h
  | succ k ih =>
    intro v0 v1 v2 v3 v4 v5 v6 v7 h0 I J o h
    exact ok11_fits_44_b l hS (fun {v0 v1 v2 v3 v4 v5 v6 v7} h0 {I J o} h => ih h0 h) h0 h
set_option maxHeartbeats 4000000 in
set_option maxRecDepth 100000 in
theorem ok11_fits (l : Launch) {S : mm_Sh} (hS : mm_WT S) {n : Nat}  {v0 : Nat} {v1 : Int32} {v2 : Int32} (h0 : mm_is S v0 11) {I : mm_I} {J : mm_J} {o : Int32} (h : f11_fits S n v0 v1 v2 I J = some o) : mm_C l M11_fits S [.ref v0, .int v1, .int v2] I J (mm_Qi o I J) := by
  unfold f11_fits at h
  refine mm_enter rfl (by decide +kernel) rfl ?_
  refine mm_iload_n d11_fits_0 rfl ?_
  refine mm_i2l d11_fits_1 ?_
  refine mm_lconst (v := 0) d11_fits_2 (by decide +kernel) ?_
  refine mm_ldc2 (v := 8) d11_fits_3 kX11_154 ?_
  obtain ⟨o1, hk1, h⟩ := mm_bd h
  refine mm_cSi (As := [.long v1.toInt64, .long 0, .long 8]) (ok11_in l hS hk1) lk_X11_136 rfl d11_fits_6 (mm_room rfl rfl) rfl rfl ?_
  refine mm_if_eq (tgt := 24) d11_fits_9 (by decide) (fun hc2 => ?_) (fun hc2 => ?_)
  · rw [if_pos hc2] at h
    refine mm_sub [] trivial ?_
    exact ok11_fits_24 l hS   h
  · rw [if_neg hc2] at h
    refine mm_iload_n d11_fits_12 rfl ?_
    refine mm_i2l d11_fits_13 ?_
    refine mm_lconst (v := 0) d11_fits_14 (by decide +kernel) ?_
    refine mm_ldc2 (v := 2) d11_fits_15 kX11_389 ?_
    obtain ⟨o3, hk3, h⟩ := mm_bd h
    refine mm_cSi (As := [.long v2.toInt64, .long 0, .long 2]) (ok11_in l hS hk3) lk_X11_136 rfl d11_fits_18 (mm_room rfl rfl) rfl rfl ?_
    refine mm_if_ne (tgt := 27) d11_fits_21 (by decide) (fun hc4 => ?_) (fun hc4 => ?_)
    · rw [if_neg hc4] at h
      refine mm_aload_n d11_fits_27 rfl ?_
      obtain ⟨o5, hk5, h⟩ := mm_bd h
      refine mm_cVi 11 (As := []) (ok11_livesSet l hS h0 hk5) lk_X11_261 rfl d11_fits_28 (mm_room rfl rfl) rfl h0 rfl rfl ?_
      refine mm_istore_n d11_fits_31 rfl rfl ?_
      refine mm_iconst (v := 0) d11_fits_32 (by decide +kernel) ?_
      refine mm_istore d11_fits_33 rfl rfl ?_
      refine mm_iconst (v := 0) d11_fits_35 (by decide +kernel) ?_
      refine mm_istore d11_fits_36 rfl rfl ?_
      refine mm_iload_n d11_fits_38 rfl ?_
      refine mm_istore d11_fits_39 rfl rfl ?_
      refine mm_iconst (v := 0) d11_fits_41 (by decide +kernel) ?_
      refine mm_istore d11_fits_42 rfl rfl ?_
      refine mm_sub [(0, .ref v0), (1, .int v1), (2, .int v2), (3, .int o5), (4, .int 0), (5, .int 0), (6, .int o5), (7, .int 0)] ⟨rfl, rfl, rfl, rfl, rfl, rfl, rfl, rfl, trivial⟩ ?_
      exact ok11_fits_44 l hS  n h0 h
    · rw [if_pos hc4] at h
      refine mm_sub [] trivial ?_
      exact ok11_fits_24 l hS   h
set_option maxHeartbeats 4000000 in
set_option maxRecDepth 100000 in
theorem ok11_goBack (l : Launch) {S : mm_Sh} (hS : mm_WT S) {n : Nat}  {v0 : Nat} {v1 : Int32} (h0 : mm_is S v0 11) {I : mm_I} {J : mm_J} {o : Int32 × mm_I × mm_J} (h : f11_goBack S n v0 v1 I J = some o) : mm_C l M11_goBack S [.ref v0, .int v1] I J (mm_Qi o.1 o.2.1 o.2.2) := by
  unfold f11_goBack at h
  refine mm_enter rfl (by decide +kernel) rfl ?_
  refine mm_iload_n d11_goBack_0 rfl ?_
  refine mm_i2l d11_goBack_1 ?_
  refine mm_lconst (v := 0) d11_goBack_2 (by decide +kernel) ?_
  refine mm_lconst (v := 1) d11_goBack_3 (by decide +kernel) ?_
  obtain ⟨o1, hk1, h⟩ := mm_bd h
  refine mm_cSi (As := [.long v1.toInt64, .long 0, .long 1]) (ok11_in l hS hk1) lk_X11_136 rfl d11_goBack_4 (mm_room rfl rfl) rfl rfl ?_
  refine mm_if_ne (tgt := 14) d11_goBack_7 (by decide) (fun hc2 => ?_) (fun hc2 => ?_)
  · rw [if_neg hc2] at h
    refine mm_aload_n d11_goBack_14 rfl ?_
    refine mm_getR fl_X11_126 d11_goBack_15 (mm_wtR hS 51 h0 rfl rfl) ?_
    refine mm_iload_n d11_goBack_18 rfl ?_
    obtain ⟨hb3, h⟩ := mm_gd h
    refine mm_zald d11_goBack_19 (mm_wtA hS 56 1 h0 rfl rfl) (mm_inb_ok hb3) ?_
    refine mm_if_ne (tgt := 26) d11_goBack_20 (by decide) (fun hc4 => ?_) (fun hc4 => ?_)
    · rw [if_neg hc4] at h
      refine mm_aload_n d11_goBack_26 rfl ?_
      refine mm_iload_n d11_goBack_27 rfl ?_
      obtain ⟨o5, hk5, h⟩ := mm_bd h
      refine mm_cVv 11 (As := [.int v1]) (ok11_load l hS h0 hk5) lk_X11_351 rfl d11_goBack_28 (mm_room rfl rfl) rfl h0 rfl rfl ?_
      refine mm_iconst (v := 1) d11_goBack_31 (by decide +kernel) ?_
      have h := Option.some.inj h
      subst h
      exact mm_iret rfl d11_goBack_32 ⟨rfl, rfl, rfl⟩
    · rw [if_pos hc4] at h
      refine mm_ldc (v := (-1000000003)) d11_goBack_23 kX11_250 ?_
      have h := Option.some.inj h
      subst h
      exact mm_iret rfl d11_goBack_25 ⟨rfl, rfl, rfl⟩
  · rw [if_pos hc2] at h
    refine mm_ldcw (v := (-1000000001)) d11_goBack_10 kX11_271 ?_
    have h := Option.some.inj h
    subst h
    exact mm_iret rfl d11_goBack_13 ⟨rfl, rfl, rfl⟩
set_option maxHeartbeats 4000000 in
set_option maxRecDepth 100000 in
theorem ok11_isDrift_29 (l : Launch) {S : mm_Sh} (hS : mm_WT S)  {s0 : Int32}  {I : mm_I} {J : mm_J} {o : Int32} (h : f11_isDrift_29 S s0 I J = some o) : mm_W l M11_isDrift (mm_rm (mm_rk M11_isDrift)) 0 0 S (mm_end S (mm_Qi o I J)) 29 [] [.int s0] I J := by
  unfold f11_isDrift_29 at h
  obtain ⟨hb1, h⟩ := mm_gd h
  have h := Option.some.inj h
  subst h
  exact mm_zret rfl d11_isDrift_29 (mm_bit_ok hb1) ⟨rfl, rfl, rfl⟩
set_option maxHeartbeats 4000000 in
set_option maxRecDepth 100000 in
theorem ok11_isDrift_28 (l : Launch) {S : mm_Sh} (hS : mm_WT S)    {I : mm_I} {J : mm_J} {o : Int32} (h : f11_isDrift_28 S  I J = some o) : mm_W l M11_isDrift (mm_rm (mm_rk M11_isDrift)) 0 0 S (mm_end S (mm_Qi o I J)) 28 [] [] I J := by
  unfold f11_isDrift_28 at h
  refine mm_iconst (v := 0) d11_isDrift_28 (by decide +kernel) ?_
  refine mm_sub [] trivial ?_
  exact ok11_isDrift_29 l hS   h
set_option maxHeartbeats 4000000 in
set_option maxRecDepth 100000 in
theorem ok11_isDrift (l : Launch) {S : mm_Sh} (hS : mm_WT S)  {v0 : Int32} {v1 : Int32}  {I : mm_I} {J : mm_J} {o : Int32} (h : f11_isDrift S v0 v1 I J = some o) : mm_C l M11_isDrift S [.int v0, .int v1] I J (mm_Qi o I J) := by
  unfold f11_isDrift at h
  refine mm_enter rfl (by decide +kernel) rfl ?_
  refine mm_iload_n d11_isDrift_0 rfl ?_
  refine mm_i2l d11_isDrift_1 ?_
  refine mm_lconst (v := 1) d11_isDrift_2 (by decide +kernel) ?_
  refine mm_ldc2 (v := 90) d11_isDrift_3 kX11_336 ?_
  obtain ⟨o1, hk1, h⟩ := mm_bd h
  refine mm_cSi (As := [.long v0.toInt64, .long 1, .long 90]) (ok11_in l hS hk1) lk_X11_136 rfl d11_isDrift_6 (mm_room rfl rfl) rfl rfl ?_
  refine mm_if_eq (tgt := 28) d11_isDrift_9 (by decide) (fun hc2 => ?_) (fun hc2 => ?_)
  · rw [if_pos hc2] at h
    refine mm_sub [] trivial ?_
    exact ok11_isDrift_28 l hS   h
  · rw [if_neg hc2] at h
    refine mm_iload_n d11_isDrift_12 rfl ?_
    refine mm_i2l d11_isDrift_13 ?_
    refine mm_lconst (v := 0) d11_isDrift_14 (by decide +kernel) ?_
    refine mm_ldc2 (v := 100) d11_isDrift_15 kX11_338 ?_
    obtain ⟨o3, hk3, h⟩ := mm_bd h
    refine mm_cSi (As := [.long v1.toInt64, .long 0, .long 100]) (ok11_in l hS hk3) lk_X11_136 rfl d11_isDrift_18 (mm_room rfl rfl) rfl rfl ?_
    refine mm_if_eq (tgt := 28) d11_isDrift_21 (by decide) (fun hc4 => ?_) (fun hc4 => ?_)
    · rw [if_pos hc4] at h
      refine mm_sub [] trivial ?_
      exact ok11_isDrift_28 l hS   h
    · rw [if_neg hc4] at h
      refine mm_iconst (v := 1) d11_isDrift_24 (by decide +kernel) ?_
      refine mm_goto (tgt := 29) d11_isDrift_25 (by decide) ?_
      refine mm_sub [] trivial ?_
      exact ok11_isDrift_29 l hS   h
set_option maxHeartbeats 4000000 in
set_option maxRecDepth 100000 in
theorem ok11_isPerson (l : Launch) {S : mm_Sh} (hS : mm_WT S)  {v0 : Nat} {v1 : Int32} (h0 : mm_is S v0 11) {I : mm_I} {J : mm_J} {o : Int32} (h : f11_isPerson S v0 v1 I J = some o) : mm_C l M11_isPerson S [.ref v0, .int v1] I J (mm_Qi o I J) := by
  unfold f11_isPerson at h
  refine mm_enter rfl (by decide +kernel) rfl ?_
  refine mm_iload_n d11_isPerson_0 rfl ?_
  refine mm_i2l d11_isPerson_1 ?_
  refine mm_lconst (v := 0) d11_isPerson_2 (by decide +kernel) ?_
  refine mm_aload_n d11_isPerson_3 rfl ?_
  refine mm_getI fl_X11_140 d11_isPerson_4 (mm_wtI hS h0 rfl) ?_
  refine mm_iconst (v := 1) d11_isPerson_7 (by decide +kernel) ?_
  refine mm_isub d11_isPerson_8 ?_
  refine mm_i2l d11_isPerson_9 ?_
  obtain ⟨o1, hk1, h⟩ := mm_bd h
  refine mm_cSi (As := [.long v1.toInt64, .long 0, .long (((I v0 2) - 1).toInt64)]) (ok11_in l hS hk1) lk_X11_136 rfl d11_isPerson_10 (mm_room rfl rfl) rfl rfl ?_
  obtain ⟨hb2, h⟩ := mm_gd h
  have h := Option.some.inj h
  subst h
  exact mm_zret rfl d11_isPerson_13 (mm_bit_ok hb2) ⟨rfl, rfl, rfl⟩
set_option maxHeartbeats 4000000 in
set_option maxRecDepth 100000 in
theorem ok11_isRing_116 (l : Launch) {S : mm_Sh} (hS : mm_WT S) {n : Nat}  {rec70 : Nat → Int32 → Int32 → Int32 → mm_I → mm_J → Option (Int32 × mm_I × mm_J)} (hrec70 : ∀ {v0 : Nat} {v2 : Int32} {v5 : Int32} {v6 : Int32} (_ : mm_is S v0 11) {I : mm_I} {J : mm_J} {o : Int32 × mm_I × mm_J}, rec70 v0 v2 v5 v6 I J = some o → mm_W l M11_isRing (mm_rm (mm_rk M11_isRing)) 0 0 S (mm_end S (mm_Qi o.1 o.2.1 o.2.2)) 70 [(0, .ref v0), (2, .int v2), (5, .int v5), (6, .int v6)] [] I J) {v0 : Nat} {v2 : Int32} {v6 : Int32} {s0 : Int32} (h0 : mm_is S v0 11) {I : mm_I} {J : mm_J} {o : Int32 × mm_I × mm_J} (h : f11_isRing_116 S n rec70 v0 v2 v6 s0 I J = some o) : mm_W l M11_isRing (mm_rm (mm_rk M11_isRing)) 0 0 S (mm_end S (mm_Qi o.1 o.2.1 o.2.2)) 116 [(0, .ref v0), (2, .int v2), (6, .int v6)] [.int s0] I J := by
  unfold f11_isRing_116 at h
  refine mm_istore d11_isRing_116 rfl rfl ?_
  refine mm_iinc (v := v6 + 1) d11_isRing_118 rfl rfl rfl rfl ?_
  refine mm_goto (tgt := 70) d11_isRing_121 (by decide) ?_
  refine mm_sub [(0, .ref v0), (2, .int v2), (5, .int s0), (6, .int (v6 + 1))] ⟨rfl, rfl, rfl, rfl, trivial⟩ ?_
  exact hrec70 h0 h
set_option maxHeartbeats 4000000 in
set_option maxRecDepth 100000 in
theorem ok11_isRing_115 (l : Launch) {S : mm_Sh} (hS : mm_WT S) {n : Nat}  {rec70 : Nat → Int32 → Int32 → Int32 → mm_I → mm_J → Option (Int32 × mm_I × mm_J)} (hrec70 : ∀ {v0 : Nat} {v2 : Int32} {v5 : Int32} {v6 : Int32} (_ : mm_is S v0 11) {I : mm_I} {J : mm_J} {o : Int32 × mm_I × mm_J}, rec70 v0 v2 v5 v6 I J = some o → mm_W l M11_isRing (mm_rm (mm_rk M11_isRing)) 0 0 S (mm_end S (mm_Qi o.1 o.2.1 o.2.2)) 70 [(0, .ref v0), (2, .int v2), (5, .int v5), (6, .int v6)] [] I J) {v0 : Nat} {v2 : Int32} {v6 : Int32} (h0 : mm_is S v0 11) {I : mm_I} {J : mm_J} {o : Int32 × mm_I × mm_J} (h : f11_isRing_115 S n rec70 v0 v2 v6 I J = some o) : mm_W l M11_isRing (mm_rm (mm_rk M11_isRing)) 0 0 S (mm_end S (mm_Qi o.1 o.2.1 o.2.2)) 115 [(0, .ref v0), (2, .int v2), (6, .int v6)] [] I J := by
  unfold f11_isRing_115 at h
  refine mm_iconst (v := 0) d11_isRing_115 (by decide +kernel) ?_
  refine mm_sub [(0, .ref v0), (2, .int v2), (6, .int v6)] ⟨rfl, rfl, rfl, trivial⟩ ?_
  exact ok11_isRing_116 l hS hrec70 h0 h
set_option maxHeartbeats 4000000 in
set_option maxRecDepth 100000 in
theorem ok11_isRing_70_b (l : Launch) {S : mm_Sh} (hS : mm_WT S) {n : Nat}  {rec70 : Nat → Int32 → Int32 → Int32 → mm_I → mm_J → Option (Int32 × mm_I × mm_J)} (hrec70 : ∀ {v0 : Nat} {v2 : Int32} {v5 : Int32} {v6 : Int32} (_ : mm_is S v0 11) {I : mm_I} {J : mm_J} {o : Int32 × mm_I × mm_J}, rec70 v0 v2 v5 v6 I J = some o → mm_W l M11_isRing (mm_rm (mm_rk M11_isRing)) 0 0 S (mm_end S (mm_Qi o.1 o.2.1 o.2.2)) 70 [(0, .ref v0), (2, .int v2), (5, .int v5), (6, .int v6)] [] I J) {v0 : Nat} {v2 : Int32} {v5 : Int32} {v6 : Int32} (h0 : mm_is S v0 11) {I : mm_I} {J : mm_J} {o : Int32 × mm_I × mm_J} (h : f11_isRing_70_b S n rec70 v0 v2 v5 v6 I J = some o) : mm_W l M11_isRing (mm_rm (mm_rk M11_isRing)) 0 0 S (mm_end S (mm_Qi o.1 o.2.1 o.2.2)) 70 [(0, .ref v0), (2, .int v2), (5, .int v5), (6, .int v6)] [] I J := by
  unfold f11_isRing_70_b at h
  refine mm_iload d11_isRing_70 rfl ?_
  refine mm_iload_n d11_isRing_72 rfl ?_
  refine mm_icmp_ge (tgt := 124) d11_isRing_73 (by decide) (fun hc1 => ?_) (fun hc1 => ?_)
  · rw [if_pos hc1] at h
    refine mm_iload d11_isRing_124 rfl ?_
    obtain ⟨hb2, h⟩ := mm_gd h
    have h := Option.some.inj h
    subst h
    exact mm_zret rfl d11_isRing_126 (mm_bit_ok hb2) ⟨rfl, rfl, rfl⟩
  · rw [if_neg hc1] at h
    refine mm_iload d11_isRing_76 rfl ?_
    refine mm_if_eq (tgt := 115) d11_isRing_78 (by decide) (fun hc3 => ?_) (fun hc3 => ?_)
    · rw [if_pos hc3] at h
      refine mm_sub [(0, .ref v0), (2, .int v2), (6, .int v6)] ⟨rfl, rfl, rfl, trivial⟩ ?_
      exact ok11_isRing_115 l hS hrec70 h0 h
    · rw [if_neg hc3] at h
      refine mm_aload_n d11_isRing_81 rfl ?_
      refine mm_getR fl_X11_102 d11_isRing_82 (mm_wtR hS 50 h0 rfl rfl) ?_
      refine mm_iload d11_isRing_85 rfl ?_
      obtain ⟨hb4, h⟩ := mm_gd h
      refine mm_iald d11_isRing_87 (mm_wtA hS 45 0 h0 rfl rfl) (mm_inb_ok hb4) ?_
      refine mm_aload_n d11_isRing_88 rfl ?_
      refine mm_getI fl_X11_140 d11_isRing_89 (mm_wtI hS h0 rfl) ?_
      refine mm_icmp_ge (tgt := 115) d11_isRing_92 (by decide) (fun hc5 => ?_) (fun hc5 => ?_)
      · rw [if_pos hc5] at h
        refine mm_sub [(0, .ref v0), (2, .int v2), (6, .int v6)] ⟨rfl, rfl, rfl, trivial⟩ ?_
        exact ok11_isRing_115 l hS hrec70 h0 h
      · rw [if_neg hc5] at h
        refine mm_aload_n d11_isRing_95 rfl ?_
        refine mm_getR fl_X11_102 d11_isRing_96 (mm_wtR hS 50 h0 rfl rfl) ?_
        refine mm_iconst (v := 0) d11_isRing_99 (by decide +kernel) ?_
        obtain ⟨hb6, h⟩ := mm_gd h
        refine mm_iald d11_isRing_100 (mm_wtA hS 45 0 h0 rfl rfl) (mm_inb_ok hb6) ?_
        refine mm_aload_n d11_isRing_101 rfl ?_
        refine mm_getR fl_X11_102 d11_isRing_102 (mm_wtR hS 50 h0 rfl rfl) ?_
        refine mm_iload d11_isRing_105 rfl ?_
        obtain ⟨hb7, h⟩ := mm_gd h
        refine mm_iald d11_isRing_107 (mm_wtA hS 45 0 h0 rfl rfl) (mm_inb_ok hb7) ?_
        refine mm_icmp_gt (tgt := 115) d11_isRing_108 (by decide) (fun hc8 => ?_) (fun hc8 => ?_)
        · rw [if_pos hc8] at h
          refine mm_sub [(0, .ref v0), (2, .int v2), (6, .int v6)] ⟨rfl, rfl, rfl, trivial⟩ ?_
          exact ok11_isRing_115 l hS hrec70 h0 h
        · rw [if_neg hc8] at h
          refine mm_iconst (v := 1) d11_isRing_111 (by decide +kernel) ?_
          refine mm_goto (tgt := 116) d11_isRing_112 (by decide) ?_
          refine mm_sub [(0, .ref v0), (2, .int v2), (6, .int v6)] ⟨rfl, rfl, rfl, trivial⟩ ?_
          exact ok11_isRing_116 l hS hrec70 h0 h
set_option maxHeartbeats 4000000 in
set_option maxRecDepth 100000 in
theorem ok11_isRing_70 (l : Launch) {S : mm_Sh} (hS : mm_WT S) {n : Nat}  : ∀ (k : Nat) {v0 : Nat} {v2 : Int32} {v5 : Int32} {v6 : Int32} (h0 : mm_is S v0 11) {I : mm_I} {J : mm_J} {o : Int32 × mm_I × mm_J}, f11_isRing_70 S n k v0 v2 v5 v6 I J = some o → mm_W l M11_isRing (mm_rm (mm_rk M11_isRing)) 0 0 S (mm_end S (mm_Qi o.1 o.2.1 o.2.2)) 70 [(0, .ref v0), (2, .int v2), (5, .int v5), (6, .int v6)] [] I J := by
  intro k
  induction k with
  | zero =>
    intros
    rename_i h
    cases h
  | succ k ih =>
    intro v0 v2 v5 v6 h0 I J o h
    exact ok11_isRing_70_b l hS (fun {v0 v2 v5 v6} h0 {I J o} h => ih h0 h) h0 h
set_option maxHeartbeats 4000000 in
set_option maxRecDepth 100000 in
theorem ok11_isRing_65 (l : Launch) {S : mm_Sh} (hS : mm_WT S) {n : Nat}  {v0 : Nat} {v2 : Int32} {s0 : Int32} (h0 : mm_is S v0 11) {I : mm_I} {J : mm_J} {o : Int32 × mm_I × mm_J} (h : f11_isRing_65 S n v0 v2 s0 I J = some o) : mm_W l M11_isRing (mm_rm (mm_rk M11_isRing)) 0 0 S (mm_end S (mm_Qi o.1 o.2.1 o.2.2)) 65 [(0, .ref v0), (2, .int v2)] [.int s0] I J := by
  unfold f11_isRing_65 at h
  refine mm_istore d11_isRing_65 rfl rfl ?_
  refine mm_iconst (v := 0) d11_isRing_67 (by decide +kernel) ?_
  refine mm_istore d11_isRing_68 rfl rfl ?_
  refine mm_sub [(0, .ref v0), (2, .int v2), (5, .int s0), (6, .int 0)] ⟨rfl, rfl, rfl, rfl, trivial⟩ ?_
  exact ok11_isRing_70 l hS  n h0 h
set_option maxHeartbeats 4000000 in
set_option maxRecDepth 100000 in
theorem ok11_isRing_10_b (l : Launch) {S : mm_Sh} (hS : mm_WT S) {n : Nat}  {rec10 : Nat → Int32 → Int32 → Int32 → Int32 → mm_I → mm_J → Option (Int32 × mm_I × mm_J)} (hrec10 : ∀ {v0 : Nat} {v2 : Int32} {v3 : Int32} {v4 : Int32} {v5 : Int32} (_ : mm_is S v0 11) {I : mm_I} {J : mm_J} {o : Int32 × mm_I × mm_J}, rec10 v0 v2 v3 v4 v5 I J = some o → mm_W l M11_isRing (mm_rm (mm_rk M11_isRing)) 0 0 S (mm_end S (mm_Qi o.1 o.2.1 o.2.2)) 10 [(0, .ref v0), (2, .int v2), (3, .int v3), (4, .int v4), (5, .int v5)] [] I J) {v0 : Nat} {v2 : Int32} {v3 : Int32} {v4 : Int32} {v5 : Int32} (h0 : mm_is S v0 11) {I : mm_I} {J : mm_J} {o : Int32 × mm_I × mm_J} (h : f11_isRing_10_b S n rec10 v0 v2 v3 v4 v5 I J = some o) : mm_W l M11_isRing (mm_rm (mm_rk M11_isRing)) 0 0 S (mm_end S (mm_Qi o.1 o.2.1 o.2.2)) 10 [(0, .ref v0), (2, .int v2), (3, .int v3), (4, .int v4), (5, .int v5)] [] I J := by
  unfold f11_isRing_10_b at h
  refine mm_iload d11_isRing_10 rfl ?_
  refine mm_if_lt (tgt := 51) d11_isRing_12 (by decide) (fun hc1 => ?_) (fun hc1 => ?_)
  · rw [if_pos hc1] at h
    refine mm_iload d11_isRing_51 rfl ?_
    obtain ⟨o2, hk2, h⟩ := mm_bd h
    refine mm_cSi (As := [.int v4]) (ok11_bits l hS hk2) lk_X11_278 rfl d11_isRing_53 (mm_room rfl rfl) rfl rfl ?_
    refine mm_iload_n d11_isRing_56 rfl ?_
    refine mm_icmp_ne (tgt := 64) d11_isRing_57 (by decide) (fun hc3 => ?_) (fun hc3 => ?_)
    · rw [if_neg hc3] at h
      refine mm_iconst (v := 0) d11_isRing_64 (by decide +kernel) ?_
      refine mm_sub [(0, .ref v0), (2, .int v2)] ⟨rfl, rfl, trivial⟩ ?_
      exact ok11_isRing_65 l hS  h0 h
    · rw [if_pos hc3] at h
      refine mm_iconst (v := 1) d11_isRing_60 (by decide +kernel) ?_
      refine mm_goto (tgt := 65) d11_isRing_61 (by decide) ?_
      refine mm_sub [(0, .ref v0), (2, .int v2)] ⟨rfl, rfl, trivial⟩ ?_
      exact ok11_isRing_65 l hS  h0 h
  · rw [if_neg hc1] at h
    refine mm_aload_n d11_isRing_15 rfl ?_
    refine mm_getR fl_X11_102 d11_isRing_16 (mm_wtR hS 50 h0 rfl rfl) ?_
    refine mm_iload d11_isRing_19 rfl ?_
    refine mm_iload_n d11_isRing_21 rfl ?_
    refine mm_bipush (v := 8) d11_isRing_22 (by decide +kernel) ?_
    refine mm_irem d11_isRing_24 (by decide) ?_
    obtain ⟨hb4, h⟩ := mm_gd h
    refine mm_iast d11_isRing_25 (mm_wtA hS 45 0 h0 rfl rfl) (mm_inb_ok hb4) ?_
    refine mm_iload_n d11_isRing_26 rfl ?_
    refine mm_bipush (v := 8) d11_isRing_27 (by decide +kernel) ?_
    refine mm_idiv d11_isRing_29 (by decide) ?_
    refine mm_istore_n d11_isRing_30 rfl rfl ?_
    refine mm_iload d11_isRing_31 rfl ?_
    refine mm_iconst (v := 1) d11_isRing_33 (by decide +kernel) ?_
    refine mm_aload_n d11_isRing_34 rfl ?_
    refine mm_getR fl_X11_102 d11_isRing_35 (mm_wtR hS 50 h0 rfl rfl) ?_
    refine mm_iload d11_isRing_38 rfl ?_
    obtain ⟨hb5, h⟩ := mm_gd h
    refine mm_iald d11_isRing_40 (mm_wtA hS 45 0 h0 rfl rfl) (mm_inb_ok hb5) ?_
    refine mm_ishl d11_isRing_41 ?_
    refine mm_ior d11_isRing_42 ?_
    refine mm_istore d11_isRing_43 rfl rfl ?_
    refine mm_iinc (v := v5 + (-1)) d11_isRing_45 rfl rfl rfl rfl ?_
    refine mm_goto (tgt := 10) d11_isRing_48 (by decide) ?_
    refine mm_sub [(0, .ref v0), (2, .int v2), (3, .int (v3 / 8)), (4, .int (v4 ||| ((1 : Int32) <<< (((mm_up I (mm_rf S v0 45) v5.toNatClampNeg (v3 - v3 / 8 * 8)) (mm_rf S v0 45) v5.toNatClampNeg) &&& 31)))), (5, .int (v5 + (-1)))] ⟨rfl, rfl, rfl, rfl, rfl, trivial⟩ ?_
    exact hrec10 h0 h
set_option maxHeartbeats 4000000 in
set_option maxRecDepth 100000 in
theorem ok11_isRing_10 (l : Launch) {S : mm_Sh} (hS : mm_WT S) {n : Nat}  : ∀ (k : Nat) {v0 : Nat} {v2 : Int32} {v3 : Int32} {v4 : Int32} {v5 : Int32} (h0 : mm_is S v0 11) {I : mm_I} {J : mm_J} {o : Int32 × mm_I × mm_J}, f11_isRing_10 S n k v0 v2 v3 v4 v5 I J = some o → mm_W l M11_isRing (mm_rm (mm_rk M11_isRing)) 0 0 S (mm_end S (mm_Qi o.1 o.2.1 o.2.2)) 10 [(0, .ref v0), (2, .int v2), (3, .int v3), (4, .int v4), (5, .int v5)] [] I J := by
  intro k
  induction k with
  | zero =>
    intros
    rename_i h
    cases h
  | succ k ih =>
    intro v0 v2 v3 v4 v5 h0 I J o h
    exact ok11_isRing_10_b l hS (fun {v0 v2 v3 v4 v5} h0 {I J o} h => ih h0 h) h0 h
set_option maxHeartbeats 4000000 in
set_option maxRecDepth 100000 in
theorem ok11_isRing (l : Launch) {S : mm_Sh} (hS : mm_WT S) {n : Nat}  {v0 : Nat} {v1 : Int32} {v2 : Int32} (h0 : mm_is S v0 11) {I : mm_I} {J : mm_J} {o : Int32 × mm_I × mm_J} (h : f11_isRing S n v0 v1 v2 I J = some o) : mm_C l M11_isRing S [.ref v0, .int v1, .int v2] I J (mm_Qi o.1 o.2.1 o.2.2) := by
  unfold f11_isRing at h
  refine mm_enter rfl (by decide +kernel) rfl ?_
  refine mm_iload_n d11_isRing_0 rfl ?_
  refine mm_istore_n d11_isRing_1 rfl rfl ?_
  refine mm_iconst (v := 0) d11_isRing_2 (by decide +kernel) ?_
  refine mm_istore d11_isRing_3 rfl rfl ?_
  refine mm_iload_n d11_isRing_5 rfl ?_
  refine mm_iconst (v := 1) d11_isRing_6 (by decide +kernel) ?_
  refine mm_isub d11_isRing_7 ?_
  refine mm_istore d11_isRing_8 rfl rfl ?_
  refine mm_sub [(0, .ref v0), (2, .int v2), (3, .int v1), (4, .int 0), (5, .int (v2 - 1))] ⟨rfl, rfl, rfl, rfl, rfl, trivial⟩ ?_
  exact ok11_isRing_10 l hS  n h0 h
set_option maxHeartbeats 4000000 in
set_option maxRecDepth 100000 in
theorem ok11_isTrade (l : Launch) {S : mm_Sh} (hS : mm_WT S)  {v0 : Nat} {v1 : Int32} (h0 : mm_is S v0 11) {I : mm_I} {J : mm_J} {o : Int32} (h : f11_isTrade S v0 v1 I J = some o) : mm_C l M11_isTrade S [.ref v0, .int v1] I J (mm_Qi o I J) := by
  unfold f11_isTrade at h
  refine mm_enter rfl (by decide +kernel) rfl ?_
  refine mm_iload_n d11_isTrade_0 rfl ?_
  refine mm_i2l d11_isTrade_1 ?_
  refine mm_lconst (v := 0) d11_isTrade_2 (by decide +kernel) ?_
  refine mm_aload_n d11_isTrade_3 rfl ?_
  refine mm_getI fl_X11_133 d11_isTrade_4 (mm_wtI hS h0 rfl) ?_
  refine mm_iconst (v := 1) d11_isTrade_7 (by decide +kernel) ?_
  refine mm_isub d11_isTrade_8 ?_
  refine mm_i2l d11_isTrade_9 ?_
  obtain ⟨o1, hk1, h⟩ := mm_bd h
  refine mm_cSi (As := [.long v1.toInt64, .long 0, .long (((I v0 0) - 1).toInt64)]) (ok11_in l hS hk1) lk_X11_136 rfl d11_isTrade_10 (mm_room rfl rfl) rfl rfl ?_
  obtain ⟨hb2, h⟩ := mm_gd h
  have h := Option.some.inj h
  subst h
  exact mm_zret rfl d11_isTrade_13 (mm_bit_ok hb2) ⟨rfl, rfl, rfl⟩
set_option maxHeartbeats 4000000 in
set_option maxRecDepth 100000 in
theorem ok11_keep (l : Launch) {S : mm_Sh} (hS : mm_WT S) {n : Nat}  {v0 : Nat} {v1 : Int32} (h0 : mm_is S v0 11) {I : mm_I} {J : mm_J} {o : Int32 × mm_I × mm_J} (h : f11_keep S n v0 v1 I J = some o) : mm_C l M11_keep S [.ref v0, .int v1] I J (mm_Qi o.1 o.2.1 o.2.2) := by
  unfold f11_keep at h
  refine mm_enter rfl (by decide +kernel) rfl ?_
  refine mm_iload_n d11_keep_0 rfl ?_
  refine mm_i2l d11_keep_1 ?_
  refine mm_lconst (v := 0) d11_keep_2 (by decide +kernel) ?_
  refine mm_lconst (v := 1) d11_keep_3 (by decide +kernel) ?_
  obtain ⟨o1, hk1, h⟩ := mm_bd h
  refine mm_cSi (As := [.long v1.toInt64, .long 0, .long 1]) (ok11_in l hS hk1) lk_X11_136 rfl d11_keep_4 (mm_room rfl rfl) rfl rfl ?_
  refine mm_if_ne (tgt := 14) d11_keep_7 (by decide) (fun hc2 => ?_) (fun hc2 => ?_)
  · rw [if_neg hc2] at h
    refine mm_aload_n d11_keep_14 rfl ?_
    refine mm_iload_n d11_keep_15 rfl ?_
    obtain ⟨o3, hk3, h⟩ := mm_bd h
    refine mm_cVv 11 (As := [.int v1]) (ok11_save l hS h0 hk3) lk_X11_348 rfl d11_keep_16 (mm_room rfl rfl) rfl h0 rfl rfl ?_
    refine mm_aload_n d11_keep_19 rfl ?_
    refine mm_getR fl_X11_126 d11_keep_20 (mm_wtR hS 51 h0 rfl rfl) ?_
    refine mm_iload_n d11_keep_23 rfl ?_
    refine mm_iconst (v := 1) d11_keep_24 (by decide +kernel) ?_
    obtain ⟨hb4, h⟩ := mm_gd h
    refine mm_zast d11_keep_25 (mm_wtA hS 56 1 h0 rfl rfl) (mm_inb_ok hb4) (by decide) ?_
    refine mm_iconst (v := 1) d11_keep_26 (by decide +kernel) ?_
    have h := Option.some.inj h
    subst h
    exact mm_iret rfl d11_keep_27 ⟨rfl, rfl, rfl⟩
  · rw [if_pos hc2] at h
    refine mm_ldcw (v := (-1000000001)) d11_keep_10 kX11_271 ?_
    have h := Option.some.inj h
    subst h
    exact mm_iret rfl d11_keep_13 ⟨rfl, rfl, rfl⟩
set_option maxHeartbeats 4000000 in
set_option maxRecDepth 100000 in
theorem ok11_knownMany_27 (l : Launch) {S : mm_Sh} (hS : mm_WT S) {n : Nat}  {rec4 : Nat → Int32 → Int32 → Int32 → mm_I → mm_J → Option (Int32)} (hrec4 : ∀ {v0 : Nat} {v1 : Int32} {v2 : Int32} {v3 : Int32} (_ : mm_is S v0 11) {I : mm_I} {J : mm_J} {o : Int32}, rec4 v0 v1 v2 v3 I J = some o → mm_W l M11_knownMany (mm_rm (mm_rk M11_knownMany)) 0 0 S (mm_end S (mm_Qi o I J)) 4 [(0, .ref v0), (1, .int v1), (2, .int v2), (3, .int v3)] [] I J) {v0 : Nat} {v1 : Int32} {v3 : Int32} {s0 : Int32} {s1 : Int32} (h0 : mm_is S v0 11) {I : mm_I} {J : mm_J} {o : Int32} (h : f11_knownMany_27 S n rec4 v0 v1 v3 s0 s1 I J = some o) : mm_W l M11_knownMany (mm_rm (mm_rk M11_knownMany)) 0 0 S (mm_end S (mm_Qi o I J)) 27 [(0, .ref v0), (1, .int v1), (3, .int v3)] [.int s1, .int s0] I J := by
  unfold f11_knownMany_27 at h
  refine mm_iadd d11_knownMany_27 ?_
  refine mm_istore_n d11_knownMany_28 rfl rfl ?_
  refine mm_iinc (v := v3 + 1) d11_knownMany_29 rfl rfl rfl rfl ?_
  refine mm_goto (tgt := 4) d11_knownMany_32 (by decide) ?_
  refine mm_sub [(0, .ref v0), (1, .int v1), (2, .int (s0 + s1)), (3, .int (v3 + 1))] ⟨rfl, rfl, rfl, rfl, trivial⟩ ?_
  exact hrec4 h0 h
set_option maxHeartbeats 4000000 in
set_option maxRecDepth 100000 in
theorem ok11_knownMany_4_b (l : Launch) {S : mm_Sh} (hS : mm_WT S) {n : Nat}  {rec4 : Nat → Int32 → Int32 → Int32 → mm_I → mm_J → Option (Int32)} (hrec4 : ∀ {v0 : Nat} {v1 : Int32} {v2 : Int32} {v3 : Int32} (_ : mm_is S v0 11) {I : mm_I} {J : mm_J} {o : Int32}, rec4 v0 v1 v2 v3 I J = some o → mm_W l M11_knownMany (mm_rm (mm_rk M11_knownMany)) 0 0 S (mm_end S (mm_Qi o I J)) 4 [(0, .ref v0), (1, .int v1), (2, .int v2), (3, .int v3)] [] I J) {v0 : Nat} {v1 : Int32} {v2 : Int32} {v3 : Int32} (h0 : mm_is S v0 11) {I : mm_I} {J : mm_J} {o : Int32} (h : f11_knownMany_4_b S n rec4 v0 v1 v2 v3 I J = some o) : mm_W l M11_knownMany (mm_rm (mm_rk M11_knownMany)) 0 0 S (mm_end S (mm_Qi o I J)) 4 [(0, .ref v0), (1, .int v1), (2, .int v2), (3, .int v3)] [] I J := by
  unfold f11_knownMany_4_b at h
  refine mm_iload_n d11_knownMany_4 rfl ?_
  refine mm_aload_n d11_knownMany_5 rfl ?_
  refine mm_getI fl_X11_133 d11_knownMany_6 (mm_wtI hS h0 rfl) ?_
  refine mm_icmp_ge (tgt := 35) d11_knownMany_9 (by decide) (fun hc1 => ?_) (fun hc1 => ?_)
  · rw [if_pos hc1] at h
    refine mm_iload_n d11_knownMany_35 rfl ?_
    have h := Option.some.inj h
    subst h
    exact mm_iret rfl d11_knownMany_36 ⟨rfl, rfl, rfl⟩
  · rw [if_neg hc1] at h
    refine mm_iload_n d11_knownMany_12 rfl ?_
    refine mm_aload_n d11_knownMany_13 rfl ?_
    refine mm_iload_n d11_knownMany_14 rfl ?_
    refine mm_iload_n d11_knownMany_15 rfl ?_
    obtain ⟨o2, hk2, h⟩ := mm_bd h
    refine mm_cVi 11 (As := [.int v1, .int v3]) (ok11_knows l hS h0 hk2) lk_X11_143 rfl d11_knownMany_16 (mm_room rfl rfl) rfl h0 rfl rfl ?_
    refine mm_if_eq (tgt := 26) d11_knownMany_19 (by decide) (fun hc3 => ?_) (fun hc3 => ?_)
    · rw [if_pos hc3] at h
      refine mm_iconst (v := 0) d11_knownMany_26 (by decide +kernel) ?_
      refine mm_sub [(0, .ref v0), (1, .int v1), (3, .int v3)] ⟨rfl, rfl, rfl, trivial⟩ ?_
      exact ok11_knownMany_27 l hS hrec4 h0 h
    · rw [if_neg hc3] at h
      refine mm_iconst (v := 1) d11_knownMany_22 (by decide +kernel) ?_
      refine mm_goto (tgt := 27) d11_knownMany_23 (by decide) ?_
      refine mm_sub [(0, .ref v0), (1, .int v1), (3, .int v3)] ⟨rfl, rfl, rfl, trivial⟩ ?_
      exact ok11_knownMany_27 l hS hrec4 h0 h
set_option maxHeartbeats 4000000 in
set_option maxRecDepth 100000 in
theorem ok11_knownMany_4 (l : Launch) {S : mm_Sh} (hS : mm_WT S) {n : Nat}  : ∀ (k : Nat) {v0 : Nat} {v1 : Int32} {v2 : Int32} {v3 : Int32} (h0 : mm_is S v0 11) {I : mm_I} {J : mm_J} {o : Int32}, f11_knownMany_4 S n k v0 v1 v2 v3 I J = some o → mm_W l M11_knownMany (mm_rm (mm_rk M11_knownMany)) 0 0 S (mm_end S (mm_Qi o I J)) 4 [(0, .ref v0), (1, .int v1), (2, .int v2), (3, .int v3)] [] I J := by
  intro k
  induction k with
  | zero =>
    intros
    rename_i h
    cases h
  | succ k ih =>
    intro v0 v1 v2 v3 h0 I J o h
    exact ok11_knownMany_4_b l hS (fun {v0 v1 v2 v3} h0 {I J o} h => ih h0 h) h0 h
set_option maxHeartbeats 4000000 in
set_option maxRecDepth 100000 in
theorem ok11_knownMany (l : Launch) {S : mm_Sh} (hS : mm_WT S) {n : Nat}  {v0 : Nat} {v1 : Int32} (h0 : mm_is S v0 11) {I : mm_I} {J : mm_J} {o : Int32} (h : f11_knownMany S n v0 v1 I J = some o) : mm_C l M11_knownMany S [.ref v0, .int v1] I J (mm_Qi o I J) := by
  unfold f11_knownMany at h
  refine mm_enter rfl (by decide +kernel) rfl ?_
  refine mm_iconst (v := 0) d11_knownMany_0 (by decide +kernel) ?_
  refine mm_istore_n d11_knownMany_1 rfl rfl ?_
  refine mm_iconst (v := 0) d11_knownMany_2 (by decide +kernel) ?_
  refine mm_istore_n d11_knownMany_3 rfl rfl ?_
  refine mm_sub [(0, .ref v0), (1, .int v1), (2, .int 0), (3, .int 0)] ⟨rfl, rfl, rfl, rfl, trivial⟩ ?_
  exact ok11_knownMany_4 l hS  n h0 h
set_option maxHeartbeats 4000000 in
set_option maxRecDepth 100000 in
theorem ok11_knownSet_29 (l : Launch) {S : mm_Sh} (hS : mm_WT S) {n : Nat}  {rec4 : Nat → Int32 → Int32 → Int32 → mm_I → mm_J → Option (Int32)} (hrec4 : ∀ {v0 : Nat} {v1 : Int32} {v2 : Int32} {v3 : Int32} (_ : mm_is S v0 11) {I : mm_I} {J : mm_J} {o : Int32}, rec4 v0 v1 v2 v3 I J = some o → mm_W l M11_knownSet (mm_rm (mm_rk M11_knownSet)) 0 0 S (mm_end S (mm_Qi o I J)) 4 [(0, .ref v0), (1, .int v1), (2, .int v2), (3, .int v3)] [] I J) {v0 : Nat} {v1 : Int32} {v3 : Int32} {s0 : Int32} {s1 : Int32} (h0 : mm_is S v0 11) {I : mm_I} {J : mm_J} {o : Int32} (h : f11_knownSet_29 S n rec4 v0 v1 v3 s0 s1 I J = some o) : mm_W l M11_knownSet (mm_rm (mm_rk M11_knownSet)) 0 0 S (mm_end S (mm_Qi o I J)) 29 [(0, .ref v0), (1, .int v1), (3, .int v3)] [.int s1, .int s0] I J := by
  unfold f11_knownSet_29 at h
  refine mm_ior d11_knownSet_29 ?_
  refine mm_istore_n d11_knownSet_30 rfl rfl ?_
  refine mm_iinc (v := v3 + 1) d11_knownSet_31 rfl rfl rfl rfl ?_
  refine mm_goto (tgt := 4) d11_knownSet_34 (by decide) ?_
  refine mm_sub [(0, .ref v0), (1, .int v1), (2, .int (s0 ||| s1)), (3, .int (v3 + 1))] ⟨rfl, rfl, rfl, rfl, trivial⟩ ?_
  exact hrec4 h0 h
set_option maxHeartbeats 4000000 in
set_option maxRecDepth 100000 in
theorem ok11_knownSet_4_b (l : Launch) {S : mm_Sh} (hS : mm_WT S) {n : Nat}  {rec4 : Nat → Int32 → Int32 → Int32 → mm_I → mm_J → Option (Int32)} (hrec4 : ∀ {v0 : Nat} {v1 : Int32} {v2 : Int32} {v3 : Int32} (_ : mm_is S v0 11) {I : mm_I} {J : mm_J} {o : Int32}, rec4 v0 v1 v2 v3 I J = some o → mm_W l M11_knownSet (mm_rm (mm_rk M11_knownSet)) 0 0 S (mm_end S (mm_Qi o I J)) 4 [(0, .ref v0), (1, .int v1), (2, .int v2), (3, .int v3)] [] I J) {v0 : Nat} {v1 : Int32} {v2 : Int32} {v3 : Int32} (h0 : mm_is S v0 11) {I : mm_I} {J : mm_J} {o : Int32} (h : f11_knownSet_4_b S n rec4 v0 v1 v2 v3 I J = some o) : mm_W l M11_knownSet (mm_rm (mm_rk M11_knownSet)) 0 0 S (mm_end S (mm_Qi o I J)) 4 [(0, .ref v0), (1, .int v1), (2, .int v2), (3, .int v3)] [] I J := by
  unfold f11_knownSet_4_b at h
  refine mm_iload_n d11_knownSet_4 rfl ?_
  refine mm_aload_n d11_knownSet_5 rfl ?_
  refine mm_getI fl_X11_133 d11_knownSet_6 (mm_wtI hS h0 rfl) ?_
  refine mm_icmp_ge (tgt := 37) d11_knownSet_9 (by decide) (fun hc1 => ?_) (fun hc1 => ?_)
  · rw [if_pos hc1] at h
    refine mm_iload_n d11_knownSet_37 rfl ?_
    have h := Option.some.inj h
    subst h
    exact mm_iret rfl d11_knownSet_38 ⟨rfl, rfl, rfl⟩
  · rw [if_neg hc1] at h
    refine mm_iload_n d11_knownSet_12 rfl ?_
    refine mm_aload_n d11_knownSet_13 rfl ?_
    refine mm_iload_n d11_knownSet_14 rfl ?_
    refine mm_iload_n d11_knownSet_15 rfl ?_
    obtain ⟨o2, hk2, h⟩ := mm_bd h
    refine mm_cVi 11 (As := [.int v1, .int v3]) (ok11_knows l hS h0 hk2) lk_X11_143 rfl d11_knownSet_16 (mm_room rfl rfl) rfl h0 rfl rfl ?_
    refine mm_if_eq (tgt := 28) d11_knownSet_19 (by decide) (fun hc3 => ?_) (fun hc3 => ?_)
    · rw [if_pos hc3] at h
      refine mm_iconst (v := 0) d11_knownSet_28 (by decide +kernel) ?_
      refine mm_sub [(0, .ref v0), (1, .int v1), (3, .int v3)] ⟨rfl, rfl, rfl, trivial⟩ ?_
      exact ok11_knownSet_29 l hS hrec4 h0 h
    · rw [if_neg hc3] at h
      refine mm_iconst (v := 1) d11_knownSet_22 (by decide +kernel) ?_
      refine mm_iload_n d11_knownSet_23 rfl ?_
      refine mm_ishl d11_knownSet_24 ?_
      refine mm_goto (tgt := 29) d11_knownSet_25 (by decide) ?_
      refine mm_sub [(0, .ref v0), (1, .int v1), (3, .int v3)] ⟨rfl, rfl, rfl, trivial⟩ ?_
      exact ok11_knownSet_29 l hS hrec4 h0 h
set_option maxHeartbeats 4000000 in
set_option maxRecDepth 100000 in
theorem ok11_knownSet_4 (l : Launch) {S : mm_Sh} (hS : mm_WT S) {n : Nat}  : ∀ (k : Nat) {v0 : Nat} {v1 : Int32} {v2 : Int32} {v3 : Int32} (h0 : mm_is S v0 11) {I : mm_I} {J : mm_J} {o : Int32}, f11_knownSet_4 S n k v0 v1 v2 v3 I J = some o → mm_W l M11_knownSet (mm_rm (mm_rk M11_knownSet)) 0 0 S (mm_end S (mm_Qi o I J)) 4 [(0, .ref v0), (1, .int v1), (2, .int v2), (3, .int v3)] [] I J := by
  intro k
  induction k with
  | zero =>
    intros
    rename_i h
    cases h
  | succ k ih =>
    intro v0 v1 v2 v3 h0 I J o h
    exact ok11_knownSet_4_b l hS (fun {v0 v1 v2 v3} h0 {I J o} h => ih h0 h) h0 h
set_option maxHeartbeats 4000000 in
set_option maxRecDepth 100000 in
theorem ok11_knownSet (l : Launch) {S : mm_Sh} (hS : mm_WT S) {n : Nat}  {v0 : Nat} {v1 : Int32} (h0 : mm_is S v0 11) {I : mm_I} {J : mm_J} {o : Int32} (h : f11_knownSet S n v0 v1 I J = some o) : mm_C l M11_knownSet S [.ref v0, .int v1] I J (mm_Qi o I J) := by
  unfold f11_knownSet at h
  refine mm_enter rfl (by decide +kernel) rfl ?_
  refine mm_iconst (v := 0) d11_knownSet_0 (by decide +kernel) ?_
  refine mm_istore_n d11_knownSet_1 rfl rfl ?_
  refine mm_iconst (v := 0) d11_knownSet_2 (by decide +kernel) ?_
  refine mm_istore_n d11_knownSet_3 rfl rfl ?_
  refine mm_sub [(0, .ref v0), (1, .int v1), (2, .int 0), (3, .int 0)] ⟨rfl, rfl, rfl, rfl, trivial⟩ ?_
  exact ok11_knownSet_4 l hS  n h0 h
set_option maxHeartbeats 4000000 in
set_option maxRecDepth 100000 in
theorem ok11_leastLiked_55 (l : Launch) {S : mm_Sh} (hS : mm_WT S) {n : Nat}  {rec4 : Nat → Int32 → Int32 → Int32 → mm_I → mm_J → Option (Int32)} (hrec4 : ∀ {v0 : Nat} {v1 : Int32} {v2 : Int32} {v3 : Int32} (_ : mm_is S v0 11) {I : mm_I} {J : mm_J} {o : Int32}, rec4 v0 v1 v2 v3 I J = some o → mm_W l M11_leastLiked (mm_rm (mm_rk M11_leastLiked)) 0 0 S (mm_end S (mm_Qi o I J)) 4 [(0, .ref v0), (1, .int v1), (2, .int v2), (3, .int v3)] [] I J) {v0 : Nat} {v1 : Int32} {v3 : Int32} {s0 : Int32} (h0 : mm_is S v0 11) {I : mm_I} {J : mm_J} {o : Int32} (h : f11_leastLiked_55 S n rec4 v0 v1 v3 s0 I J = some o) : mm_W l M11_leastLiked (mm_rm (mm_rk M11_leastLiked)) 0 0 S (mm_end S (mm_Qi o I J)) 55 [(0, .ref v0), (1, .int v1), (3, .int v3)] [.int s0] I J := by
  unfold f11_leastLiked_55 at h
  refine mm_istore_n d11_leastLiked_55 rfl rfl ?_
  refine mm_iinc (v := v3 + 1) d11_leastLiked_56 rfl rfl rfl rfl ?_
  refine mm_goto (tgt := 4) d11_leastLiked_59 (by decide) ?_
  refine mm_sub [(0, .ref v0), (1, .int v1), (2, .int s0), (3, .int (v3 + 1))] ⟨rfl, rfl, rfl, rfl, trivial⟩ ?_
  exact hrec4 h0 h
set_option maxHeartbeats 4000000 in
set_option maxRecDepth 100000 in
theorem ok11_leastLiked_50 (l : Launch) {S : mm_Sh} (hS : mm_WT S) {n : Nat}  {rec4 : Nat → Int32 → Int32 → Int32 → mm_I → mm_J → Option (Int32)} (hrec4 : ∀ {v0 : Nat} {v1 : Int32} {v2 : Int32} {v3 : Int32} (_ : mm_is S v0 11) {I : mm_I} {J : mm_J} {o : Int32}, rec4 v0 v1 v2 v3 I J = some o → mm_W l M11_leastLiked (mm_rm (mm_rk M11_leastLiked)) 0 0 S (mm_end S (mm_Qi o I J)) 4 [(0, .ref v0), (1, .int v1), (2, .int v2), (3, .int v3)] [] I J) {v0 : Nat} {v1 : Int32} {v3 : Int32} (h0 : mm_is S v0 11) {I : mm_I} {J : mm_J} {o : Int32} (h : f11_leastLiked_50 S n rec4 v0 v1 v3 I J = some o) : mm_W l M11_leastLiked (mm_rm (mm_rk M11_leastLiked)) 0 0 S (mm_end S (mm_Qi o I J)) 50 [(0, .ref v0), (1, .int v1), (3, .int v3)] [] I J := by
  unfold f11_leastLiked_50 at h
  refine mm_iload_n d11_leastLiked_50 rfl ?_
  refine mm_goto (tgt := 55) d11_leastLiked_51 (by decide) ?_
  refine mm_sub [(0, .ref v0), (1, .int v1), (3, .int v3)] ⟨rfl, rfl, rfl, trivial⟩ ?_
  exact ok11_leastLiked_55 l hS hrec4 h0 h
set_option maxHeartbeats 4000000 in
set_option maxRecDepth 100000 in
theorem ok11_leastLiked_54 (l : Launch) {S : mm_Sh} (hS : mm_WT S) {n : Nat}  {rec4 : Nat → Int32 → Int32 → Int32 → mm_I → mm_J → Option (Int32)} (hrec4 : ∀ {v0 : Nat} {v1 : Int32} {v2 : Int32} {v3 : Int32} (_ : mm_is S v0 11) {I : mm_I} {J : mm_J} {o : Int32}, rec4 v0 v1 v2 v3 I J = some o → mm_W l M11_leastLiked (mm_rm (mm_rk M11_leastLiked)) 0 0 S (mm_end S (mm_Qi o I J)) 4 [(0, .ref v0), (1, .int v1), (2, .int v2), (3, .int v3)] [] I J) {v0 : Nat} {v1 : Int32} {v2 : Int32} {v3 : Int32} (h0 : mm_is S v0 11) {I : mm_I} {J : mm_J} {o : Int32} (h : f11_leastLiked_54 S n rec4 v0 v1 v2 v3 I J = some o) : mm_W l M11_leastLiked (mm_rm (mm_rk M11_leastLiked)) 0 0 S (mm_end S (mm_Qi o I J)) 54 [(0, .ref v0), (1, .int v1), (2, .int v2), (3, .int v3)] [] I J := by
  unfold f11_leastLiked_54 at h
  refine mm_iload_n d11_leastLiked_54 rfl ?_
  refine mm_sub [(0, .ref v0), (1, .int v1), (3, .int v3)] ⟨rfl, rfl, rfl, trivial⟩ ?_
  exact ok11_leastLiked_55 l hS hrec4 h0 h
set_option maxHeartbeats 4000000 in
set_option maxRecDepth 100000 in
theorem ok11_leastLiked_4_b (l : Launch) {S : mm_Sh} (hS : mm_WT S) {n : Nat}  {rec4 : Nat → Int32 → Int32 → Int32 → mm_I → mm_J → Option (Int32)} (hrec4 : ∀ {v0 : Nat} {v1 : Int32} {v2 : Int32} {v3 : Int32} (_ : mm_is S v0 11) {I : mm_I} {J : mm_J} {o : Int32}, rec4 v0 v1 v2 v3 I J = some o → mm_W l M11_leastLiked (mm_rm (mm_rk M11_leastLiked)) 0 0 S (mm_end S (mm_Qi o I J)) 4 [(0, .ref v0), (1, .int v1), (2, .int v2), (3, .int v3)] [] I J) {v0 : Nat} {v1 : Int32} {v2 : Int32} {v3 : Int32} (h0 : mm_is S v0 11) {I : mm_I} {J : mm_J} {o : Int32} (h : f11_leastLiked_4_b S n rec4 v0 v1 v2 v3 I J = some o) : mm_W l M11_leastLiked (mm_rm (mm_rk M11_leastLiked)) 0 0 S (mm_end S (mm_Qi o I J)) 4 [(0, .ref v0), (1, .int v1), (2, .int v2), (3, .int v3)] [] I J := by
  unfold f11_leastLiked_4_b at h
  refine mm_iload_n d11_leastLiked_4 rfl ?_
  refine mm_aload_n d11_leastLiked_5 rfl ?_
  refine mm_getI fl_X11_133 d11_leastLiked_6 (mm_wtI hS h0 rfl) ?_
  refine mm_icmp_ge (tgt := 62) d11_leastLiked_9 (by decide) (fun hc1 => ?_) (fun hc1 => ?_)
  · rw [if_pos hc1] at h
    refine mm_iload_n d11_leastLiked_62 rfl ?_
    have h := Option.some.inj h
    subst h
    exact mm_iret rfl d11_leastLiked_63 ⟨rfl, rfl, rfl⟩
  · rw [if_neg hc1] at h
    refine mm_aload_n d11_leastLiked_12 rfl ?_
    refine mm_iload_n d11_leastLiked_13 rfl ?_
    refine mm_iload_n d11_leastLiked_14 rfl ?_
    obtain ⟨o2, hk2, h⟩ := mm_bd h
    refine mm_cVi 11 (As := [.int v1, .int v3]) (ok11_knows l hS h0 hk2) lk_X11_143 rfl d11_leastLiked_15 (mm_room rfl rfl) rfl h0 rfl rfl ?_
    refine mm_if_eq (tgt := 54) d11_leastLiked_18 (by decide) (fun hc3 => ?_) (fun hc3 => ?_)
    · rw [if_pos hc3] at h
      refine mm_sub [(0, .ref v0), (1, .int v1), (2, .int v2), (3, .int v3)] ⟨rfl, rfl, rfl, rfl, trivial⟩ ?_
      exact ok11_leastLiked_54 l hS hrec4 h0 h
    · rw [if_neg hc3] at h
      refine mm_iload_n d11_leastLiked_21 rfl ?_
      refine mm_if_lt (tgt := 50) d11_leastLiked_22 (by decide) (fun hc4 => ?_) (fun hc4 => ?_)
      · rw [if_pos hc4] at h
        refine mm_sub [(0, .ref v0), (1, .int v1), (3, .int v3)] ⟨rfl, rfl, rfl, trivial⟩ ?_
        exact ok11_leastLiked_50 l hS hrec4 h0 h
      · rw [if_neg hc4] at h
        refine mm_aload_n d11_leastLiked_25 rfl ?_
        refine mm_getR fl_X11_19 d11_leastLiked_26 (mm_wtR hS 50 h0 rfl rfl) ?_
        refine mm_bipush (v := 6) d11_leastLiked_29 (by decide +kernel) ?_
        refine mm_iload_n d11_leastLiked_31 rfl ?_
        refine mm_imul d11_leastLiked_32 ?_
        refine mm_iload_n d11_leastLiked_33 rfl ?_
        refine mm_iadd d11_leastLiked_34 ?_
        obtain ⟨hb5, h⟩ := mm_gd h
        refine mm_iald d11_leastLiked_35 (mm_wtA hS 5 0 h0 rfl rfl) (mm_inb_ok hb5) ?_
        refine mm_aload_n d11_leastLiked_36 rfl ?_
        refine mm_getR fl_X11_19 d11_leastLiked_37 (mm_wtR hS 50 h0 rfl rfl) ?_
        refine mm_bipush (v := 6) d11_leastLiked_40 (by decide +kernel) ?_
        refine mm_iload_n d11_leastLiked_42 rfl ?_
        refine mm_imul d11_leastLiked_43 ?_
        refine mm_iload_n d11_leastLiked_44 rfl ?_
        refine mm_iadd d11_leastLiked_45 ?_
        obtain ⟨hb6, h⟩ := mm_gd h
        refine mm_iald d11_leastLiked_46 (mm_wtA hS 5 0 h0 rfl rfl) (mm_inb_ok hb6) ?_
        refine mm_icmp_ge (tgt := 54) d11_leastLiked_47 (by decide) (fun hc7 => ?_) (fun hc7 => ?_)
        · rw [if_pos hc7] at h
          refine mm_sub [(0, .ref v0), (1, .int v1), (2, .int v2), (3, .int v3)] ⟨rfl, rfl, rfl, rfl, trivial⟩ ?_
          exact ok11_leastLiked_54 l hS hrec4 h0 h
        · rw [if_neg hc7] at h
          refine mm_sub [(0, .ref v0), (1, .int v1), (3, .int v3)] ⟨rfl, rfl, rfl, trivial⟩ ?_
          exact ok11_leastLiked_50 l hS hrec4 h0 h
set_option maxHeartbeats 4000000 in
set_option maxRecDepth 100000 in
theorem ok11_leastLiked_4 (l : Launch) {S : mm_Sh} (hS : mm_WT S) {n : Nat}  : ∀ (k : Nat) {v0 : Nat} {v1 : Int32} {v2 : Int32} {v3 : Int32} (h0 : mm_is S v0 11) {I : mm_I} {J : mm_J} {o : Int32}, f11_leastLiked_4 S n k v0 v1 v2 v3 I J = some o → mm_W l M11_leastLiked (mm_rm (mm_rk M11_leastLiked)) 0 0 S (mm_end S (mm_Qi o I J)) 4 [(0, .ref v0), (1, .int v1), (2, .int v2), (3, .int v3)] [] I J := by
  intro k
  induction k with
  | zero =>
    intros
    rename_i h
    cases h
  | succ k ih =>
    intro v0 v1 v2 v3 h0 I J o h
    exact ok11_leastLiked_4_b l hS (fun {v0 v1 v2 v3} h0 {I J o} h => ih h0 h) h0 h
set_option maxHeartbeats 4000000 in
set_option maxRecDepth 100000 in
theorem ok11_leastLiked (l : Launch) {S : mm_Sh} (hS : mm_WT S) {n : Nat}  {v0 : Nat} {v1 : Int32} (h0 : mm_is S v0 11) {I : mm_I} {J : mm_J} {o : Int32} (h : f11_leastLiked S n v0 v1 I J = some o) : mm_C l M11_leastLiked S [.ref v0, .int v1] I J (mm_Qi o I J) := by
  unfold f11_leastLiked at h
  refine mm_enter rfl (by decide +kernel) rfl ?_
  refine mm_iconst (v := (-1)) d11_leastLiked_0 (by decide +kernel) ?_
  refine mm_istore_n d11_leastLiked_1 rfl rfl ?_
  refine mm_iconst (v := 0) d11_leastLiked_2 (by decide +kernel) ?_
  refine mm_istore_n d11_leastLiked_3 rfl rfl ?_
  refine mm_sub [(0, .ref v0), (1, .int v1), (2, .int (-1)), (3, .int 0)] ⟨rfl, rfl, rfl, rfl, trivial⟩ ?_
  exact ok11_leastLiked_4 l hS  n h0 h
set_option maxHeartbeats 4000000 in
set_option maxRecDepth 100000 in
theorem ok11_makers_38 (l : Launch) {S : mm_Sh} (hS : mm_WT S) {n : Nat}  {s0 : Int32}  {I : mm_I} {J : mm_J} {o : Int32} (h : f11_makers_38 S n s0 I J = some o) : mm_W l M11_makers (mm_rm (mm_rk M11_makers)) 0 0 S (mm_end S (mm_Qi o I J)) 38 [] [.int s0] I J := by
  unfold f11_makers_38 at h
  have h := Option.some.inj h
  subst h
  exact mm_iret rfl d11_makers_38 ⟨rfl, rfl, rfl⟩
set_option maxHeartbeats 4000000 in
set_option maxRecDepth 100000 in
theorem ok11_makers (l : Launch) {S : mm_Sh} (hS : mm_WT S) {n : Nat}  {v0 : Nat} {v1 : Int32} (h0 : mm_is S v0 11) {I : mm_I} {J : mm_J} {o : Int32} (h : f11_makers S n v0 v1 I J = some o) : mm_C l M11_makers S [.ref v0, .int v1] I J (mm_Qi o I J) := by
  unfold f11_makers at h
  refine mm_enter rfl (by decide +kernel) rfl ?_
  refine mm_iload_n d11_makers_0 rfl ?_
  refine mm_i2l d11_makers_1 ?_
  refine mm_lconst (v := 0) d11_makers_2 (by decide +kernel) ?_
  refine mm_aload_n d11_makers_3 rfl ?_
  refine mm_getI fl_X11_244 d11_makers_4 (mm_wtI hS h0 rfl) ?_
  refine mm_iconst (v := 1) d11_makers_7 (by decide +kernel) ?_
  refine mm_isub d11_makers_8 ?_
  refine mm_i2l d11_makers_9 ?_
  obtain ⟨o1, hk1, h⟩ := mm_bd h
  refine mm_cSi (As := [.long v1.toInt64, .long 0, .long (((I v0 48) - 1).toInt64)]) (ok11_in l hS hk1) lk_X11_136 rfl d11_makers_10 (mm_room rfl rfl) rfl rfl ?_
  refine mm_if_eq (tgt := 35) d11_makers_13 (by decide) (fun hc2 => ?_) (fun hc2 => ?_)
  · rw [if_pos hc2] at h
    refine mm_ldcw (v := (-1000000001)) d11_makers_35 kX11_271 ?_
    refine mm_sub [] trivial ?_
    exact ok11_makers_38 l hS   h
  · rw [if_neg hc2] at h
    refine mm_aload_n d11_makers_16 rfl ?_
    refine mm_aload_n d11_makers_17 rfl ?_
    refine mm_getR fl_X11_108 d11_makers_18 (mm_wtR hS 50 h0 rfl rfl) ?_
    refine mm_iload_n d11_makers_21 rfl ?_
    obtain ⟨hb3, h⟩ := mm_gd h
    refine mm_iald d11_makers_22 (mm_wtA hS 49 0 h0 rfl rfl) (mm_inb_ok hb3) ?_
    refine mm_aload_n d11_makers_23 rfl ?_
    refine mm_getR fl_X11_111 d11_makers_24 (mm_wtR hS 50 h0 rfl rfl) ?_
    refine mm_iload_n d11_makers_27 rfl ?_
    obtain ⟨hb4, h⟩ := mm_gd h
    refine mm_iald d11_makers_28 (mm_wtA hS 50 0 h0 rfl rfl) (mm_inb_ok hb4) ?_
    obtain ⟨o5, hk5, h⟩ := mm_bd h
    refine mm_cVi 11 (As := [.int (I (mm_rf S v0 49) v1.toNatClampNeg), .int (I (mm_rf S v0 50) v1.toNatClampNeg)]) (ok11_knowers l hS h0 hk5) lk_X11_258 rfl d11_makers_29 (mm_room rfl rfl) rfl h0 rfl rfl ?_
    refine mm_goto (tgt := 38) d11_makers_32 (by decide) ?_
    refine mm_sub [] trivial ?_
    exact ok11_makers_38 l hS   h
set_option maxHeartbeats 4000000 in
set_option maxRecDepth 100000 in
theorem ok11_mayLearn_80 (l : Launch) {S : mm_Sh} (hS : mm_WT S)  {s0 : Int32}  {I : mm_I} {J : mm_J} {o : Int32} (h : f11_mayLearn_80 S s0 I J = some o) : mm_W l M11_mayLearn (mm_rm (mm_rk M11_mayLearn)) 0 0 S (mm_end S (mm_Qi o I J)) 80 [] [.int s0] I J := by
  unfold f11_mayLearn_80 at h
  obtain ⟨hb1, h⟩ := mm_gd h
  have h := Option.some.inj h
  subst h
  exact mm_zret rfl d11_mayLearn_80 (mm_bit_ok hb1) ⟨rfl, rfl, rfl⟩
set_option maxHeartbeats 4000000 in
set_option maxRecDepth 100000 in
theorem ok11_mayLearn_79 (l : Launch) {S : mm_Sh} (hS : mm_WT S)    {I : mm_I} {J : mm_J} {o : Int32} (h : f11_mayLearn_79 S  I J = some o) : mm_W l M11_mayLearn (mm_rm (mm_rk M11_mayLearn)) 0 0 S (mm_end S (mm_Qi o I J)) 79 [] [] I J := by
  unfold f11_mayLearn_79 at h
  refine mm_iconst (v := 0) d11_mayLearn_79 (by decide +kernel) ?_
  refine mm_sub [] trivial ?_
  exact ok11_mayLearn_80 l hS   h
set_option maxHeartbeats 4000000 in
set_option maxRecDepth 100000 in
theorem ok11_mayLearn_29 (l : Launch) {S : mm_Sh} (hS : mm_WT S)  {v0 : Nat} {v1 : Int32} {v2 : Int32} {s0 : Int32} (h0 : mm_is S v0 11) {I : mm_I} {J : mm_J} {o : Int32} (h : f11_mayLearn_29 S v0 v1 v2 s0 I J = some o) : mm_W l M11_mayLearn (mm_rm (mm_rk M11_mayLearn)) 0 0 S (mm_end S (mm_Qi o I J)) 29 [(0, .ref v0), (1, .int v1), (2, .int v2)] [.int s0] I J := by
  unfold f11_mayLearn_29 at h
  refine mm_istore d11_mayLearn_29 rfl rfl ?_
  refine mm_aload_n d11_mayLearn_31 rfl ?_
  refine mm_getR fl_X11_41 d11_mayLearn_32 (mm_wtR hS 51 h0 rfl rfl) ?_
  refine mm_iload_n d11_mayLearn_35 rfl ?_
  obtain ⟨hb1, h⟩ := mm_gd h
  refine mm_zald d11_mayLearn_36 (mm_wtA hS 13 1 h0 rfl rfl) (mm_inb_ok hb1) ?_
  refine mm_if_eq (tgt := 79) d11_mayLearn_37 (by decide) (fun hc2 => ?_) (fun hc2 => ?_)
  · rw [if_pos hc2] at h
    refine mm_sub [] trivial ?_
    exact ok11_mayLearn_79 l hS   h
  · rw [if_neg hc2] at h
    refine mm_aload_n d11_mayLearn_40 rfl ?_
    refine mm_getR fl_X11_54 d11_mayLearn_41 (mm_wtR hS 50 h0 rfl rfl) ?_
    refine mm_iload_n d11_mayLearn_44 rfl ?_
    obtain ⟨hb3, h⟩ := mm_gd h
    refine mm_iald d11_mayLearn_45 (mm_wtA hS 17 0 h0 rfl rfl) (mm_inb_ok hb3) ?_
    refine mm_if_ge (tgt := 79) d11_mayLearn_46 (by decide) (fun hc4 => ?_) (fun hc4 => ?_)
    · rw [if_pos hc4] at h
      refine mm_sub [] trivial ?_
      exact ok11_mayLearn_79 l hS   h
    · rw [if_neg hc4] at h
      refine mm_aload_n d11_mayLearn_49 rfl ?_
      refine mm_iload_n d11_mayLearn_50 rfl ?_
      refine mm_iload_n d11_mayLearn_51 rfl ?_
      obtain ⟨o5, hk5, h⟩ := mm_bd h
      refine mm_cVi 11 (As := [.int v1, .int v2]) (ok11_knows l hS h0 hk5) lk_X11_143 rfl d11_mayLearn_52 (mm_room rfl rfl) rfl h0 rfl rfl ?_
      refine mm_if_ne (tgt := 79) d11_mayLearn_55 (by decide) (fun hc6 => ?_) (fun hc6 => ?_)
      · rw [if_neg hc6] at h
        refine mm_sub [] trivial ?_
        exact ok11_mayLearn_79 l hS   h
      · rw [if_pos hc6] at h
        refine mm_aload_n d11_mayLearn_58 rfl ?_
        refine mm_getR fl_X11_7 d11_mayLearn_59 (mm_wtR hS 50 h0 rfl rfl) ?_
        refine mm_iconst (v := 4) d11_mayLearn_62 (by decide +kernel) ?_
        refine mm_iload_n d11_mayLearn_63 rfl ?_
        refine mm_imul d11_mayLearn_64 ?_
        obtain ⟨hb7, h⟩ := mm_gd h
        refine mm_iald d11_mayLearn_65 (mm_wtA hS 1 0 h0 rfl rfl) (mm_inb_ok hb7) ?_
        refine mm_iconst (v := 3) d11_mayLearn_66 (by decide +kernel) ?_
        refine mm_icmp_eq (tgt := 79) d11_mayLearn_67 (by decide) (fun hc8 => ?_) (fun hc8 => ?_)
        · rw [if_pos hc8] at h
          refine mm_sub [] trivial ?_
          exact ok11_mayLearn_79 l hS   h
        · rw [if_neg hc8] at h
          refine mm_iload d11_mayLearn_70 rfl ?_
          refine mm_if_eq (tgt := 79) d11_mayLearn_72 (by decide) (fun hc9 => ?_) (fun hc9 => ?_)
          · rw [if_pos hc9] at h
            refine mm_sub [] trivial ?_
            exact ok11_mayLearn_79 l hS   h
          · rw [if_neg hc9] at h
            refine mm_iconst (v := 1) d11_mayLearn_75 (by decide +kernel) ?_
            refine mm_goto (tgt := 80) d11_mayLearn_76 (by decide) ?_
            refine mm_sub [] trivial ?_
            exact ok11_mayLearn_80 l hS   h
set_option maxHeartbeats 4000000 in
set_option maxRecDepth 100000 in
theorem ok11_mayLearn_24 (l : Launch) {S : mm_Sh} (hS : mm_WT S)  {v0 : Nat} {v1 : Int32} {v2 : Int32} (h0 : mm_is S v0 11) {I : mm_I} {J : mm_J} {o : Int32} (h : f11_mayLearn_24 S v0 v1 v2 I J = some o) : mm_W l M11_mayLearn (mm_rm (mm_rk M11_mayLearn)) 0 0 S (mm_end S (mm_Qi o I J)) 24 [(0, .ref v0), (1, .int v1), (2, .int v2)] [] I J := by
  unfold f11_mayLearn_24 at h
  refine mm_iconst (v := 1) d11_mayLearn_24 (by decide +kernel) ?_
  refine mm_goto (tgt := 29) d11_mayLearn_25 (by decide) ?_
  refine mm_sub [(0, .ref v0), (1, .int v1), (2, .int v2)] ⟨rfl, rfl, rfl, trivial⟩ ?_
  exact ok11_mayLearn_29 l hS  h0 h
set_option maxHeartbeats 4000000 in
set_option maxRecDepth 100000 in
theorem ok11_mayLearn (l : Launch) {S : mm_Sh} (hS : mm_WT S)  {v0 : Nat} {v1 : Int32} {v2 : Int32} (h0 : mm_is S v0 11) {I : mm_I} {J : mm_J} {o : Int32} (h : f11_mayLearn S v0 v1 v2 I J = some o) : mm_C l M11_mayLearn S [.ref v0, .int v1, .int v2] I J (mm_Qi o I J) := by
  unfold f11_mayLearn at h
  refine mm_enter rfl (by decide +kernel) rfl ?_
  refine mm_aload_n d11_mayLearn_0 rfl ?_
  refine mm_getR fl_X11_7 d11_mayLearn_1 (mm_wtR hS 50 h0 rfl rfl) ?_
  refine mm_iconst (v := 4) d11_mayLearn_4 (by decide +kernel) ?_
  refine mm_iload_n d11_mayLearn_5 rfl ?_
  refine mm_imul d11_mayLearn_6 ?_
  refine mm_iconst (v := 3) d11_mayLearn_7 (by decide +kernel) ?_
  refine mm_iadd d11_mayLearn_8 ?_
  obtain ⟨hb1, h⟩ := mm_gd h
  refine mm_iald d11_mayLearn_9 (mm_wtA hS 1 0 h0 rfl rfl) (mm_inb_ok hb1) ?_
  refine mm_istore_n d11_mayLearn_10 rfl rfl ?_
  refine mm_iload_n d11_mayLearn_11 rfl ?_
  refine mm_if_lt (tgt := 24) d11_mayLearn_12 (by decide) (fun hc2 => ?_) (fun hc2 => ?_)
  · rw [if_pos hc2] at h
    refine mm_sub [(0, .ref v0), (1, .int v1), (2, .int v2)] ⟨rfl, rfl, rfl, trivial⟩ ?_
    exact ok11_mayLearn_24 l hS  h0 h
  · rw [if_neg hc2] at h
    refine mm_aload_n d11_mayLearn_15 rfl ?_
    refine mm_iload_n d11_mayLearn_16 rfl ?_
    refine mm_iload_n d11_mayLearn_17 rfl ?_
    obtain ⟨o3, hk3, h⟩ := mm_bd h
    refine mm_cVi 11 (As := [.int v1, .int (I (mm_rf S v0 1) ((4 * v2) + 3).toNatClampNeg)]) (ok11_knows l hS h0 hk3) lk_X11_143 rfl d11_mayLearn_18 (mm_room rfl rfl) rfl h0 rfl rfl ?_
    refine mm_if_eq (tgt := 28) d11_mayLearn_21 (by decide) (fun hc4 => ?_) (fun hc4 => ?_)
    · rw [if_pos hc4] at h
      refine mm_iconst (v := 0) d11_mayLearn_28 (by decide +kernel) ?_
      refine mm_sub [(0, .ref v0), (1, .int v1), (2, .int v2)] ⟨rfl, rfl, rfl, trivial⟩ ?_
      exact ok11_mayLearn_29 l hS  h0 h
    · rw [if_neg hc4] at h
      refine mm_sub [(0, .ref v0), (1, .int v1), (2, .int v2)] ⟨rfl, rfl, rfl, trivial⟩ ?_
      exact ok11_mayLearn_24 l hS  h0 h
set_option maxHeartbeats 4000000 in
set_option maxRecDepth 100000 in
theorem ok11_readWord_92 (l : Launch) {S : mm_Sh} (hS : mm_WT S) {n : Nat}  {rec18 : Nat → mm_I → mm_J → Option (mm_I × mm_J)} (hrec18 : ∀ {v0 : Nat} (_ : mm_is S v0 11) {I : mm_I} {J : mm_J} {o : mm_I × mm_J}, rec18 v0 I J = some o → mm_W l M11_readWord (mm_rm (mm_rk M11_readWord)) 0 0 S (mm_end S (mm_Qv o.1 o.2)) 18 [(0, .ref v0)] [] I J) {v0 : Nat} {s0 : Nat} {s1 : Int64} (h0 : mm_is S v0 11) (g0 : mm_is S s0 11) {I : mm_I} {J : mm_J} {o : mm_I × mm_J} (h : f11_readWord_92 S n rec18 v0 s0 s1 I J = some o) : mm_W l M11_readWord (mm_rm (mm_rk M11_readWord)) 0 0 S (mm_end S (mm_Qv o.1 o.2)) 92 [(0, .ref v0)] [.long s1, .ref s0] I J := by
  unfold f11_readWord_92 at h
  refine mm_putJ fp_X11_169 d11_readWord_92 (mm_wtJ hS g0 rfl) ?_
  refine mm_aload_n d11_readWord_95 rfl ?_
  refine mm_dup d11_readWord_96 rfl ?_
  refine mm_getI fl_X11_173 d11_readWord_97 (mm_wtI hS h0 rfl) ?_
  refine mm_iconst (v := 1) d11_readWord_100 (by decide +kernel) ?_
  refine mm_iadd d11_readWord_101 ?_
  refine mm_putI fp_X11_173 d11_readWord_102 (mm_wtI hS h0 rfl) ?_
  refine mm_goto (tgt := 18) d11_readWord_105 (by decide) ?_
  refine mm_sub [(0, .ref v0)] ⟨rfl, trivial⟩ ?_
  exact hrec18 h0 h
set_option maxHeartbeats 4000000 in
set_option maxRecDepth 100000 in
theorem ok11_readWord_108 (l : Launch) {S : mm_Sh} (hS : mm_WT S) {n : Nat}    {I : mm_I} {J : mm_J} {o : mm_I × mm_J} (h : f11_readWord_108 S n  I J = some o) : mm_W l M11_readWord (mm_rm (mm_rk M11_readWord)) 0 0 S (mm_end S (mm_Qv o.1 o.2)) 108 [] [] I J := by
  unfold f11_readWord_108 at h
  have h := Option.some.inj h
  subst h
  exact mm_vret rfl d11_readWord_108 ⟨rfl, rfl, rfl⟩
set_option maxHeartbeats 4000000 in
set_option maxRecDepth 100000 in
theorem ok11_readWord_18_b (l : Launch) {S : mm_Sh} (hS : mm_WT S) {n : Nat}  {rec18 : Nat → mm_I → mm_J → Option (mm_I × mm_J)} (hrec18 : ∀ {v0 : Nat} (_ : mm_is S v0 11) {I : mm_I} {J : mm_J} {o : mm_I × mm_J}, rec18 v0 I J = some o → mm_W l M11_readWord (mm_rm (mm_rk M11_readWord)) 0 0 S (mm_end S (mm_Qv o.1 o.2)) 18 [(0, .ref v0)] [] I J) {v0 : Nat} (h0 : mm_is S v0 11) {I : mm_I} {J : mm_J} {o : mm_I × mm_J} (h : f11_readWord_18_b S n rec18 v0 I J = some o) : mm_W l M11_readWord (mm_rm (mm_rk M11_readWord)) 0 0 S (mm_end S (mm_Qv o.1 o.2)) 18 [(0, .ref v0)] [] I J := by
  unfold f11_readWord_18_b at h
  refine mm_aload_n d11_readWord_18 rfl ?_
  refine mm_getI fl_X11_173 d11_readWord_19 (mm_wtI hS h0 rfl) ?_
  refine mm_aload_n d11_readWord_22 rfl ?_
  refine mm_getI fl_X11_157 d11_readWord_23 (mm_wtI hS h0 rfl) ?_
  refine mm_icmp_ge (tgt := 108) d11_readWord_26 (by decide) (fun hc1 => ?_) (fun hc1 => ?_)
  · rw [if_pos hc1] at h
    refine mm_sub [] trivial ?_
    exact ok11_readWord_108 l hS   h
  · rw [if_neg hc1] at h
    refine mm_aload_n d11_readWord_29 rfl ?_
    refine mm_getR fl_X11_75 d11_readWord_30 (mm_wtR hS 50 h0 rfl rfl) ?_
    refine mm_aload_n d11_readWord_33 rfl ?_
    refine mm_getI fl_X11_173 d11_readWord_34 (mm_wtI hS h0 rfl) ?_
    obtain ⟨hb2, h⟩ := mm_gd h
    refine mm_iald d11_readWord_37 (mm_wtA hS 26 0 h0 rfl rfl) (mm_inb_ok hb2) ?_
    refine mm_i2l d11_readWord_38 ?_
    refine mm_ldc2 (v := 97) d11_readWord_39 kX11_176 ?_
    refine mm_ldc2 (v := 122) d11_readWord_42 kX11_178 ?_
    obtain ⟨o3, hk3, h⟩ := mm_bd h
    refine mm_cSi (As := [.long ((I (mm_rf S v0 26) (I v0 31).toNatClampNeg).toInt64), .long 97, .long 122]) (ok11_in l hS hk3) lk_X11_136 rfl d11_readWord_45 (mm_room rfl rfl) rfl rfl ?_
    refine mm_if_eq (tgt := 108) d11_readWord_48 (by decide) (fun hc4 => ?_) (fun hc4 => ?_)
    · rw [if_pos hc4] at h
      refine mm_sub [] trivial ?_
      exact ok11_readWord_108 l hS   h
    · rw [if_neg hc4] at h
      refine mm_aload_n d11_readWord_51 rfl ?_
      refine mm_aload_n d11_readWord_52 rfl ?_
      refine mm_getJ fl_X11_169 d11_readWord_53 (mm_wtJ hS h0 rfl) ?_
      refine mm_ldc2 (v := 100000000000000) d11_readWord_56 kX11_180 ?_
      refine mm_lcmp d11_readWord_59 ?_
      refine mm_if_le (tgt := 69) d11_readWord_60 (by decide) (fun hc5 => ?_) (fun hc5 => ?_)
      · rw [if_pos hc5] at h
        refine mm_ldc2 (v := 27) d11_readWord_69 kX11_184 ?_
        refine mm_aload_n d11_readWord_72 rfl ?_
        refine mm_getJ fl_X11_169 d11_readWord_73 (mm_wtJ hS h0 rfl) ?_
        refine mm_lmul d11_readWord_76 ?_
        refine mm_aload_n d11_readWord_77 rfl ?_
        refine mm_getR fl_X11_75 d11_readWord_78 (mm_wtR hS 50 h0 rfl rfl) ?_
        refine mm_aload_n d11_readWord_81 rfl ?_
        refine mm_getI fl_X11_173 d11_readWord_82 (mm_wtI hS h0 rfl) ?_
        obtain ⟨hb6, h⟩ := mm_gd h
        refine mm_iald d11_readWord_85 (mm_wtA hS 26 0 h0 rfl rfl) (mm_inb_ok hb6) ?_
        refine mm_i2l d11_readWord_86 ?_
        refine mm_ladd d11_readWord_87 ?_
        refine mm_ldc2 (v := 96) d11_readWord_88 kX11_186 ?_
        refine mm_lsub d11_readWord_91 ?_
        refine mm_sub [(0, .ref v0)] ⟨rfl, trivial⟩ ?_
        exact ok11_readWord_92 l hS hrec18 h0 h0 h
      · rw [if_neg hc5] at h
        refine mm_ldc2 (v := 200000000000000) d11_readWord_63 kX11_182 ?_
        refine mm_goto (tgt := 92) d11_readWord_66 (by decide) ?_
        refine mm_sub [(0, .ref v0)] ⟨rfl, trivial⟩ ?_
        exact ok11_readWord_92 l hS hrec18 h0 h0 h
set_option maxHeartbeats 4000000 in
set_option maxRecDepth 100000 in
theorem ok11_readWord_18 (l : Launch) {S : mm_Sh} (hS : mm_WT S) {n : Nat}  : ∀ (k : Nat) {v0 : Nat} (h0 : mm_is S v0 11) {I : mm_I} {J : mm_J} {o : mm_I × mm_J}, f11_readWord_18 S n k v0 I J = some o → mm_W l M11_readWord (mm_rm (mm_rk M11_readWord)) 0 0 S (mm_end S (mm_Qv o.1 o.2)) 18 [(0, .ref v0)] [] I J := by
  intro k
  induction k with
  | zero =>
    intros
    rename_i h
    cases h
  | succ k ih =>
    intro v0 h0 I J o h
    exact ok11_readWord_18_b l hS (fun {v0} h0 {I J o} h => ih h0 h) h0 h
set_option maxHeartbeats 4000000 in
set_option maxRecDepth 100000 in
theorem ok11_readWord (l : Launch) {S : mm_Sh} (hS : mm_WT S) {n : Nat}  {v0 : Nat} (h0 : mm_is S v0 11) {I : mm_I} {J : mm_J} {o : mm_I × mm_J} (h : f11_readWord S n v0 I J = some o) : mm_C l M11_readWord S [.ref v0] I J (mm_Qv o.1 o.2) := by
  unfold f11_readWord at h
  refine mm_enter rfl (by decide +kernel) rfl ?_
  refine mm_aload_n d11_readWord_0 rfl ?_
  obtain ⟨o1, hk1, h⟩ := mm_bd h
  refine mm_cVi 11 (As := []) (ok11_here l hS h0 hk1) lk_X11_166 rfl d11_readWord_1 (mm_room rfl rfl) rfl h0 rfl rfl ?_
  refine mm_istore_n d11_readWord_4 rfl rfl ?_
  refine mm_aload_n d11_readWord_5 rfl ?_
  refine mm_lconst (v := 0) d11_readWord_6 (by decide +kernel) ?_
  refine mm_putJ fp_X11_169 d11_readWord_7 (mm_wtJ hS h0 rfl) ?_
  refine mm_aload_n d11_readWord_10 rfl ?_
  refine mm_aload_n d11_readWord_11 rfl ?_
  refine mm_getI fl_X11_163 d11_readWord_12 (mm_wtI hS h0 rfl) ?_
  refine mm_putI fp_X11_173 d11_readWord_15 (mm_wtI hS h0 rfl) ?_
  refine mm_sub [(0, .ref v0)] ⟨rfl, trivial⟩ ?_
  exact ok11_readWord_18 l hS  n h0 h
set_option maxHeartbeats 4000000 in
set_option maxRecDepth 100000 in
theorem ok11_takeNumber_113 (l : Launch) {S : mm_Sh} (hS : mm_WT S) {n : Nat}  {rec42 : Nat → Int32 → Int32 → mm_I → mm_J → Option (Int32 × mm_I × mm_J)} (hrec42 : ∀ {v0 : Nat} {v1 : Int32} {v2 : Int32} (_ : mm_is S v0 11) {I : mm_I} {J : mm_J} {o : Int32 × mm_I × mm_J}, rec42 v0 v1 v2 I J = some o → mm_W l M11_takeNumber (mm_rm (mm_rk M11_takeNumber)) 0 0 S (mm_end S (mm_Qi o.1 o.2.1 o.2.2)) 42 [(0, .ref v0), (1, .int v1), (2, .int v2)] [] I J) {v0 : Nat} {v1 : Int32} {v2 : Int32} {s0 : Nat} {s1 : Int32} (h0 : mm_is S v0 11) (g0 : mm_is S s0 11) {I : mm_I} {J : mm_J} {o : Int32 × mm_I × mm_J} (h : f11_takeNumber_113 S n rec42 v0 v1 v2 s0 s1 I J = some o) : mm_W l M11_takeNumber (mm_rm (mm_rk M11_takeNumber)) 0 0 S (mm_end S (mm_Qi o.1 o.2.1 o.2.2)) 113 [(0, .ref v0), (1, .int v1), (2, .int v2)] [.int s1, .ref s0] I J := by
  unfold f11_takeNumber_113 at h
  refine mm_putI fp_X11_199 d11_takeNumber_113 (mm_wtI hS g0 rfl) ?_
  refine mm_aload_n d11_takeNumber_116 rfl ?_
  refine mm_dup d11_takeNumber_117 rfl ?_
  refine mm_getI fl_X11_163 d11_takeNumber_118 (mm_wtI hS h0 rfl) ?_
  refine mm_iconst (v := 1) d11_takeNumber_121 (by decide +kernel) ?_
  refine mm_iadd d11_takeNumber_122 ?_
  refine mm_putI fp_X11_163 d11_takeNumber_123 (mm_wtI hS h0 rfl) ?_
  refine mm_goto (tgt := 42) d11_takeNumber_126 (by decide) ?_
  refine mm_sub [(0, .ref v0), (1, .int v1), (2, .int v2)] ⟨rfl, rfl, rfl, trivial⟩ ?_
  exact hrec42 h0 h
set_option maxHeartbeats 4000000 in
set_option maxRecDepth 100000 in
theorem ok11_takeNumber_170 (l : Launch) {S : mm_Sh} (hS : mm_WT S) {n : Nat}  {s0 : Int32}  {I : mm_I} {J : mm_J} {o : Int32 × mm_I × mm_J} (h : f11_takeNumber_170 S n s0 I J = some o) : mm_W l M11_takeNumber (mm_rm (mm_rk M11_takeNumber)) 0 0 S (mm_end S (mm_Qi o.1 o.2.1 o.2.2)) 170 [] [.int s0] I J := by
  unfold f11_takeNumber_170 at h
  have h := Option.some.inj h
  subst h
  exact mm_iret rfl d11_takeNumber_170 ⟨rfl, rfl, rfl⟩
set_option maxHeartbeats 4000000 in
set_option maxRecDepth 100000 in
theorem ok11_takeNumber_157 (l : Launch) {S : mm_Sh} (hS : mm_WT S) {n : Nat}  {v0 : Nat} (h0 : mm_is S v0 11) {I : mm_I} {J : mm_J} {o : Int32 × mm_I × mm_J} (h : f11_takeNumber_157 S n v0 I J = some o) : mm_W l M11_takeNumber (mm_rm (mm_rk M11_takeNumber)) 0 0 S (mm_end S (mm_Qi o.1 o.2.1 o.2.2)) 157 [(0, .ref v0)] [] I J := by
  unfold f11_takeNumber_157 at h
  refine mm_aload_n d11_takeNumber_157 rfl ?_
  refine mm_iconst (v := 2) d11_takeNumber_158 (by decide +kernel) ?_
  refine mm_aload_n d11_takeNumber_159 rfl ?_
  refine mm_getI fl_X11_196 d11_takeNumber_160 (mm_wtI hS h0 rfl) ?_
  obtain ⟨o1, hk1, h⟩ := mm_bd h
  refine mm_cVi 11 (As := [.int 2, .int (I v0 33)]) (ok11_fails l hS h0 hk1) lk_X11_192 rfl d11_takeNumber_163 (mm_room rfl rfl) rfl h0 rfl rfl ?_
  refine mm_goto (tgt := 170) d11_takeNumber_166 (by decide) ?_
  refine mm_sub [] trivial ?_
  exact ok11_takeNumber_170 l hS   h
set_option maxHeartbeats 4000000 in
set_option maxRecDepth 100000 in
theorem ok11_takeNumber_129 (l : Launch) {S : mm_Sh} (hS : mm_WT S) {n : Nat}  {v0 : Nat} {v1 : Int32} {v2 : Int32} (h0 : mm_is S v0 11) {I : mm_I} {J : mm_J} {o : Int32 × mm_I × mm_J} (h : f11_takeNumber_129 S n v0 v1 v2 I J = some o) : mm_W l M11_takeNumber (mm_rm (mm_rk M11_takeNumber)) 0 0 S (mm_end S (mm_Qi o.1 o.2.1 o.2.2)) 129 [(0, .ref v0), (1, .int v1), (2, .int v2)] [] I J := by
  unfold f11_takeNumber_129 at h
  refine mm_aload_n d11_takeNumber_129 rfl ?_
  refine mm_getI fl_X11_163 d11_takeNumber_130 (mm_wtI hS h0 rfl) ?_
  refine mm_aload_n d11_takeNumber_133 rfl ?_
  refine mm_getI fl_X11_196 d11_takeNumber_134 (mm_wtI hS h0 rfl) ?_
  refine mm_isub d11_takeNumber_137 ?_
  refine mm_iconst (v := 3) d11_takeNumber_138 (by decide +kernel) ?_
  refine mm_icmp_gt (tgt := 157) d11_takeNumber_139 (by decide) (fun hc1 => ?_) (fun hc1 => ?_)
  · rw [if_pos hc1] at h
    refine mm_sub [(0, .ref v0)] ⟨rfl, trivial⟩ ?_
    exact ok11_takeNumber_157 l hS  h0 h
  · rw [if_neg hc1] at h
    refine mm_aload_n d11_takeNumber_142 rfl ?_
    refine mm_getI fl_X11_199 d11_takeNumber_143 (mm_wtI hS h0 rfl) ?_
    refine mm_i2l d11_takeNumber_146 ?_
    refine mm_iload_n d11_takeNumber_147 rfl ?_
    refine mm_i2l d11_takeNumber_148 ?_
    refine mm_iload_n d11_takeNumber_149 rfl ?_
    refine mm_i2l d11_takeNumber_150 ?_
    obtain ⟨o2, hk2, h⟩ := mm_bd h
    refine mm_cSi (As := [.long ((I v0 32).toInt64), .long v1.toInt64, .long v2.toInt64]) (ok11_in l hS hk2) lk_X11_136 rfl d11_takeNumber_151 (mm_room rfl rfl) rfl rfl ?_
    refine mm_if_ne (tgt := 169) d11_takeNumber_154 (by decide) (fun hc3 => ?_) (fun hc3 => ?_)
    · rw [if_neg hc3] at h
      refine mm_iconst (v := 0) d11_takeNumber_169 (by decide +kernel) ?_
      refine mm_sub [] trivial ?_
      exact ok11_takeNumber_170 l hS   h
    · rw [if_pos hc3] at h
      refine mm_sub [(0, .ref v0)] ⟨rfl, trivial⟩ ?_
      exact ok11_takeNumber_157 l hS  h0 h
set_option maxHeartbeats 4000000 in
set_option maxRecDepth 100000 in
theorem ok11_takeNumber_42_b (l : Launch) {S : mm_Sh} (hS : mm_WT S) {n : Nat}  {rec42 : Nat → Int32 → Int32 → mm_I → mm_J → Option (Int32 × mm_I × mm_J)} (hrec42 : ∀ {v0 : Nat} {v1 : Int32} {v2 : Int32} (_ : mm_is S v0 11) {I : mm_I} {J : mm_J} {o : Int32 × mm_I × mm_J}, rec42 v0 v1 v2 I J = some o → mm_W l M11_takeNumber (mm_rm (mm_rk M11_takeNumber)) 0 0 S (mm_end S (mm_Qi o.1 o.2.1 o.2.2)) 42 [(0, .ref v0), (1, .int v1), (2, .int v2)] [] I J) {v0 : Nat} {v1 : Int32} {v2 : Int32} (h0 : mm_is S v0 11) {I : mm_I} {J : mm_J} {o : Int32 × mm_I × mm_J} (h : f11_takeNumber_42_b S n rec42 v0 v1 v2 I J = some o) : mm_W l M11_takeNumber (mm_rm (mm_rk M11_takeNumber)) 0 0 S (mm_end S (mm_Qi o.1 o.2.1 o.2.2)) 42 [(0, .ref v0), (1, .int v1), (2, .int v2)] [] I J := by
  unfold f11_takeNumber_42_b at h
  refine mm_aload_n d11_takeNumber_42 rfl ?_
  refine mm_getI fl_X11_163 d11_takeNumber_43 (mm_wtI hS h0 rfl) ?_
  refine mm_aload_n d11_takeNumber_46 rfl ?_
  refine mm_getI fl_X11_157 d11_takeNumber_47 (mm_wtI hS h0 rfl) ?_
  refine mm_icmp_ge (tgt := 129) d11_takeNumber_50 (by decide) (fun hc1 => ?_) (fun hc1 => ?_)
  · rw [if_pos hc1] at h
    refine mm_sub [(0, .ref v0), (1, .int v1), (2, .int v2)] ⟨rfl, rfl, rfl, trivial⟩ ?_
    exact ok11_takeNumber_129 l hS  h0 h
  · rw [if_neg hc1] at h
    refine mm_aload_n d11_takeNumber_53 rfl ?_
    refine mm_getR fl_X11_75 d11_takeNumber_54 (mm_wtR hS 50 h0 rfl rfl) ?_
    refine mm_aload_n d11_takeNumber_57 rfl ?_
    refine mm_getI fl_X11_163 d11_takeNumber_58 (mm_wtI hS h0 rfl) ?_
    obtain ⟨hb2, h⟩ := mm_gd h
    refine mm_iald d11_takeNumber_61 (mm_wtA hS 26 0 h0 rfl rfl) (mm_inb_ok hb2) ?_
    refine mm_i2l d11_takeNumber_62 ?_
    refine mm_ldc2 (v := 48) d11_takeNumber_63 kX11_188 ?_
    refine mm_ldc2 (v := 57) d11_takeNumber_66 kX11_190 ?_
    obtain ⟨o3, hk3, h⟩ := mm_bd h
    refine mm_cSi (As := [.long ((I (mm_rf S v0 26) (I v0 29).toNatClampNeg).toInt64), .long 48, .long 57]) (ok11_in l hS hk3) lk_X11_136 rfl d11_takeNumber_69 (mm_room rfl rfl) rfl rfl ?_
    refine mm_if_eq (tgt := 129) d11_takeNumber_72 (by decide) (fun hc4 => ?_) (fun hc4 => ?_)
    · rw [if_pos hc4] at h
      refine mm_sub [(0, .ref v0), (1, .int v1), (2, .int v2)] ⟨rfl, rfl, rfl, trivial⟩ ?_
      exact ok11_takeNumber_129 l hS  h0 h
    · rw [if_neg hc4] at h
      refine mm_aload_n d11_takeNumber_75 rfl ?_
      refine mm_aload_n d11_takeNumber_76 rfl ?_
      refine mm_getI fl_X11_199 d11_takeNumber_77 (mm_wtI hS h0 rfl) ?_
      refine mm_sipush (v := 10000) d11_takeNumber_80 (by decide +kernel) ?_
      refine mm_icmp_le (tgt := 93) d11_takeNumber_83 (by decide) (fun hc5 => ?_) (fun hc5 => ?_)
      · rw [if_pos hc5] at h
        refine mm_bipush (v := 10) d11_takeNumber_93 (by decide +kernel) ?_
        refine mm_aload_n d11_takeNumber_95 rfl ?_
        refine mm_getI fl_X11_199 d11_takeNumber_96 (mm_wtI hS h0 rfl) ?_
        refine mm_imul d11_takeNumber_99 ?_
        refine mm_aload_n d11_takeNumber_100 rfl ?_
        refine mm_getR fl_X11_75 d11_takeNumber_101 (mm_wtR hS 50 h0 rfl rfl) ?_
        refine mm_aload_n d11_takeNumber_104 rfl ?_
        refine mm_getI fl_X11_163 d11_takeNumber_105 (mm_wtI hS h0 rfl) ?_
        obtain ⟨hb6, h⟩ := mm_gd h
        refine mm_iald d11_takeNumber_108 (mm_wtA hS 26 0 h0 rfl rfl) (mm_inb_ok hb6) ?_
        refine mm_iadd d11_takeNumber_109 ?_
        refine mm_bipush (v := 48) d11_takeNumber_110 (by decide +kernel) ?_
        refine mm_isub d11_takeNumber_112 ?_
        refine mm_sub [(0, .ref v0), (1, .int v1), (2, .int v2)] ⟨rfl, rfl, rfl, trivial⟩ ?_
        exact ok11_takeNumber_113 l hS hrec42 h0 h0 h
      · rw [if_neg hc5] at h
        refine mm_aload_n d11_takeNumber_86 rfl ?_
        refine mm_getI fl_X11_199 d11_takeNumber_87 (mm_wtI hS h0 rfl) ?_
        refine mm_goto (tgt := 113) d11_takeNumber_90 (by decide) ?_
        refine mm_sub [(0, .ref v0), (1, .int v1), (2, .int v2)] ⟨rfl, rfl, rfl, trivial⟩ ?_
        exact ok11_takeNumber_113 l hS hrec42 h0 h0 h
set_option maxHeartbeats 4000000 in
set_option maxRecDepth 100000 in
theorem ok11_takeNumber_42 (l : Launch) {S : mm_Sh} (hS : mm_WT S) {n : Nat}  : ∀ (k : Nat) {v0 : Nat} {v1 : Int32} {v2 : Int32} (h0 : mm_is S v0 11) {I : mm_I} {J : mm_J} {o : Int32 × mm_I × mm_J}, f11_takeNumber_42 S n k v0 v1 v2 I J = some o → mm_W l M11_takeNumber (mm_rm (mm_rk M11_takeNumber)) 0 0 S (mm_end S (mm_Qi o.1 o.2.1 o.2.2)) 42 [(0, .ref v0), (1, .int v1), (2, .int v2)] [] I J := by
  intro k
  induction k with
  | zero =>
    intros
    rename_i h
    cases h
  | succ k ih =>
    intro v0 v1 v2 h0 I J o h
    exact ok11_takeNumber_42_b l hS (fun {v0 v1 v2} h0 {I J o} h => ih h0 h) h0 h
set_option maxHeartbeats 4000000 in
set_option maxRecDepth 100000 in
theorem ok11_takeNumber (l : Launch) {S : mm_Sh} (hS : mm_WT S) {n : Nat}  {v0 : Nat} {v1 : Int32} {v2 : Int32} (h0 : mm_is S v0 11) {I : mm_I} {J : mm_J} {o : Int32 × mm_I × mm_J} (h : f11_takeNumber S n v0 v1 v2 I J = some o) : mm_C l M11_takeNumber S [.ref v0, .int v1, .int v2] I J (mm_Qi o.1 o.2.1 o.2.2) := by
  unfold f11_takeNumber at h
  refine mm_enter rfl (by decide +kernel) rfl ?_
  refine mm_aload_n d11_takeNumber_0 rfl ?_
  obtain ⟨o1, hk1, h⟩ := mm_bd h
  refine mm_cVi 11 (As := []) (ok11_here l hS h0 hk1) lk_X11_166 rfl d11_takeNumber_1 (mm_room rfl rfl) rfl h0 rfl rfl ?_
  refine mm_istore_n d11_takeNumber_4 rfl rfl ?_
  refine mm_iload_n d11_takeNumber_5 rfl ?_
  refine mm_i2l d11_takeNumber_6 ?_
  refine mm_ldc2 (v := 48) d11_takeNumber_7 kX11_188 ?_
  refine mm_ldc2 (v := 57) d11_takeNumber_10 kX11_190 ?_
  obtain ⟨o2, hk2, h⟩ := mm_bd h
  refine mm_cSi (As := [.long o1.1.toInt64, .long 48, .long 57]) (ok11_in l hS hk2) lk_X11_136 rfl d11_takeNumber_13 (mm_room rfl rfl) rfl rfl ?_
  refine mm_if_ne (tgt := 29) d11_takeNumber_16 (by decide) (fun hc3 => ?_) (fun hc3 => ?_)
  · rw [if_neg hc3] at h
    refine mm_aload_n d11_takeNumber_29 rfl ?_
    refine mm_aload_n d11_takeNumber_30 rfl ?_
    refine mm_getI fl_X11_163 d11_takeNumber_31 (mm_wtI hS h0 rfl) ?_
    refine mm_putI fp_X11_196 d11_takeNumber_34 (mm_wtI hS h0 rfl) ?_
    refine mm_aload_n d11_takeNumber_37 rfl ?_
    refine mm_iconst (v := 0) d11_takeNumber_38 (by decide +kernel) ?_
    refine mm_putI fp_X11_199 d11_takeNumber_39 (mm_wtI hS h0 rfl) ?_
    refine mm_sub [(0, .ref v0), (1, .int v1), (2, .int v2)] ⟨rfl, rfl, rfl, trivial⟩ ?_
    exact ok11_takeNumber_42 l hS  n h0 h
  · rw [if_pos hc3] at h
    refine mm_aload_n d11_takeNumber_19 rfl ?_
    refine mm_iconst (v := 1) d11_takeNumber_20 (by decide +kernel) ?_
    refine mm_aload_n d11_takeNumber_21 rfl ?_
    refine mm_getI fl_X11_163 d11_takeNumber_22 (mm_wtI hS h0 rfl) ?_
    obtain ⟨o4, hk4, h⟩ := mm_bd h
    refine mm_cVi 11 (As := [.int 1, .int (o1.2.1 v0 29)]) (ok11_fails l hS h0 hk4) lk_X11_192 rfl d11_takeNumber_25 (mm_room rfl rfl) rfl h0 rfl rfl ?_
    have h := Option.some.inj h
    subst h
    exact mm_iret rfl d11_takeNumber_28 ⟨rfl, rfl, rfl⟩
set_option maxHeartbeats 4000000 in
set_option maxRecDepth 100000 in
theorem ok11_takeStop (l : Launch) {S : mm_Sh} (hS : mm_WT S) {n : Nat}  {v0 : Nat} (h0 : mm_is S v0 11) {I : mm_I} {J : mm_J} {o : Int32 × mm_I × mm_J} (h : f11_takeStop S n v0 I J = some o) : mm_C l M11_takeStop S [.ref v0] I J (mm_Qi o.1 o.2.1 o.2.2) := by
  unfold f11_takeStop at h
  refine mm_enter rfl (by decide +kernel) rfl ?_
  refine mm_aload_n d11_takeStop_0 rfl ?_
  obtain ⟨o1, hk1, h⟩ := mm_bd h
  refine mm_cVi 11 (As := []) (ok11_here l hS h0 hk1) lk_X11_166 rfl d11_takeStop_1 (mm_room rfl rfl) rfl h0 rfl rfl ?_
  refine mm_bipush (v := 59) d11_takeStop_4 (by decide +kernel) ?_
  refine mm_icmp_eq (tgt := 19) d11_takeStop_6 (by decide) (fun hc2 => ?_) (fun hc2 => ?_)
  · rw [if_pos hc2] at h
    refine mm_aload_n d11_takeStop_19 rfl ?_
    refine mm_dup d11_takeStop_20 rfl ?_
    refine mm_getI fl_X11_163 d11_takeStop_21 (mm_wtI hS h0 rfl) ?_
    refine mm_iconst (v := 1) d11_takeStop_24 (by decide +kernel) ?_
    refine mm_iadd d11_takeStop_25 ?_
    refine mm_putI fp_X11_163 d11_takeStop_26 (mm_wtI hS h0 rfl) ?_
    refine mm_iconst (v := 0) d11_takeStop_29 (by decide +kernel) ?_
    have h := Option.some.inj h
    subst h
    exact mm_iret rfl d11_takeStop_30 ⟨rfl, rfl, rfl⟩
  · rw [if_neg hc2] at h
    refine mm_aload_n d11_takeStop_9 rfl ?_
    refine mm_iconst (v := 1) d11_takeStop_10 (by decide +kernel) ?_
    refine mm_aload_n d11_takeStop_11 rfl ?_
    refine mm_getI fl_X11_163 d11_takeStop_12 (mm_wtI hS h0 rfl) ?_
    obtain ⟨o3, hk3, h⟩ := mm_bd h
    refine mm_cVi 11 (As := [.int 1, .int (o1.2.1 v0 29)]) (ok11_fails l hS h0 hk3) lk_X11_192 rfl d11_takeStop_15 (mm_room rfl rfl) rfl h0 rfl rfl ?_
    have h := Option.some.inj h
    subst h
    exact mm_iret rfl d11_takeStop_18 ⟨rfl, rfl, rfl⟩
