/-! ===== part 24: the law from its entry: written by wip/whole/start.py ===== -/
theorem li_L_9 : mm_LI RL 9 M10_init 0 := ⟨Or.inl (mm_g1 21 (by decide +kernel) rfl), rfl, rfl, mm_g1 22 (by decide +kernel) rfl, mm_g1 1 (by decide +kernel) rfl, mc_10_init, ⟨by decide +kernel, by decide +kernel⟩, by decide +kernel⟩
theorem li_L_12 : mm_LI RL 12 M11_init 0 := ⟨Or.inl (mm_g5 148 (by decide +kernel) rfl), rfl, rfl, mm_g5 149 (by decide +kernel) rfl, mm_g1 13 (by decide +kernel) rfl, mc_11_init, ⟨by decide +kernel, by decide +kernel⟩, by decide +kernel⟩
theorem nc_L_7 : mm_NC RL 7 10 RX10 20 := ⟨TX10, mmcl_X10, mm_g1 19 (by decide +kernel) rfl, mm_g1 20 (by decide +kernel) rfl, mm_g1 1 (by decide +kernel) rfl, tyX10, tyX10_ok, by decide +kernel⟩
theorem nc_L_10 : mm_NC RL 10 11 RX11 57 := ⟨TX11, mmcl_X11, mm_g5 146 (by decide +kernel) rfl, mm_g5 147 (by decide +kernel) rfl, mm_g1 13 (by decide +kernel) rfl, tyX11, tyX11_ok, by decide +kernel⟩
theorem ls_cs : Cond.laysStatic "java/lang/String" "COMPACT_STRINGS" "Z" ∈ lw_tbl := mm_m3 (List.mem_of_getElem? (i := 66) (by decide +kernel))
theorem ls_fm : Cond.laysStatic "jdk/internal/util/Preconditions" "SIOOBE_FORMATTER" "Ljava/util/function/BiFunction;" ∈ lw_tbl := mm_m3 (List.mem_of_getElem? (i := 82) (by decide +kernel))
theorem in_st : Cond.initialized "java/lang/String" ∈ lw_tbl := mm_m1 (List.mem_of_getElem? (i := 14) (by decide +kernel))
theorem in_pc : Cond.initialized "jdk/internal/util/Preconditions" ∈ lw_tbl := mm_m1 (List.mem_of_getElem? (i := 16) (by decide +kernel))
def lw_sr (i : Nat) : String × Nat × String × Nat := mm_sR.getD i ("", 0, "", 0)
def lw_tm (i : Nat) : Term := .string (lw_sr i).1 (lw_sr i).2.1
abbrev lw_fl : List Cond := flatC (Jvm.Cond.and given_1 narrow_1)
theorem lw_sr_ok : ∀ q ∈ mm_sR, q.2.2.2 < 14 ∧ lw_sr q.2.2.2 = q := by decide +kernel
theorem sr_0 : Cond.stringRef (lw_sr 0).1 (lw_sr 0).2.1 (lw_sr 0).2.2.1 ∈ lw_tbl := mm_m3 (List.mem_of_getElem? (i := 52) (by decide +kernel))
theorem sr_1 : Cond.stringRef (lw_sr 1).1 (lw_sr 1).2.1 (lw_sr 1).2.2.1 ∈ lw_tbl := mm_m3 (List.mem_of_getElem? (i := 122) (by decide +kernel))
theorem sr_2 : Cond.stringRef (lw_sr 2).1 (lw_sr 2).2.1 (lw_sr 2).2.2.1 ∈ lw_tbl := mm_m3 (List.mem_of_getElem? (i := 123) (by decide +kernel))
theorem sr_3 : Cond.stringRef (lw_sr 3).1 (lw_sr 3).2.1 (lw_sr 3).2.2.1 ∈ lw_tbl := mm_m3 (List.mem_of_getElem? (i := 124) (by decide +kernel))
theorem sr_4 : Cond.stringRef (lw_sr 4).1 (lw_sr 4).2.1 (lw_sr 4).2.2.1 ∈ lw_tbl := mm_m3 (List.mem_of_getElem? (i := 125) (by decide +kernel))
theorem sr_5 : Cond.stringRef (lw_sr 5).1 (lw_sr 5).2.1 (lw_sr 5).2.2.1 ∈ lw_tbl := mm_m3 (List.mem_of_getElem? (i := 138) (by decide +kernel))
theorem sr_6 : Cond.stringRef (lw_sr 6).1 (lw_sr 6).2.1 (lw_sr 6).2.2.1 ∈ lw_tbl := mm_m3 (List.mem_of_getElem? (i := 139) (by decide +kernel))
theorem sr_7 : Cond.stringRef (lw_sr 7).1 (lw_sr 7).2.1 (lw_sr 7).2.2.1 ∈ lw_tbl := mm_m3 (List.mem_of_getElem? (i := 165) (by decide +kernel))
theorem sr_8 : Cond.stringRef (lw_sr 8).1 (lw_sr 8).2.1 (lw_sr 8).2.2.1 ∈ lw_tbl := mm_m3 (List.mem_of_getElem? (i := 218) (by decide +kernel))
theorem sr_9 : Cond.stringRef (lw_sr 9).1 (lw_sr 9).2.1 (lw_sr 9).2.2.1 ∈ lw_tbl := mm_m3 (List.mem_of_getElem? (i := 227) (by decide +kernel))
theorem sr_10 : Cond.stringRef (lw_sr 10).1 (lw_sr 10).2.1 (lw_sr 10).2.2.1 ∈ lw_tbl := mm_m3 (List.mem_of_getElem? (i := 228) (by decide +kernel))
theorem sr_11 : Cond.stringRef (lw_sr 11).1 (lw_sr 11).2.1 (lw_sr 11).2.2.1 ∈ lw_tbl := mm_m3 (List.mem_of_getElem? (i := 229) (by decide +kernel))
theorem sr_12 : Cond.stringRef (lw_sr 12).1 (lw_sr 12).2.1 (lw_sr 12).2.2.1 ∈ lw_tbl := mm_m3 (List.mem_of_getElem? (i := 230) (by decide +kernel))
theorem sr_13 : Cond.stringRef (lw_sr 13).1 (lw_sr 13).2.1 (lw_sr 13).2.2.1 ∈ lw_tbl := mm_m3 (List.mem_of_getElem? (i := 231) (by decide +kernel))
theorem sr_all (i : Nat) (hi : i < 14) : Cond.stringRef (lw_sr i).1 (lw_sr i).2.1 (lw_sr i).2.2.1 ∈ lw_tbl := by
  have h : i = 0 ∨ i = 1 ∨ i = 2 ∨ i = 3 ∨ i = 4 ∨ i = 5 ∨ i = 6 ∨ i = 7 ∨ i = 8 ∨ i = 9 ∨ i = 10 ∨ i = 11 ∨ i = 12 ∨ i = 13 := by omega
  rcases h with rfl | rfl | rfl | rfl | rfl | rfl | rfl | rfl | rfl | rfl | rfl | rfl | rfl | rfl
  · exact sr_0
  · exact sr_1
  · exact sr_2
  · exact sr_3
  · exact sr_4
  · exact sr_5
  · exact sr_6
  · exact sr_7
  · exact sr_8
  · exact sr_9
  · exact sr_10
  · exact sr_11
  · exact sr_12
  · exact sr_13
set_option maxRecDepth 100000 in
theorem lw_fex : ∀ i, i < 14 → Cond.exactly (lw_tm i) "java/lang/String" ∈ lw_fl := by decide +kernel
set_option maxRecDepth 100000 in
theorem lw_fco : ∀ i, i < 14 → Cond.eq (.field (lw_tm i) "java/lang/String" "coder" "B") (.int 0) ∈ lw_fl := by decide +kernel
set_option maxRecDepth 100000 in
theorem lw_far : ∀ i, i < 14 → Cond.arrayOf (.field (lw_tm i) "java/lang/String" "value" "[B") .byte ∈ lw_fl := by decide +kernel
set_option maxRecDepth 100000 in
theorem lw_fle : ∀ i, i < 14 → Cond.eq (.length (.field (lw_tm i) "java/lang/String" "value" "[B")) (.int (Int32.ofNat (mm_sL.getD i 0))) ∈ lw_fl := by decide +kernel
set_option maxRecDepth 100000 in
theorem lw_fel : ∀ i, i < 14 → ∀ j, j < mm_sL.getD i 0 → Cond.eq (.elem (.field (lw_tm i) "java/lang/String" "value" "[B") (.int (Int32.ofNat j))) (.int ((mm_sB.getD i []).getD j 0)) ∈ lw_fl := by decide +kernel
def lw_nt : Nat → List (Nat × Nat)
  | 0 => [(1, 27), (2, 36), (3, 46), (4, 62), (5, 75), (6, 90), (7, 105), (8, 121), (9, 142), (10, 160), (11, 179), (12, 198), (13, 218)]
  | 1 => [(2, 37), (3, 47), (4, 63), (5, 76), (6, 91), (7, 106), (8, 122), (9, 143), (10, 161), (11, 180), (12, 199), (13, 219)]
  | 2 => [(3, 48), (4, 64), (5, 77), (6, 92), (7, 107), (8, 123), (9, 144), (10, 162), (11, 181), (12, 200), (13, 220)]
  | 3 => [(4, 65), (5, 78), (6, 93), (7, 108), (8, 124), (9, 145), (10, 163), (11, 182), (12, 201), (13, 221)]
  | 4 => [(5, 79), (6, 94), (7, 109), (8, 125), (9, 146), (10, 164), (11, 183), (12, 202), (13, 222)]
  | 5 => [(6, 95), (7, 110), (8, 126), (9, 147), (10, 165), (11, 184), (12, 203), (13, 223)]
  | 6 => [(7, 111), (8, 127), (9, 148), (10, 166), (11, 185), (12, 204), (13, 224)]
  | 7 => [(8, 128), (9, 149), (10, 167), (11, 186), (12, 205), (13, 225)]
  | 8 => [(9, 150), (10, 168), (11, 187), (12, 206), (13, 226)]
  | 9 => [(10, 169), (11, 188), (12, 207), (13, 227)]
  | 10 => [(11, 189), (12, 208), (13, 228)]
  | 11 => [(12, 209), (13, 229)]
  | 12 => [(13, 230)]
  | _ => []
set_option maxRecDepth 100000 in
theorem lw_nt_0 : ∀ q ∈ lw_nt 0, lw_fl[q.2]? = some (Cond.not (Cond.eq (lw_tm 0) (lw_tm q.1))) := by decide +kernel
set_option maxRecDepth 100000 in
theorem lw_nt_1 : ∀ q ∈ lw_nt 1, lw_fl[q.2]? = some (Cond.not (Cond.eq (lw_tm 1) (lw_tm q.1))) := by decide +kernel
set_option maxRecDepth 100000 in
theorem lw_nt_2 : ∀ q ∈ lw_nt 2, lw_fl[q.2]? = some (Cond.not (Cond.eq (lw_tm 2) (lw_tm q.1))) := by decide +kernel
set_option maxRecDepth 100000 in
theorem lw_nt_3 : ∀ q ∈ lw_nt 3, lw_fl[q.2]? = some (Cond.not (Cond.eq (lw_tm 3) (lw_tm q.1))) := by decide +kernel
set_option maxRecDepth 100000 in
theorem lw_nt_4 : ∀ q ∈ lw_nt 4, lw_fl[q.2]? = some (Cond.not (Cond.eq (lw_tm 4) (lw_tm q.1))) := by decide +kernel
set_option maxRecDepth 100000 in
theorem lw_nt_5 : ∀ q ∈ lw_nt 5, lw_fl[q.2]? = some (Cond.not (Cond.eq (lw_tm 5) (lw_tm q.1))) := by decide +kernel
set_option maxRecDepth 100000 in
theorem lw_nt_6 : ∀ q ∈ lw_nt 6, lw_fl[q.2]? = some (Cond.not (Cond.eq (lw_tm 6) (lw_tm q.1))) := by decide +kernel
set_option maxRecDepth 100000 in
theorem lw_nt_7 : ∀ q ∈ lw_nt 7, lw_fl[q.2]? = some (Cond.not (Cond.eq (lw_tm 7) (lw_tm q.1))) := by decide +kernel
set_option maxRecDepth 100000 in
theorem lw_nt_8 : ∀ q ∈ lw_nt 8, lw_fl[q.2]? = some (Cond.not (Cond.eq (lw_tm 8) (lw_tm q.1))) := by decide +kernel
set_option maxRecDepth 100000 in
theorem lw_nt_9 : ∀ q ∈ lw_nt 9, lw_fl[q.2]? = some (Cond.not (Cond.eq (lw_tm 9) (lw_tm q.1))) := by decide +kernel
set_option maxRecDepth 100000 in
theorem lw_nt_10 : ∀ q ∈ lw_nt 10, lw_fl[q.2]? = some (Cond.not (Cond.eq (lw_tm 10) (lw_tm q.1))) := by decide +kernel
set_option maxRecDepth 100000 in
theorem lw_nt_11 : ∀ q ∈ lw_nt 11, lw_fl[q.2]? = some (Cond.not (Cond.eq (lw_tm 11) (lw_tm q.1))) := by decide +kernel
set_option maxRecDepth 100000 in
theorem lw_nt_12 : ∀ q ∈ lw_nt 12, lw_fl[q.2]? = some (Cond.not (Cond.eq (lw_tm 12) (lw_tm q.1))) := by decide +kernel
theorem lw_nt_all (i : Nat) : ∀ q ∈ lw_nt i, lw_fl[q.2]? = some (Cond.not (Cond.eq (lw_tm i) (lw_tm q.1))) := by
  by_cases hi : i < 14
  · have h : i = 0 ∨ i = 1 ∨ i = 2 ∨ i = 3 ∨ i = 4 ∨ i = 5 ∨ i = 6 ∨ i = 7 ∨ i = 8 ∨ i = 9 ∨ i = 10 ∨ i = 11 ∨ i = 12 ∨ i = 13 := by omega
    rcases h with rfl | rfl | rfl | rfl | rfl | rfl | rfl | rfl | rfl | rfl | rfl | rfl | rfl | rfl
    · exact lw_nt_0
    · exact lw_nt_1
    · exact lw_nt_2
    · exact lw_nt_3
    · exact lw_nt_4
    · exact lw_nt_5
    · exact lw_nt_6
    · exact lw_nt_7
    · exact lw_nt_8
    · exact lw_nt_9
    · exact lw_nt_10
    · exact lw_nt_11
    · exact lw_nt_12
    · intro q hq; cases hq
  · intro q hq
    have : lw_nt i = [] := by
      unfold lw_nt
      split <;> first | omega | rfl
    rw [this] at hq
    cases hq
theorem lw_nt_has : ∀ i, i < 14 → ∀ j, j < 14 → i ≠ j → ((lw_nt i).any (fun q => Nat.beq q.1 j) = true ∨ (lw_nt j).any (fun q => Nat.beq q.1 i) = true) := by decide +kernel
theorem lw_fne : ∀ i, i < 14 → ∀ j, j < 14 → i ≠ j → Cond.not (Cond.eq (lw_tm i) (lw_tm j)) ∈ lw_fl ∨ Cond.not (Cond.eq (lw_tm j) (lw_tm i)) ∈ lw_fl := by
  intro i hi j hj hij
  refine (lw_nt_has i hi j hj hij).imp (fun h => ?_) (fun h => ?_)
  · obtain ⟨q, h1, h2⟩ := List.any_eq_true.mp h
    have h3 := lw_nt_all i q h1
    rw [Nat.eq_of_beq_eq_true h2] at h3
    exact List.mem_of_getElem? h3
  · obtain ⟨q, h1, h2⟩ := List.any_eq_true.mp h
    have h3 := lw_nt_all j q h1
    rw [Nat.eq_of_beq_eq_true h2] at h3
    exact List.mem_of_getElem? h3
theorem lw_sLs : ∀ i, i < 14 → mm_sL.getD i 0 < 2 ^ 31 := by decide +kernel
theorem lw_fcs : Cond.eq (.static "java/lang/String" "COMPACT_STRINGS" "Z") (.int 1) ∈ lw_fl := by decide +kernel
theorem lw_ffm : Cond.isRef (.static "jdk/internal/util/Preconditions" "SIOOBE_FORMATTER" "Ljava/util/function/BiFunction;") ∈ lw_fl := by decide +kernel
theorem lw_T {s : State} {b : Addr} (hts : ∀ w ∈ lw_tbl, w.before #[Value.ref b] s = true) (hgv : (Jvm.Cond.and given_1 narrow_1).before #[Value.ref b] s = true) : ∃ ad : Nat → Nat, mm_T ad (fun q => s.heap.size ≤ q) s s.heap ∧ ad 4000000 = b := by
  have hg := flat_of_before _ hgv
  have hA : ∀ a : Nat, a < s.heap.size → ¬ s.heap.size ≤ a := fun a h => by omega
  obtain ⟨adK, adV, hS, hE⟩ := vk_Sof (args := #[Value.ref b]) (s := s) (N := 14) (tm := lw_tm) (len := mm_sL) (byt := mm_sB) (A := fun q => s.heap.size ≤ q) lw_sLs (fun i hi => hg _ (lw_fex i hi)) (fun i hi => hg _ (lw_fco i hi)) (fun i hi => hg _ (lw_far i hi)) (fun i hi => hg _ (lw_fle i hi)) (fun i hi j hj => hg _ (lw_fel i hi j hj)) (fun i j hi hj hij => (lw_fne i hi j hj hij).imp (fun h => hg _ h) (fun h => hg _ h)) hA
  have hZ := va_Zof (A := fun q => s.heap.size ≤ q) (hts _ ls_cs) (hts _ in_st) (va_eqi (hg _ lw_fcs)) hA
  have hF := va_Zqof (A := fun q => s.heap.size ≤ q) (hts _ ls_fm) (hts _ in_pc) (hg _ lw_ffm) hA
  obtain ⟨t, hF⟩ : ∃ t : Nat, va_Z "jdk/internal/util/Preconditions" "SIOOBE_FORMATTER" "Ljava/util/function/BiFunction;" .null (fun q => s.heap.size ≤ q) s s.heap ∨ va_Z "jdk/internal/util/Preconditions" "SIOOBE_FORMATTER" "Ljava/util/function/BiFunction;" (.ref t) (fun q => s.heap.size ≤ q) s s.heap := by
    rcases hF with h | ⟨t, h⟩
    · exact ⟨0, Or.inl h⟩
    · exact ⟨t, Or.inr h⟩
  refine ⟨fun r => if r < 2000000 then adK (r - 1000000) else if r < 3000000 then adV (r - 2000000) else if r = 3000000 then t else b, ?_, by simp⟩
  refine ⟨⟨fun i hi => ?_, fun i j hi hj e => ?_⟩, fun q hq => ?_, hZ, ?_⟩
  · have e1 : (if 1000000 + i < 2000000 then adK (1000000 + i - 1000000) else if 1000000 + i < 3000000 then adV (1000000 + i - 2000000) else if 1000000 + i = 3000000 then t else b) = adK i := by
      rw [if_pos (by omega), Nat.add_sub_cancel_left]
    have e2 : (if 2000000 + i < 2000000 then adK (2000000 + i - 1000000) else if 2000000 + i < 3000000 then adV (2000000 + i - 2000000) else if 2000000 + i = 3000000 then t else b) = adV i := by
      rw [if_neg (by omega), if_pos (by omega), Nat.add_sub_cancel_left]
    simp only [e1, e2]
    exact hS.1 i hi
  · have e1 : ∀ k, k < 14 → (if 1000000 + k < 2000000 then adK (1000000 + k - 1000000) else if 1000000 + k < 3000000 then adV (1000000 + k - 2000000) else if 1000000 + k = 3000000 then t else b) = adK k := by
      intro k hk
      rw [if_pos (by omega), Nat.add_sub_cancel_left]
    simp only [e1 i hi, e1 j hj] at e
    exact hS.2 i j hi hj e
  · obtain ⟨h1, h2⟩ := lw_sr_ok q hq
    have e1 : (if 1000000 + q.2.2.2 < 2000000 then adK (1000000 + q.2.2.2 - 1000000) else if 1000000 + q.2.2.2 < 3000000 then adV (1000000 + q.2.2.2 - 2000000) else if 1000000 + q.2.2.2 = 3000000 then t else b) = adK q.2.2.2 := by
      rw [if_pos (by omega), Nat.add_sub_cancel_left]
    simp only [e1]
    have h3 := hE _ h1
    have h4 := hts _ (sr_all _ h1)
    unfold lw_tm at h3
    rw [h2] at h3 h4
    exact vk_R.of h4 (by
      have := h3
      exact this.symm ▸ rfl)
  · have e3 : (if 3000000 < 2000000 then adK (3000000 - 1000000) else if 3000000 < 3000000 then adV (3000000 - 2000000) else if 3000000 = 3000000 then t else b) = t := by
      rw [if_neg (by omega), if_neg (by omega), if_pos rfl]
    simp only [e3]
    exact hF
theorem is_X0 : Cond.instantiable RX0 7 ∈ mm_GW := mm_g1 77 (by decide +kernel) rfl
theorem is_X1 : Cond.instantiable RX1 13 ∈ mm_GW := mm_g1 175 (by decide +kernel) rfl
theorem is_X2 : Cond.instantiable RX2 3 ∈ mm_GW := mm_g2 96 (by decide +kernel) rfl
theorem is_X3 : Cond.instantiable RX3 8 ∈ mm_GW := mm_g2 114 (by decide +kernel) rfl
theorem is_X4 : Cond.instantiable RX4 7 ∈ mm_GW := mm_g1 28 (by decide +kernel) rfl
theorem is_X5 : Cond.instantiable RX5 7 ∈ mm_GW := mm_g2 148 (by decide +kernel) rfl
theorem is_X6 : Cond.instantiable RX6 1 ∈ mm_GW := mm_g1 34 (by decide +kernel) rfl
theorem is_X7 : Cond.instantiable RX7 7 ∈ mm_GW := mm_g1 131 (by decide +kernel) rfl
theorem is_X8 : Cond.instantiable RX8 11 ∈ mm_GW := mm_g2 27 (by decide +kernel) rfl
theorem is_X9 : Cond.instantiable RX9 5 ∈ mm_GW := mm_g2 74 (by decide +kernel) rfl
theorem is_X10 : Cond.instantiable RX10 20 ∈ mm_GW := mm_g1 20 (by decide +kernel) rfl
theorem is_X11 : Cond.instantiable RX11 57 ∈ mm_GW := mm_g5 147 (by decide +kernel) rfl
theorem lw_ac (t : FieldType) (h : Cond.arrayClass t ∈ mm_GW) {args : Array Value} {s : State} (hts : ∀ w ∈ mm_GW, w.before args s = true) (hno : ∀ C, t ≠ .object C) : ∃ c : ClassId, ArrOfT s c t ∧ va_RA s c t := by
  obtain ⟨c, k, comp, h1, h2, h3⟩ := Cond.arrayClass_spec (args := args) (first := s) (o := none) (s := s) (idx := []) (hts _ h)
  refine ⟨c, fun n z => ⟨fun k h => (by cases h), k, h2, comp, h3⟩, ?_⟩
  cases t <;> first | exact absurd rfl (hno _) | exact h1
theorem lw_K {args : Array Value} {s : State} (hts : ∀ w ∈ mm_GW, w.before args s = true) : ∃ (D : va_G) (cA : Nat → ClassId), va_K D vwCl (mm_ty cA) s := by
  have h : ∀ c : Nat, ∃ q : ClassId × (Nat → Nat), ∀ r : vw_C, vwCl[c]? = some r → u_Kn s r.1 r.2.1 r.2.2 q.1 q.2 := by
    intro c
    by_cases hc : c < 12
    · have h12 : c = 0 ∨ c = 1 ∨ c = 2 ∨ c = 3 ∨ c = 4 ∨ c = 5 ∨ c = 6 ∨ c = 7 ∨ c = 8 ∨ c = 9 ∨ c = 10 ∨ c = 11 := by omega
      rcases h12 with rfl | rfl | rfl | rfl | rfl | rfl | rfl | rfl | rfl | rfl | rfl | rfl
      · obtain ⟨cC, iS, h⟩ := u_known (C := RX0) (T := TX0) (N := 7) hts mmu_X0 (hts _ is_X0)
        exact ⟨(cC, iS), fun r hr => by cases hr; exact h⟩
      · obtain ⟨cC, iS, h⟩ := u_known (C := RX1) (T := TX1) (N := 13) hts mmu_X1 (hts _ is_X1)
        exact ⟨(cC, iS), fun r hr => by cases hr; exact h⟩
      · obtain ⟨cC, iS, h⟩ := u_known (C := RX2) (T := TX2) (N := 3) hts mmu_X2 (hts _ is_X2)
        exact ⟨(cC, iS), fun r hr => by cases hr; exact h⟩
      · obtain ⟨cC, iS, h⟩ := u_known (C := RX3) (T := TX3) (N := 8) hts mmu_X3 (hts _ is_X3)
        exact ⟨(cC, iS), fun r hr => by cases hr; exact h⟩
      · obtain ⟨cC, iS, h⟩ := u_known (C := RX4) (T := TX4) (N := 7) hts mmu_X4 (hts _ is_X4)
        exact ⟨(cC, iS), fun r hr => by cases hr; exact h⟩
      · obtain ⟨cC, iS, h⟩ := u_known (C := RX5) (T := TX5) (N := 7) hts mmu_X5 (hts _ is_X5)
        exact ⟨(cC, iS), fun r hr => by cases hr; exact h⟩
      · obtain ⟨cC, iS, h⟩ := u_known (C := RX6) (T := TX6) (N := 1) hts mmu_X6 (hts _ is_X6)
        exact ⟨(cC, iS), fun r hr => by cases hr; exact h⟩
      · obtain ⟨cC, iS, h⟩ := u_known (C := RX7) (T := TX7) (N := 7) hts mmu_X7 (hts _ is_X7)
        exact ⟨(cC, iS), fun r hr => by cases hr; exact h⟩
      · obtain ⟨cC, iS, h⟩ := u_known (C := RX8) (T := TX8) (N := 11) hts mmu_X8 (hts _ is_X8)
        exact ⟨(cC, iS), fun r hr => by cases hr; exact h⟩
      · obtain ⟨cC, iS, h⟩ := u_known (C := RX9) (T := TX9) (N := 5) hts mmu_X9 (hts _ is_X9)
        exact ⟨(cC, iS), fun r hr => by cases hr; exact h⟩
      · obtain ⟨cC, iS, h⟩ := u_known (C := RX10) (T := TX10) (N := 20) hts mmu_X10 (hts _ is_X10)
        exact ⟨(cC, iS), fun r hr => by cases hr; exact h⟩
      · obtain ⟨cC, iS, h⟩ := u_known (C := RX11) (T := TX11) (N := 57) hts mmu_X11 (hts _ is_X11)
        exact ⟨(cC, iS), fun r hr => by cases hr; exact h⟩
    · refine ⟨(0, fun _ => 0), fun r hr => ?_⟩
      have h1 : c < 12 := (List.getElem?_eq_some_iff.mp hr).1
      exact absurd h1 hc
  obtain ⟨f, hf⟩ := Classical.axiomOfChoice h
  obtain ⟨c0, a1, a2⟩ := lw_ac .int ac_int hts (fun _ h => by cases h)
  obtain ⟨c1, b1, b2⟩ := lw_ac .boolean ac_boolean hts (fun _ h => by cases h)
  refine ⟨(fun c => (f c).1, fun c => (f c).2), fun k => if k = 0 then c0 else c1, fun c r hr => hf c r hr, fun k q hk => ?_⟩
  have hk2 : k = 0 ∨ k = 1 := by
    have h1 : k < 2 := (List.getElem?_eq_some_iff.mp hk).1
    omega
  rcases hk2 with rfl | rfl
  · cases hk
    exact ⟨a1, a2⟩
  · cases hk
    exact ⟨b1, b2⟩
theorem mv_S {l : Launch} {M : mm_M} {R : Room} {cs ss : Nat} {S S' : mm_Sh} {E : mm_VE} {pc : Nat} {lv : List (Nat × Value)} {stk : List Value} {I I' : mm_I} {J J' : mm_J} (h : S = S') (hI : I = I') (hJ : J = J') (k : mm_V l M R S' E pc lv stk I' J' cs ss) : mm_V l M R S E pc lv stk I J cs ss := by
  subst h; subst hI; subst hJ; exact k
set_option maxHeartbeats 4000000 in
set_option maxRecDepth 100000 in
theorem lw_start (l : Launch) {Inv : Nat → mm_I → mm_J → Prop} (h0 : Inv 0 IZ JZ) (hmono : ∀ (k : Nat) (I' : mm_I) (J' : mm_J), Inv k I' J' → Inv (k + 1) I' J') (hs : St_all Inv) {L : Nat} (hL : L ≤ 2560) {xs : Nat → Int32} : mm_V l ML room_1 SS_0 (lwE L xs) 0 [(0, .ref 4000000)] [] II_0 JJ_0 0 0 := by
  refine mv_new2 (n0 := 0) 0 (lw_mono (by decide)) (by decide +kernel) rfl rfl (by decide +kernel) nc_L_7 iz_0 jz_0 dL_0 (Nat.le_of_ble_eq_true rfl) (Nat.le_of_ble_eq_true rfl) rfl rfl (S' := SS_1) (by decide +kernel) ?_
  refine mv_dup dL_3 rfl ?_
  refine mv_callK (n0 := 0) (lw_mono (by decide)) (by decide +kernel) (kc_19 l) li_L_9 rfl dL_4 ⟨Nat.le_of_ble_eq_true rfl, Nat.le_of_ble_eq_true rfl, Nat.le_of_ble_eq_true rfl, Nat.le_of_ble_eq_true rfl⟩ (As := []) rfl rfl (by decide +kernel) (by decide +kernel) ?_
  refine mv_astore_n dL_7 rfl rfl ?_
  refine mv_new2 (n0 := 0) 167 (lw_mono (by decide)) (by decide +kernel) rfl rfl (by decide +kernel) nc_L_10 (iz_18.mono (n2 := 167) rfl) (jz_15.mono (n2 := 167) rfl) dL_8 (Nat.le_of_ble_eq_true rfl) (Nat.le_of_ble_eq_true rfl) rfl rfl (S' := SS_273) (by decide +kernel) ?_
  refine mv_dup dL_11 rfl ?_
  refine mv_callK (n0 := 0) (lw_mono (by decide)) (by decide +kernel) (kc_20 l) li_L_12 rfl dL_12 ⟨Nat.le_of_ble_eq_true rfl, Nat.le_of_ble_eq_true rfl, Nat.le_of_ble_eq_true rfl, Nat.le_of_ble_eq_true rfl⟩ (As := []) rfl rfl (by decide +kernel) (by decide +kernel) ?_
  refine mv_astore_n dL_15 rfl rfl ?_
  refine mv_iconst (v := nI 0) dL_16 (by decide +kernel) ?_
  refine mv_istore_n dL_17 rfl rfl ?_
  refine mv_sub [(0, .ref 4000000), (1, .ref 0), (2, .ref 167), (3, .int (nI 0))] ⟨rfl, rfl, rfl, rfl, trivial⟩ ?_
  refine mv_S (S' := SZ) (I' := IZ) (J' := JZ) (by decide +kernel) rfl rfl ?_
  exact lw_loop l hs hmono hL L 0 0 (by omega) (by omega) (by omega) h0
theorem whole_start_of {Inv : Nat → mm_I → mm_J → Prop} (h0 : Inv 0 IZ JZ) (hmono : ∀ (k : Nat) (I' : mm_I) (J' : mm_J), Inv k I' J' → Inv (k + 1) I' J') (hs : St_all Inv) {p : Program} {e : Env} {s : State} {m : MethodId} {below : List Frame} {meth : Method} {c : Code} (l : Launch) {b L : Nat} {xs : Nat → Int32} (hL : L ≤ 2560) (hx : p.tables.exec = Jvm.exec) (hb : c.code = code) (hr : meth.sig.returnType = ret) (hml : c.maxLocals = 4) (hown : s.vm.findClass RL = some m.cls) (hts : ∀ w ∈ lw_tbl, w.before #[Value.ref b] s = true) (hX : va_X b L xs s s.heap) (hbl : b < s.heap.size) (hlocks : meth.locks = false) (hgv : (Jvm.Cond.and given_1 narrow_1).before #[Value.ref b] s = true) : W p l e room_1 s m #[Value.ref b] below meth c s.heap [] 0 0 (lw_Z below #[Value.ref b] s) (entryFrame m ([Value.ref b] : List Value).toArray 4) := by
  have htg : ∀ w ∈ mm_GW, w.before #[Value.ref b] s = true := fun w hw => hts w (List.mem_filter.mp hw).1
  have hN : ∀ w ∈ mm_NW, va_Nw w s := by
    intro w hw
    have h1 := hts w (List.mem_filter.mp hw).1
    have h2 : mm_isN w = true := (List.mem_filter.mp hw).2
    cases w <;> first | exact va_Nw.of rfl h1 | cases h2
  obtain ⟨D, cA, hK⟩ := lw_K htg
  obtain ⟨ad, hT, hb4⟩ := lw_T hts hgv
  subst hb4
  have hl := lv_entry ([Value.ref (ad 4000000)]) (n := 4) (Nat.le_of_ble_eq_true rfl)
  rw [lg_entry_eq]
  have K := lw_start l h0 hmono hs hL (xs := xs) p e s m #[Value.ref (ad 4000000)] below meth c D cA ad (fun q => s.heap.size ≤ q) s.heap [] _ ⟨hx, hb, hml, hown, htg, hN, hK, (fun i j hi _ _ => absurd hi (Nat.not_lt_zero i)), (fun r hr => absurd hr (Nat.not_lt_zero r)), hT, (fun q hq => hq), (fun h => absurd h (by decide +kernel)), hr, hlocks⟩ (fun k q hk => by cases hk) va_S.rf ⟨_, hl, fun i v hi => mm_args_look (ad := ad) [Value.ref 4000000] 0 i v hi⟩
  exact mm_Wmono (fun t ht => ht ⟨rfl, hX, hbl, fun q hq => hq⟩) K
