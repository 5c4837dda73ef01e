/-! ===== part 08: String constants: length, charAt ===== -/
abbrev mm_isS (e : Nat) : Prop := ∃ i, i < 14 ∧ e = 1000000 + i
def mm_sx (e : Nat) : Nat := e - 1000000
def fJ0_length (e : Nat) : Option Int32 := some (Int32.ofNat (mm_sL.getD (mm_sx e) 0))
def mm_sc (e : Nat) (k : Nat) : Int32 := (mm_sB.getD (mm_sx e) []).getD k 0
def fJ0_charAt (e : Nat) (k : Int32) : Option Int32 := if mm_inb k (mm_sL.getD (mm_sx e) 0) = true then some (mm_sc e k.toNatClampNeg) else none
theorem mm_getD_mem {l : List Int32} {k : Nat} (h : k < l.length) : l.getD k 0 ∈ l := by
  rw [List.getD_eq_getElem?_getD, List.getElem?_eq_getElem h]
  exact List.getElem_mem _
section MMS
variable {l : Launch} {M : mm_M} {R : Room} {cs ss : Nat} {S : mm_Sh} {E : mm_E} {pc : Nat} {lv : List (Nat × Value)} {stk : List Value} {I I1 : mm_I} {J J1 : mm_J}
theorem mm_cT {z : mm_M} {idx n b : Nat} {As : List Value} {st0 : List Value} {v : Int32} (hz : mm_C l z S (.ref b :: As) I J (mm_Qi v I1 J1)) (hL : mm_LV (mm_own M) idx z n) (hn : As.length = n) (hd : decode (mm_cc M) pc = .ok (.invokevirtual idx, 3)) (hR : mm_roomy R cs ss z) (hb : mm_isS b) (hown' : mm_own z = "java/lang/String") (hst : st0 = As.reverse ++ .ref b :: stk) (hsm : Nat.ble (stk.map fun v => v.category).sum 8 = true)
    (kk : mm_W l M R cs ss S E (pc + 3) lv (.int v :: stk) I1 J1) : mm_W l M R cs ss S E pc lv st0 I J := by
  intro p e s m args below meth c D cA ad H locs ls X hP hS hl
  have hX := X
  obtain ⟨hx, hb2, hml, hown, hts, hnest, hK, hinj, hT, hret, hlocks⟩ := X
  obtain ⟨hlink, hinst, hsel, hini, hcode, hne, hlen⟩ := hL
  obtain ⟨hf1, hf2, hf3, hf4⟩ := hR
  obtain ⟨i, hi, rfl⟩ := hb
  have hst2 : st0.map (mm_v ad) = (As.map (mm_v ad)).reverse ++ .ref (ad (1000000 + i)) :: stk.map (mm_v ad) := by
    rw [hst]; simp [mm_v]
  have hlen2 : ∀ sig, parseMethodDescriptor (mm_y z).desc = some sig → n = sig.parameters.length := by
    intro sig h
    rw [h] at hlen
    exact (Option.some.inj hlen).symm
  have hp : PreV s H (mm_own z) (ad (1000000 + i)) (va_Pc ((Value.ref (1000000 + i) :: As).map (mm_v ad)) (mm_B D cA ad S I J)) (As.map (mm_v ad)) := by
    refine ⟨mm_blind, ?_, fun U hU hW => ⟨rfl, by rw [hU]; exact hP, hK.moved hW.alike, hinj, mm_nest hW hnest, by rw [hU]; exact hT.to hW hS⟩⟩
    rw [hown']
    exact vk_recv (adK := fun i => ad (1000000 + i)) (i := i) hT.1 hi hS
  have hsum : 2 * (F0 m pc ls (st0.map (mm_v ad))).monitorRoom + ((stk.map (mm_v ad)).map fun v => v.category).sum ≤ 8 := by
    rw [mm_sum]
    exact lv_room (Nat.le_of_ble_eq_true hsm)
  have kk2 : ∀ r I' J', mm_Qi v I1 J1 r I' J' → mm_W l M R cs ss S E (pc + 3) lv (r.toList ++ stk) I' J' := by
    intro r I' J' hq
    obtain ⟨h1, h2, h3⟩ := hq
    subst h1; subst h2; subst h3
    exact kk
  refine mm_runk (M := M) (Qz := mm_Qi v I1 J1) (stk := stk) (a := (Value.ref (ad (1000000 + i)) :: As.map (mm_v ad)).toArray) ?_ hX hS hl kk2
  rcases hlink with hlink | ⟨host, hlink⟩
  · exact va_runV (As := As.map (mm_v ad)) (rest := stk.map (mm_v ad)) ⟨hx, hb2, hml, hown, hts⟩ (hz D cA ad) ⟨⟨rfl, rfl, hf1, hf2, pay_in hts (mm_good hcode), List.mem_cons_self, hts _ hcode, hts _ hini, hne, hlen2, hts _ hlink⟩, hts _ hinst, hts _ hsel⟩ hp rfl (by simpa using hn) hl.choose_spec.1.1 hst2 hsum hd ⟨hf3, hf4⟩
  · exact va_runVN (host := host) (As := As.map (mm_v ad)) (rest := stk.map (mm_v ad)) ⟨hx, hb2, hml, hown, hts⟩ (hz D cA ad) ⟨⟨⟨rfl, rfl, hf1, hf2, pay_in hts (mm_good hcode), List.mem_cons_self⟩, hts _ hcode, hts _ hini, hne, hlen2, va_Nw.use rfl (hnest _ hlink)⟩, hts _ hinst, hts _ hsel⟩ hp rfl (by simpa using hn) hl.choose_spec.1.1 hst2 hsum hd ⟨hf3, hf4⟩
theorem mm_getSV {i idx : Nat} (hi : i < 14) (hl9 : Cond.fieldLink (mm_own M) idx "java/lang/String" "value" "[B" ∈ mm_GW) (hd : decode (mm_cc M) pc = .ok (.getfield idx, 3)) (kk : mm_W l M R cs ss S E (pc + 3) lv (.ref (2000000 + i) :: stk) I J) : mm_W l M R cs ss S E pc lv (.ref (1000000 + i) :: stk) I J := by
  intro p e s m args below meth c D cA ad H locs ls X hP hS hl
  exact vk_getf X.1 X.2.1 (X.2.2.2.2.2.2.2.2.1.1.1 i hi).2.2.1 hS X.2.2.2.1 (X.2.2.2.2.1 _ hl9) (fun _ h => h) hd (kk p e s m args below meth c D cA ad H locs ls X hP hS hl)
theorem mm_getSC {i idx : Nat} (hi : i < 14) (hl9 : Cond.fieldLink (mm_own M) idx "java/lang/String" "coder" "B" ∈ mm_GW) (hd : decode (mm_cc M) pc = .ok (.getfield idx, 3)) (kk : mm_W l M R cs ss S E (pc + 3) lv (.int 0 :: stk) I J) : mm_W l M R cs ss S E pc lv (.ref (1000000 + i) :: stk) I J := by
  intro p e s m args below meth c D cA ad H locs ls X hP hS hl
  exact vk_getf X.1 X.2.1 (X.2.2.2.2.2.2.2.2.1.1.1 i hi).2.1 hS X.2.2.2.1 (X.2.2.2.2.1 _ hl9) (fun _ h => h) hd (kk p e s m args below meth c D cA ad H locs ls X hP hS hl)
theorem mm_getCS {idx : Nat} (hl9 : Cond.fieldLink (mm_own M) idx "java/lang/String" "COMPACT_STRINGS" "Z" ∈ mm_GW) (hd : decode (mm_cc M) pc = .ok (.getstatic idx, 3)) (kk : mm_W l M R cs ss S E (pc + 3) lv (.int 1 :: stk) I J) : mm_W l M R cs ss S E pc lv stk I J := by
  intro p e s m args below meth c D cA ad H locs ls X hP hS hl
  exact va_gets X.1 X.2.1 X.2.2.2.2.2.2.2.2.1.2.2.1 hS X.2.2.2.1 (X.2.2.2.2.1 _ hl9) (fun _ h => h) hd (kk p e s m args below meth c D cA ad H locs ls X hP hS hl)
theorem mm_getFM {idx : Nat} (hl9 : Cond.fieldLink (mm_own M) idx "jdk/internal/util/Preconditions" "SIOOBE_FORMATTER" "Ljava/util/function/BiFunction;" ∈ mm_GW) (hd : decode (mm_cc M) pc = .ok (.getstatic idx, 3)) (kk : ∀ v : Value, v.category = 1 → mm_W l M R cs ss S E (pc + 3) lv (v :: stk) I J) : mm_W l M R cs ss S E pc lv stk I J := by
  intro p e s m args below meth c D cA ad H locs ls X hP hS hl
  rcases X.2.2.2.2.2.2.2.2.1.2.2.2 with hz | hz
  · exact va_gets X.1 X.2.1 hz hS X.2.2.2.1 (X.2.2.2.2.1 _ hl9) (fun _ h => h) hd (kk .null rfl p e s m args below meth c D cA ad H locs ls X hP hS hl)
  · exact va_gets X.1 X.2.1 hz hS X.2.2.2.1 (X.2.2.2.2.1 _ hl9) (fun _ h => h) hd (kk (.ref 3000000) rfl p e s m args below meth c D cA ad H locs ls X hP hS hl)
theorem mm_alenS {i : Nat} (hi : i < 14) (hd : decode (mm_cc M) pc = .ok (.arraylength, 1)) (kk : mm_W l M R cs ss S E (pc + 1) lv (.int (Int32.ofNat (mm_sL.getD i 0)) :: stk) I J) : mm_W l M R cs ss S E pc lv (.ref (2000000 + i) :: stk) I J := by
  intro p e s m args below meth c D cA ad H locs ls X hP hS hl
  exact va_tlen X.1 X.2.1 (X.2.2.2.2.2.2.2.2.1.1.1 i hi).2.2.2 hS rfl hd (kk p e s m args below meth c D cA ad H locs ls X hP hS hl)
theorem mm_baldS {i : Nat} {k : Int32} (hi : i < 14) (hin : vp_in k (mm_sL.getD i 0)) (hd : decode (mm_cc M) pc = .ok (.baload, 1)) (kk : mm_W l M R cs ss S E (pc + 1) lv (.int ((mm_sB.getD i []).getD k.toNatClampNeg 0) :: stk) I J) : mm_W l M R cs ss S E pc lv (.int k :: .ref (2000000 + i) :: stk) I J := by
  intro p e s m args below meth c D cA ad H locs ls X hP hS hl
  exact va_tb X.1 X.2.1 (X.2.2.2.2.2.2.2.2.1.1.1 i hi).2.2.2 hS hin rfl hd (kk p e s m args below meth c D cA ad H locs ls X hP hS hl)
theorem mm_i2c {x v : Int32} (hd : decode (mm_cc M) pc = .ok (.i2c, 1)) (hv : (x.toUInt32 % 65536).toInt32 = v) (kk : mm_W l M R cs ss S E (pc + 1) lv (.int v :: stk) I J) : mm_W l M R cs ss S E pc lv (.int x :: stk) I J := by
  intro p e s m args below meth c D cA ad H locs ls X hP hS hl
  exact lv_i2c X.1 X.2.1 hd hv (kk p e s m args below meth c D cA ad H locs ls X hP hS hl)
theorem mm_nret {Q : mm_QQ} {v : Int32} {ty : FieldType} (hr : mm_ret M = some ty) (hd : decode (mm_cc M) pc = .ok (.ireturn, 1)) (hv : narrow ty (.int v) = .int v) (q : Q (some (.int v)) I J) : mm_W l M R 0 0 S (mm_end S Q) pc lv [.int v] I J := by
  intro p e s m args below meth c D cA ad H locs ls X hP hS hl
  exact W.zret (v := v) X.1 X.2.1 (X.2.2.2.2.2.2.2.2.2.1.trans hr) hv (fun t ht hW => ⟨⟨some (.int v), I, J, rfl, q, by rw [ht]; exact hP⟩, hS.F ht⟩) hS.2.2 hd X.2.2.2.2.2.2.2.2.2.2
end MMS
theorem sl_9 : Cond.fieldLink RJ0 9 "java/lang/String" "value" "[B" ∈ mm_GW := mm_g7 178 (by decide +kernel) rfl
theorem sl_15 : Cond.fieldLink RJ0 15 "java/lang/String" "coder" "B" ∈ mm_GW := mm_g7 179 (by decide +kernel) rfl
theorem sl_38 : Cond.fieldLink RJ0 38 "java/lang/String" "COMPACT_STRINGS" "Z" ∈ mm_GW := mm_g3 65 (by decide +kernel) rfl
theorem sl_1053 : Cond.fieldLink RJ0 1053 "jdk/internal/util/Preconditions" "SIOOBE_FORMATTER" "Ljava/util/function/BiFunction;" ∈ mm_GW := mm_g3 81 (by decide +kernel) rfl
theorem okJ0_coder (l : Launch) {S : mm_Sh} {v0 : Nat} (h0 : mm_isS v0) {I : mm_I} {J : mm_J} : mm_C l MJ0_coder S [.ref v0] I J (mm_Qi 0 I J) := by
  obtain ⟨i, hi, rfl⟩ := h0
  refine mm_enter rfl (by decide +kernel) rfl ?_
  refine mm_getCS sl_38 dJ0_coder_0 ?_
  refine mm_if_eq (tgt := 13) dJ0_coder_3 (by decide) (fun hc => absurd hc (by decide)) (fun _ => ?_)
  refine mm_aload_n dJ0_coder_6 rfl ?_
  refine mm_getSC hi sl_15 dJ0_coder_7 ?_
  refine mm_goto (tgt := 14) dJ0_coder_10 (by decide) ?_
  exact mm_nret rfl dJ0_coder_14 (by decide +kernel) ⟨rfl, rfl, rfl⟩
theorem okJ0_isLatin1 (l : Launch) {S : mm_Sh} {v0 : Nat} (h0 : mm_isS v0) {I : mm_I} {J : mm_J} : mm_C l MJ0_isLatin1 S [.ref v0] I J (mm_Qi 1 I J) := by
  obtain ⟨i, hi, rfl⟩ := h0
  refine mm_enter rfl (by decide +kernel) rfl ?_
  refine mm_getCS sl_38 dJ0_isLatin1_0 ?_
  refine mm_if_eq (tgt := 17) dJ0_isLatin1_3 (by decide) (fun hc => absurd hc (by decide)) (fun _ => ?_)
  refine mm_aload_n dJ0_isLatin1_6 rfl ?_
  refine mm_getSC hi sl_15 dJ0_isLatin1_7 ?_
  refine mm_if_ne (tgt := 17) dJ0_isLatin1_10 (by decide) (fun hc => absurd rfl hc) (fun _ => ?_)
  refine mm_iconst (v := 1) dJ0_isLatin1_13 (by decide +kernel) ?_
  refine mm_goto (tgt := 18) dJ0_isLatin1_14 (by decide) ?_
  exact mm_zret rfl dJ0_isLatin1_18 (by decide) ⟨rfl, rfl, rfl⟩
theorem mm_shr0 (x : Int32) : x >>> ((0 : Int32) &&& 31) = x := sb_shr0 x
theorem okJ0_length (l : Launch) {S : mm_Sh} {v0 : Nat} (h0 : mm_isS v0) {I : mm_I} {J : mm_J} {o : Int32} (h : fJ0_length v0 = some o) : mm_C l MJ0_length S [.ref v0] I J (mm_Qi o I J) := by
  have h00 := h0
  obtain ⟨i, hi, rfl⟩ := h0
  have h := Option.some.inj h
  subst h
  have e : mm_sx (1000000 + i) = i := by unfold mm_sx; omega
  rw [e]
  refine mm_enter rfl (by decide +kernel) rfl ?_
  refine mm_aload_n dJ0_length_0 rfl ?_
  refine mm_getSV hi sl_9 dJ0_length_1 ?_
  refine mm_alenS hi dJ0_length_4 ?_
  refine mm_aload_n dJ0_length_5 rfl ?_
  refine mm_cT (As := []) (okJ0_coder l h00) lk_J0_335 rfl dJ0_length_6 (mm_room rfl rfl) h00 rfl rfl rfl ?_
  refine mm_ishr dJ0_length_9 ?_
  rw [mm_shr0]
  exact mm_iret rfl dJ0_length_10 ⟨rfl, rfl, rfl⟩
theorem okJ3_checkIndex (l : Launch) {S : mm_Sh} {i n : Int32} {v : Value} (hv : v.category = 1) (h1 : ¬ i < 0) (h2 : i < n) {I : mm_I} {J : mm_J} : mm_C l MJ3_checkIndex S [.int i, .int n, v] I J (mm_Qi i I J) := by
  refine mm_enter rfl (by decide +kernel) (by cases v <;> first | rfl | cases hv) ?_
  refine mm_sub [(0, .int i), (1, .int n)] ⟨rfl, rfl, trivial⟩ ?_
  refine mm_iload_n dJ3_checkIndex_0 rfl ?_
  refine mm_if_lt (tgt := 9) dJ3_checkIndex_1 (by decide) (fun hc => absurd hc h1) (fun _ => ?_)
  refine mm_iload_n dJ3_checkIndex_4 rfl ?_
  refine mm_iload_n dJ3_checkIndex_5 rfl ?_
  refine mm_icmp_lt (tgt := 16) dJ3_checkIndex_6 (by decide) (fun _ => ?_) (fun hc => absurd h2 hc)
  refine mm_iload_n dJ3_checkIndex_16 rfl ?_
  exact mm_iret rfl dJ3_checkIndex_17 ⟨rfl, rfl, rfl⟩
theorem okJ0_checkIndex (l : Launch) {S : mm_Sh} {i n : Int32} (h1 : ¬ i < 0) (h2 : i < n) {I : mm_I} {J : mm_J} : mm_C l MJ0_checkIndex S [.int i, .int n] I J (mm_Qv I J) := by
  refine mm_enter rfl (by decide +kernel) rfl ?_
  refine mm_iload_n dJ0_checkIndex_0 rfl ?_
  refine mm_iload_n dJ0_checkIndex_1 rfl ?_
  refine mm_getFM sl_1053 dJ0_checkIndex_2 (fun v hv => ?_)
  refine mm_cSi (As := [.int i, .int n, v]) (okJ3_checkIndex l hv h1 h2) lk_J0_1059 rfl dJ0_checkIndex_5 (mm_room rfl rfl) rfl rfl ?_
  refine mm_pop dJ0_checkIndex_8 rfl ?_
  exact mm_vret rfl dJ0_checkIndex_9 ⟨rfl, rfl, rfl⟩
theorem mm_sB_c : ∀ i, i < 14 → ((mm_sB.getD i []).length = mm_sL.getD i 0 ∧ mm_sL.getD i 0 < 100) ∧ ∀ x ∈ mm_sB.getD i [], ((x &&& 255).toUInt32 % 65536).toInt32 = x ∧ narrow .char (.int x) = .int x := by decide +kernel
theorem okJ1_charAt (l : Launch) {S : mm_Sh} {i : Nat} (hi : i < 14) {k : Int32} (hk : mm_inb k (mm_sL.getD i 0) = true) {I : mm_I} {J : mm_J} : mm_C l MJ1_charAt S [.ref (2000000 + i), .int k] I J (mm_Qi ((mm_sB.getD i []).getD k.toNatClampNeg 0) I J) := by
  obtain ⟨⟨e1, e2⟩, e3⟩ := mm_sB_c i hi
  have hin := mm_inb_ok hk
  have h1 : ¬ k < 0 := fun q => hin (Or.inl q)
  have hlt : k.toNatClampNeg < mm_sL.getD i 0 := Nat.not_le.mp fun q => hin (Or.inr q)
  have h2 : k < Int32.ofNat (mm_sL.getD i 0) := by
    obtain ⟨j, hj, rfl⟩ := vp_in_of hin (by omega)
    exact nI_lt hj (by omega)
  have hm : (mm_sB.getD i []).getD k.toNatClampNeg 0 ∈ mm_sB.getD i [] := mm_getD_mem (by rw [e1]; exact hlt)
  obtain ⟨e4, e5⟩ := e3 _ hm
  refine mm_enter rfl (by decide +kernel) rfl ?_
  refine mm_iload_n dJ1_charAt_0 rfl ?_
  refine mm_aload_n dJ1_charAt_1 rfl ?_
  refine mm_alenS hi dJ1_charAt_2 ?_
  refine mm_cSv (As := [.int k, .int (Int32.ofNat (mm_sL.getD i 0))]) (okJ0_checkIndex l h1 h2) lk_J1_9 rfl dJ1_charAt_3 (mm_room rfl rfl) rfl rfl ?_
  refine mm_aload_n dJ1_charAt_6 rfl ?_
  refine mm_iload_n dJ1_charAt_7 rfl ?_
  refine mm_baldS hi hin dJ1_charAt_8 ?_
  refine mm_sipush (v := 255) dJ1_charAt_9 (by decide +kernel) ?_
  refine mm_iand dJ1_charAt_12 ?_
  refine mm_i2c dJ1_charAt_13 e4 ?_
  exact mm_nret rfl dJ1_charAt_14 e5 ⟨rfl, rfl, rfl⟩
theorem okJ0_charAt (l : Launch) {S : mm_Sh} {v0 : Nat} (h0 : mm_isS v0) {k : Int32} {I : mm_I} {J : mm_J} {o : Int32} (h : fJ0_charAt v0 k = some o) : mm_C l MJ0_charAt S [.ref v0, .int k] I J (mm_Qi o I J) := by
  have h00 := h0
  obtain ⟨i, hi, rfl⟩ := h0
  have e : mm_sx (1000000 + i) = i := by unfold mm_sx; omega
  unfold fJ0_charAt at h
  rw [e] at h
  obtain ⟨hk, h⟩ := mm_gd h
  have h := Option.some.inj h
  subst h
  unfold mm_sc
  rw [e]
  obtain ⟨⟨e1, e2⟩, e3⟩ := mm_sB_c i hi
  have hin := mm_inb_ok hk
  have hlt : k.toNatClampNeg < mm_sL.getD i 0 := Nat.not_le.mp fun q => hin (Or.inr q)
  have hm : (mm_sB.getD i []).getD k.toNatClampNeg 0 ∈ mm_sB.getD i [] := mm_getD_mem (by rw [e1]; exact hlt)
  refine mm_enter rfl (by decide +kernel) rfl ?_
  refine mm_aload_n dJ0_charAt_0 rfl ?_
  refine mm_cT (As := []) (okJ0_isLatin1 l h00) lk_J0_492 rfl dJ0_charAt_1 (mm_room rfl rfl) h00 rfl rfl rfl ?_
  refine mm_if_eq (tgt := 16) dJ0_charAt_4 (by decide) (fun hc => absurd hc (by decide)) (fun _ => ?_)
  refine mm_aload_n dJ0_charAt_7 rfl ?_
  refine mm_getSV hi sl_9 dJ0_charAt_8 ?_
  refine mm_iload_n dJ0_charAt_11 rfl ?_
  refine mm_cSi (As := [.ref (2000000 + i), .int k]) (okJ1_charAt l hi hk) lk_J0_495 rfl dJ0_charAt_12 (mm_room rfl rfl) rfl rfl ?_
  exact mm_nret rfl dJ0_charAt_15 (e3 _ hm).2 ⟨rfl, rfl, rfl⟩
