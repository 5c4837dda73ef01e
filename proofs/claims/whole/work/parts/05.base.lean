/-! ===== part 05: shapes that are well typed; guards; calls by the kind of their answer; Strings, Math ===== -/
/-- class ci's fields: 0 int or boolean, 1 long, 50 int[], 51 boolean[], 100 + c an object of class c -/
def mm_kd : Nat → List Nat
  | 0 => [106, 106, 106, 106, 106, 0, 0]
  | 1 => [106, 106, 106, 106, 106, 106, 106, 106, 0, 0, 0, 0, 0]
  | 2 => [100, 107, 101]
  | 3 => [100, 101, 106, 106, 106, 106, 106, 0]
  | 4 => [106, 0, 0, 0, 0, 0, 0]
  | 5 => [102, 106, 106, 106, 106, 0, 0]
  | 6 => [50]
  | 7 => [0, 0, 0, 0, 0, 0, 0]
  | 8 => [106, 106, 106, 106, 106, 106, 0, 0, 0, 0, 0]
  | 9 => [104, 100, 101, 0, 1]
  | 10 => [104, 100, 100, 107, 107, 107, 101, 101, 101, 101, 101, 101, 106, 108, 109, 102, 102, 103, 105, 0]
  | 11 => [0, 50, 0, 50, 50, 50, 0, 0, 0, 0, 0, 0, 50, 51, 50, 50, 50, 50, 50, 50, 50, 51, 51, 0, 0, 50, 50, 0, 0, 0, 1, 0, 0, 0, 0, 50, 0, 50, 50, 0, 50, 50, 50, 50, 0, 50, 50, 0, 0, 50, 50, 0, 50, 50, 50, 50, 51]
  | _ => []
/-- no field is null -/
def mm_full (fs : List (Nat ⊕ Nat)) : Bool := fs.all (fun f => match f with
  | .inl _ => true
  | .inr q => Nat.blt q 2)
def mm_is (S : mm_Sh) (r ci : Nat) : Prop := ∃ fs, S[r]? = some (.inr (ci, fs)) ∧ mm_full fs = true
def mm_rf (S : mm_Sh) (r k : Nat) : Nat := match S[r]? with
  | some (.inr q) => match q.2[k]? with
    | some (.inl x) => x
    | _ => 0
  | _ => 0
def mm_al (S : mm_Sh) (r : Nat) : Nat := match S[r]? with
  | some (.inl q) => q.2
  | _ => 0
/-- a field of kind c is so held -/
def mm_wf (S : mm_Sh) (c : Nat) (f : Option (Nat ⊕ Nat)) : Prop :=
  (c = 0 → f = some (.inr 0)) ∧ (c = 1 → f = some (.inr 1)) ∧ (50 ≤ c → c < 100 → ∃ q n, f = some (.inl q) ∧ S[q]? = some (.inl (c - 50, n))) ∧ (100 ≤ c → ∃ q, f = some (.inl q) ∧ mm_is S q (c - 100))
def mm_WT (S : mm_Sh) : Prop := ∀ (r ci : Nat) (fs : List (Nat ⊕ Nat)), S[r]? = some (.inr (ci, fs)) → mm_full fs = true → ∀ (k c : Nat), (mm_kd ci)[k]? = some c → mm_wf S c (fs[k]?)
theorem mm_wtI {S : mm_Sh} (hS : mm_WT S) {r ci k : Nat} (h : mm_is S r ci) (hk : (mm_kd ci)[k]? = some 0) : mm_fld S r ci k (.inr 0) := by
  obtain ⟨fs, hs, hfu⟩ := h
  exact ⟨fs, hs, (hS r ci fs hs hfu k 0 hk).1 rfl⟩
theorem mm_wtJ {S : mm_Sh} (hS : mm_WT S) {r ci k : Nat} (h : mm_is S r ci) (hk : (mm_kd ci)[k]? = some 1) : mm_fld S r ci k (.inr 1) := by
  obtain ⟨fs, hs, hfu⟩ := h
  exact ⟨fs, hs, (hS r ci fs hs hfu k 1 hk).2.1 rfl⟩
theorem mm_rf_of {S : mm_Sh} {r ci k q : Nat} {fs : List (Nat ⊕ Nat)} (hs : S[r]? = some (.inr (ci, fs))) (hf : fs[k]? = some (.inl q)) : mm_rf S r k = q := by
  unfold mm_rf; rw [hs]; simp only [hf]
theorem mm_wtR {S : mm_Sh} (hS : mm_WT S) {r ci k : Nat} (c : Nat) (h : mm_is S r ci) (hk : (mm_kd ci)[k]? = some c) (hc : Nat.ble 50 c = true) : mm_fld S r ci k (.inl (mm_rf S r k)) := by
  obtain ⟨fs, hs, hfu⟩ := h
  have hc := Nat.le_of_ble_eq_true hc
  obtain ⟨-, -, h3, h4⟩ := hS r ci fs hs hfu k c hk
  by_cases h5 : c < 100
  · obtain ⟨q, n, h6, -⟩ := h3 hc h5
    rw [mm_rf_of hs h6]
    exact ⟨fs, hs, h6⟩
  · obtain ⟨q, h6, -⟩ := h4 (by omega)
    rw [mm_rf_of hs h6]
    exact ⟨fs, hs, h6⟩
theorem mm_wtT {S : mm_Sh} (hS : mm_WT S) {r ci : Nat} (k c : Nat) (h : mm_is S r ci) (hk : (mm_kd ci)[k]? = some (c + 100)) : mm_is S (mm_rf S r k) c := by
  obtain ⟨fs, hs, hfu⟩ := h
  obtain ⟨-, -, -, h4⟩ := hS r ci fs hs hfu k (c + 100) hk
  obtain ⟨q, h6, h7⟩ := h4 (by omega)
  rw [mm_rf_of hs h6]
  exact h7
theorem mm_al_of {S : mm_Sh} {q kd n : Nat} (h : S[q]? = some (.inl (kd, n))) : mm_al S q = n := by
  unfold mm_al; rw [h]
theorem mm_wtA {S : mm_Sh} (hS : mm_WT S) {r ci : Nat} (k kd : Nat) (h : mm_is S r ci) (hk : (mm_kd ci)[k]? = some (kd + 50)) (hkd : Nat.blt kd 50 = true) : S[mm_rf S r k]? = some (.inl (kd, mm_al S (mm_rf S r k))) := by
  obtain ⟨fs, hs, hfu⟩ := h
  have hkd := Nat.blt_eq.mp hkd
  obtain ⟨-, -, h3, -⟩ := hS r ci fs hs hfu k (kd + 50) hk
  obtain ⟨q, n, h6, h7⟩ := h3 (by omega) (by omega)
  rw [mm_rf_of hs h6]
  rw [show kd + 50 - 50 = kd by omega] at h7
  rw [mm_al_of h7]
  exact h7
/-! guards -/
def mm_inb (i : Int32) (n : Nat) : Bool := !(decide (i < 0)) && Nat.blt i.toNatClampNeg n
theorem mm_inb_ok {i : Int32} {n : Nat} (h : mm_inb i n = true) : vp_in i n := by
  unfold mm_inb at h
  rw [Bool.and_eq_true] at h
  obtain ⟨h1, h2⟩ := h
  have h2 := Nat.blt_eq.mp h2
  intro q
  rcases q with q | q
  · simp [q] at h1
  · omega
def mm_bit (x : Int32) : Bool := decide (x = 0) || decide (x = 1)
theorem mm_bit_ok {x : Int32} (h : mm_bit x = true) : x = 0 ∨ x = 1 := by
  unfold mm_bit at h
  simpa using h
theorem mm_gd {α : Type} {b : Bool} {X : Option α} {o : α} (h : (if b = true then X else none) = some o) : b = true ∧ X = some o := by
  cases b with
  | true => exact ⟨rfl, by simpa using h⟩
  | false => simp at h
theorem mm_gz {α : Type} {y : Int32} {X : Option α} {o : α} (h : (if y = 0 then none else X) = some o) : ¬ y = 0 ∧ X = some o := by
  by_cases hy : y = 0
  · rw [if_pos hy] at h; cases h
  · rw [if_neg hy] at h; exact ⟨hy, h⟩
theorem mm_bd {α β : Type} {x : Option α} {g : α → Option β} {o : β} (h : x.bind g = some o) : ∃ a, x = some a ∧ g a = some o := by
  cases x with
  | none => cases h
  | some a => exact ⟨a, rfl, h⟩
/-! answers -/
abbrev mm_Qi (v : Int32) (I : mm_I) (J : mm_J) : mm_QQ := fun r I' J' => r = some (.int v) ∧ I' = I ∧ J' = J
abbrev mm_Ql (v : Int64) (I : mm_I) (J : mm_J) : mm_QQ := fun r I' J' => r = some (.long v) ∧ I' = I ∧ J' = J
abbrev mm_Qr (v : Nat) (I : mm_I) (J : mm_J) : mm_QQ := fun r I' J' => r = some (.ref v) ∧ I' = I ∧ J' = J
abbrev mm_Qv (I : mm_I) (J : mm_J) : mm_QQ := fun r I' J' => r = none ∧ I' = I ∧ J' = J
section MMD
variable {l : Launch} {M : mm_M} {R : Room} {cs ss : Nat} {S : mm_Sh} {E : mm_E} {pc : Nat} {lv : List (Nat × Value)} {stk : List Value} {I I1 : mm_I} {J J1 : mm_J}
theorem mm_cVi {z : mm_M} {idx n b : Nat} {As : List Value} {st0 : List Value} {v : Int32} (ci : Nat) {T : u_T} {N : Nat} (hz : mm_C l z S (.ref b :: As) I J (mm_Qi v I1 J1)) (hL : mm_LV (mm_own M) idx z n) (hn : As.length = n) (hd : decode (mm_cc M) pc = .ok (.invokevirtual idx, 3)) (hR : mm_roomy R cs ss z) (hcl : vwCl[ci]? = some (mm_own z, T, N)) (hb : mm_is S b ci) (hst : st0 = As.reverse ++ .ref b :: stk) (hsm : Nat.ble (stk.map fun v => v.category).sum 8 = true) (kk : mm_W l M R cs ss S E (pc + 3) lv (.int v :: stk) I1 J1) : mm_W l M R cs ss S E pc lv st0 I J := by
  obtain ⟨fs, hs, -⟩ := hb
  refine mm_callV hz hL hn hd hR hcl hs hst hsm (fun r I' J' hq => ?_)
  obtain ⟨rfl, rfl, rfl⟩ := hq
  exact kk
theorem mm_cSi {z : mm_M} {idx n : Nat} {As : List Value} {st0 : List Value} {v : Int32} (hz : mm_C l z S As I J (mm_Qi v I1 J1)) (hL : mm_LS (mm_own M) idx z n) (hn : As.length = n) (hd : decode (mm_cc M) pc = .ok (.invokestatic idx, 3)) (hR : mm_roomy R cs ss z) (hst : st0 = As.reverse ++ stk) (hsm : Nat.ble (stk.map fun v => v.category).sum 8 = true) (kk : mm_W l M R cs ss S E (pc + 3) lv (.int v :: stk) I1 J1) : mm_W l M R cs ss S E pc lv st0 I J := by
  refine mm_callS hz hL hn hd hR hst hsm (fun r I' J' hq => ?_)
  obtain ⟨rfl, rfl, rfl⟩ := hq
  exact kk
theorem mm_cVl {z : mm_M} {idx n b : Nat} {As : List Value} {st0 : List Value} {v : Int64} (ci : Nat) {T : u_T} {N : Nat} (hz : mm_C l z S (.ref b :: As) I J (mm_Ql v I1 J1)) (hL : mm_LV (mm_own M) idx z n) (hn : As.length = n) (hd : decode (mm_cc M) pc = .ok (.invokevirtual idx, 3)) (hR : mm_roomy R cs ss z) (hcl : vwCl[ci]? = some (mm_own z, T, N)) (hb : mm_is S b ci) (hst : st0 = As.reverse ++ .ref b :: stk) (hsm : Nat.ble (stk.map fun v => v.category).sum 8 = true) (kk : mm_W l M R cs ss S E (pc + 3) lv (.long v :: stk) I1 J1) : mm_W l M R cs ss S E pc lv st0 I J := by
  obtain ⟨fs, hs, -⟩ := hb
  refine mm_callV hz hL hn hd hR hcl hs hst hsm (fun r I' J' hq => ?_)
  obtain ⟨rfl, rfl, rfl⟩ := hq
  exact kk
theorem mm_cSl {z : mm_M} {idx n : Nat} {As : List Value} {st0 : List Value} {v : Int64} (hz : mm_C l z S As I J (mm_Ql v I1 J1)) (hL : mm_LS (mm_own M) idx z n) (hn : As.length = n) (hd : decode (mm_cc M) pc = .ok (.invokestatic idx, 3)) (hR : mm_roomy R cs ss z) (hst : st0 = As.reverse ++ stk) (hsm : Nat.ble (stk.map fun v => v.category).sum 8 = true) (kk : mm_W l M R cs ss S E (pc + 3) lv (.long v :: stk) I1 J1) : mm_W l M R cs ss S E pc lv st0 I J := by
  refine mm_callS hz hL hn hd hR hst hsm (fun r I' J' hq => ?_)
  obtain ⟨rfl, rfl, rfl⟩ := hq
  exact kk
theorem mm_cVr {z : mm_M} {idx n b : Nat} {As : List Value} {st0 : List Value} {v : Nat} (ci : Nat) {T : u_T} {N : Nat} (hz : mm_C l z S (.ref b :: As) I J (mm_Qr v I1 J1)) (hL : mm_LV (mm_own M) idx z n) (hn : As.length = n) (hd : decode (mm_cc M) pc = .ok (.invokevirtual idx, 3)) (hR : mm_roomy R cs ss z) (hcl : vwCl[ci]? = some (mm_own z, T, N)) (hb : mm_is S b ci) (hst : st0 = As.reverse ++ .ref b :: stk) (hsm : Nat.ble (stk.map fun v => v.category).sum 8 = true) (kk : mm_W l M R cs ss S E (pc + 3) lv (.ref v :: stk) I1 J1) : mm_W l M R cs ss S E pc lv st0 I J := by
  obtain ⟨fs, hs, -⟩ := hb
  refine mm_callV hz hL hn hd hR hcl hs hst hsm (fun r I' J' hq => ?_)
  obtain ⟨rfl, rfl, rfl⟩ := hq
  exact kk
theorem mm_cSr {z : mm_M} {idx n : Nat} {As : List Value} {st0 : List Value} {v : Nat} (hz : mm_C l z S As I J (mm_Qr v I1 J1)) (hL : mm_LS (mm_own M) idx z n) (hn : As.length = n) (hd : decode (mm_cc M) pc = .ok (.invokestatic idx, 3)) (hR : mm_roomy R cs ss z) (hst : st0 = As.reverse ++ stk) (hsm : Nat.ble (stk.map fun v => v.category).sum 8 = true) (kk : mm_W l M R cs ss S E (pc + 3) lv (.ref v :: stk) I1 J1) : mm_W l M R cs ss S E pc lv st0 I J := by
  refine mm_callS hz hL hn hd hR hst hsm (fun r I' J' hq => ?_)
  obtain ⟨rfl, rfl, rfl⟩ := hq
  exact kk
theorem mm_cVv {z : mm_M} {idx n b : Nat} {As : List Value} {st0 : List Value} (ci : Nat) {T : u_T} {N : Nat} (hz : mm_C l z S (.ref b :: As) I J (mm_Qv I1 J1)) (hL : mm_LV (mm_own M) idx z n) (hn : As.length = n) (hd : decode (mm_cc M) pc = .ok (.invokevirtual idx, 3)) (hR : mm_roomy R cs ss z) (hcl : vwCl[ci]? = some (mm_own z, T, N)) (hb : mm_is S b ci) (hst : st0 = As.reverse ++ .ref b :: stk) (hsm : Nat.ble (stk.map fun v => v.category).sum 8 = true) (kk : mm_W l M R cs ss S E (pc + 3) lv (stk) I1 J1) : mm_W l M R cs ss S E pc lv st0 I J := by
  obtain ⟨fs, hs, -⟩ := hb
  refine mm_callV hz hL hn hd hR hcl hs hst hsm (fun r I' J' hq => ?_)
  obtain ⟨rfl, rfl, rfl⟩ := hq
  exact kk
theorem mm_cSv {z : mm_M} {idx n : Nat} {As : List Value} {st0 : List Value} (hz : mm_C l z S As I J (mm_Qv I1 J1)) (hL : mm_LS (mm_own M) idx z n) (hn : As.length = n) (hd : decode (mm_cc M) pc = .ok (.invokestatic idx, 3)) (hR : mm_roomy R cs ss z) (hst : st0 = As.reverse ++ stk) (hsm : Nat.ble (stk.map fun v => v.category).sum 8 = true) (kk : mm_W l M R cs ss S E (pc + 3) lv (stk) I1 J1) : mm_W l M R cs ss S E pc lv st0 I J := by
  refine mm_callS hz hL hn hd hR hst hsm (fun r I' J' hq => ?_)
  obtain ⟨rfl, rfl, rfl⟩ := hq
  exact kk
theorem mm_room {a b : mm_M} (h1 : Nat.ble (mm_rk b + 1) (mm_rk a) = true) (h2 : Nat.ble (8 + (mm_nL b + 11) + 40 * mm_rk b) (40 * mm_rk a) = true) : mm_roomy (mm_rm (mm_rk a)) 0 0 b := ⟨Nat.le_of_ble_eq_true h1, Nat.le_of_ble_eq_true h2, Nat.le_refl _, Nat.le_refl _⟩
theorem mm_roomd {a b : mm_M} (h1 : mm_rk b + 1 ≤ mm_rk a) (h2 : 8 + (mm_nL b + 11) + 40 * mm_rk b ≤ 40 * mm_rk a) : mm_roomy (mm_rm (mm_rk a)) 0 0 b := ⟨h1, h2, Nat.le_refl _, Nat.le_refl _⟩
/-! Math.max, Math.min -/
def mm_LM (own : String) (idx : Nat) (x : MethodName) (cc : ByteArray) : Prop := Cond.methodLink own idx x ∈ mm_GW ∧ Cond.static x ∈ mm_GW ∧ Cond.initialized "java/lang/Math" ∈ mm_GW ∧ Cond.code x cc 2 (some .int) ∈ mm_GW
theorem mm_mmax {idx : Nat} {x y : Int32} (hL : mm_LM (mm_own M) idx Lib.Math.max.name Lib.Math.max.code) (hd : decode (mm_cc M) pc = .ok (.invokestatic idx, 3)) (hR : 1 ≤ R.frames ∧ (stk.map fun v => v.category).sum + 13 ≤ R.locals ∧ cs ≤ R.cells ∧ ss ≤ R.slots) (kk : mm_W l M R cs ss S E (pc + 3) lv (.int (if x < y then y else x) :: stk) I J) : mm_W l M R cs ss S E pc lv (.int y :: .int x :: stk) I J := by
  intro p e s m args below meth c D cA ad H locs ls X hP hS hl
  obtain ⟨h1, h2, h3, h4⟩ := hL
  obtain ⟨r1, r2, r3, r4⟩ := hR
  have hts := X.2.2.2.2.1
  exact va_mmax X.1 X.2.1 (by rw [X.2.2.1, hl.choose_spec.1.1]) X.2.2.2.1 (hts _ h1) (hts _ h2) (hts _ h3) (hts _ h4) r1 (by rw [mm_sum]; exact r2) r3 r4 hd (kk p e s m args below meth c D cA ad H locs ls X hP hS hl)
theorem mm_mmin {idx : Nat} {x y : Int32} (hL : mm_LM (mm_own M) idx Lib.Math.min.name Lib.Math.min.code) (hd : decode (mm_cc M) pc = .ok (.invokestatic idx, 3)) (hR : 1 ≤ R.frames ∧ (stk.map fun v => v.category).sum + 13 ≤ R.locals ∧ cs ≤ R.cells ∧ ss ≤ R.slots) (kk : mm_W l M R cs ss S E (pc + 3) lv (.int (if y < x then y else x) :: stk) I J) : mm_W l M R cs ss S E pc lv (.int y :: .int x :: stk) I J := by
  intro p e s m args below meth c D cA ad H locs ls X hP hS hl
  obtain ⟨h1, h2, h3, h4⟩ := hL
  obtain ⟨r1, r2, r3, r4⟩ := hR
  have hts := X.2.2.2.2.1
  exact va_mmin X.1 X.2.1 (by rw [X.2.2.1, hl.choose_spec.1.1]) X.2.2.2.1 (hts _ h1) (hts _ h2) (hts _ h3) (hts _ h4) r1 (by rw [mm_sum]; exact r2) r3 r4 hd (kk p e s m args below meth c D cA ad H locs ls X hP hS hl)
theorem mm_roomM {a : mm_M} {st : List Value} (h1 : Nat.ble 1 (mm_rk a) = true) (h2 : Nat.ble ((st.map fun v => v.category).sum + 13) (40 * mm_rk a) = true) : 1 ≤ (mm_rm (mm_rk a)).frames ∧ (st.map fun v => v.category).sum + 13 ≤ (mm_rm (mm_rk a)).locals ∧ 0 ≤ (mm_rm (mm_rk a)).cells ∧ 0 ≤ (mm_rm (mm_rk a)).slots := ⟨Nat.le_of_ble_eq_true h1, Nat.le_of_ble_eq_true h2, Nat.le_refl _, Nat.le_refl _⟩
end MMD
