/-! ===== part 19: makers with named shapes; shapes checked by program ===== -/
def mm_zero (n : Nat) (I : mm_I) : Prop := ∀ q, n ≤ q → I q = fun _ => 0
def mm_zeroJ (n : Nat) (J : mm_J) : Prop := ∀ q, n ≤ q → J q = fun _ => 0
theorem mm_zero.up {n : Nat} {I : mm_I} {r k : Nat} {x : Int32} (h : mm_zero n I) (hr : Nat.blt r n = true) : mm_zero n (mm_up I r k x) := by
  intro q hq
  have := Nat.blt_eq.mp hr
  rw [mm_up_o (by omega)]
  exact h q hq
theorem mm_zeroJ.up {n : Nat} {J : mm_J} {r k : Nat} {x : Int64} (h : mm_zeroJ n J) (hr : Nat.blt r n = true) : mm_zeroJ n (mm_upJ J r k x) := by
  intro q hq
  have := Nat.blt_eq.mp hr
  rw [mm_upJ_o (by omega)]
  exact h q hq
theorem mm_zero.mono {n n2 : Nat} {I : mm_I} (h : mm_zero n I) (hn : Nat.ble n n2 = true) : mm_zero n2 I := fun q hq => h q (Nat.le_trans (Nat.le_of_ble_eq_true hn) hq)
theorem mm_zeroJ.mono {n n2 : Nat} {J : mm_J} (h : mm_zeroJ n J) (hn : Nat.ble n n2 = true) : mm_zeroJ n2 J := fun q hq => h q (Nat.le_trans (Nat.le_of_ble_eq_true hn) hq)
def mm_cut (n : Nat) (I : mm_I) : mm_I := fun r => if r < n then I r else fun _ => 0
def mm_cutJ (n : Nat) (J : mm_J) : mm_J := fun r => if r < n then J r else fun _ => 0
theorem mm_cut_zero (n : Nat) (I : mm_I) : mm_zero n (mm_cut n I) := fun q hq => by unfold mm_cut; rw [if_neg (by omega)]
theorem mm_cutJ_zero (n : Nat) (J : mm_J) : mm_zeroJ n (mm_cutJ n J) := fun q hq => by unfold mm_cutJ; rw [if_neg (by omega)]
theorem mm_some_of {α : Type} {x : Option α} {d : α} (h : x.isSome = true) : x = some (x.getD d) := by
  cases x with
  | none => cases h
  | some a => rfl
def mm_wfb (S : mm_Sh) (c : Nat) (f : Option (Nat ⊕ Nat)) : Bool := match f with
  | some (.inr 0) => Nat.beq c 0
  | some (.inr 1) => Nat.beq c 1
  | some (.inl q) => match S[q]? with
    | some (.inl o) => Nat.ble 50 c && Nat.blt c 100 && Nat.beq o.1 (c - 50)
    | some (.inr o) => Nat.ble 100 c && Nat.beq o.1 (c - 100) && mm_full o.2
    | none => false
  | _ => false
def mm_WTb (S : mm_Sh) : Bool := S.all (fun sh => match sh with
  | .inl _ => true
  | .inr o => !(mm_full o.2) || (List.range (mm_kd o.1).length).all (fun k => mm_wfb S ((mm_kd o.1).getD k 0) (o.2[k]?)))
theorem mm_wfb_ok {S : mm_Sh} {c : Nat} {f : Option (Nat ⊕ Nat)} (h : mm_wfb S c f = true) : mm_wf S c f := by
  unfold mm_wfb at h
  unfold mm_wf
  split at h
  · have := Nat.eq_of_beq_eq_true h
    refine ⟨fun _ => rfl, fun z => by omega, fun z => by omega, fun z => by omega⟩
  · have := Nat.eq_of_beq_eq_true h
    refine ⟨fun z => by omega, fun _ => rfl, fun z => by omega, fun z => by omega⟩
  · rename_i q
    split at h
    · rename_i o ho
      rw [Bool.and_eq_true, Bool.and_eq_true] at h
      obtain ⟨⟨h1, h2⟩, h3⟩ := h
      have h1 := Nat.le_of_ble_eq_true h1
      have h2 := Nat.blt_eq.mp h2
      have h3 := Nat.eq_of_beq_eq_true h3
      refine ⟨fun z => by omega, fun z => by omega, fun _ _ => ⟨q, o.2, rfl, ?_⟩, fun z => by omega⟩
      rw [ho, ← h3]
    · rename_i o ho
      rw [Bool.and_eq_true, Bool.and_eq_true] at h
      obtain ⟨⟨h1, h2⟩, h3⟩ := h
      have h1 := Nat.le_of_ble_eq_true h1
      have h2 := Nat.eq_of_beq_eq_true h2
      refine ⟨fun z => by omega, fun z => by omega, fun z => by omega, fun _ => ⟨q, rfl, o.2, ?_, h3⟩⟩
      rw [ho, ← h2]
    · cases h
  · cases h
theorem mm_WTb_ok {S : mm_Sh} (h : mm_WTb S = true) : mm_WT S := by
  intro r ci fs hs hf k c hk
  have h1 := List.all_eq_true.mp h _ (List.mem_of_getElem? hs)
  have h2 : (!(mm_full fs) || (List.range (mm_kd ci).length).all (fun k => mm_wfb S ((mm_kd ci).getD k 0) (fs[k]?))) = true := h1
  rw [hf] at h2
  have h3 : (List.range (mm_kd ci).length).all (fun k => mm_wfb S ((mm_kd ci).getD k 0) (fs[k]?)) = true := by simpa using h2
  have hkl := (List.getElem?_eq_some_iff.mp hk).1
  have h4 := List.all_eq_true.mp h3 k (List.mem_range.mpr hkl)
  have e : (mm_kd ci).getD k 0 = c := by rw [List.getD_eq_getElem?_getD, hk]; rfl
  have h5 : mm_wfb S ((mm_kd ci).getD k 0) (fs[k]?) = true := h4
  rw [e] at h5
  exact mm_wfb_ok h5
section MMZ
variable {l : Launch} {M : mm_M} {R : Room} {cs ss : Nat} {S S' : mm_Sh} {E : mm_VE} {pc : Nat} {lv : List (Nat × Value)} {stk : List Value} {I : mm_I} {J : mm_J}
theorem mv_cong {I2 : mm_I} {J2 : mm_J} (hI : ∀ r, r < S.length → I2 r = I r) (hJ : ∀ r, r < S.length → J2 r = J r) (k : mm_V l M R S E pc lv stk I2 J2 cs ss) : mm_V l M R S E pc lv stk I J cs ss := by
  intro p e s m args below meth c D cA ad A H locs ls X hP hS hl
  have e1 : mm_w cA ad S I J = mm_w cA ad S I2 J2 := by
    apply List.ext_getElem?
    intro i
    rw [mm_w_get, mm_w_get]
    cases hs : S[i]? with
    | none => rfl
    | some sh =>
      have hi := (List.getElem?_eq_some_iff.mp hs).1
      have : mm_e cA ad I J i sh = mm_e cA ad I2 J2 i sh := by
        cases sh <;> simp [mm_e, hI i hi, hJ i hi]
      simp [this]
  rw [e1] at hP
  exact k p e s m args below meth c D cA ad A H locs ls X hP hS hl
theorem mv_cut (n : Nat) (hn : S.length = n) (k : mm_V l M R S E pc lv stk (mm_cut n I) (mm_cutJ n J) cs ss) : mm_V l M R S E pc lv stk I J cs ss := by
  subst hn
  exact mv_cong (fun r hr => by unfold mm_cut; rw [if_pos hr]) (fun r hr => by unfold mm_cutJ; rw [if_pos hr]) k
theorem mv_new2 {n0 idx ci N : Nat} (q : Nat) {C : String} (hM : mm_mono n0 E) (hlen : S.length = q) (hn0 : Nat.ble n0 q = true) (hsm : Nat.blt q 1000000 = true) (hcd : mm_closed q S = true) (hC : mm_NC (mm_own M) idx ci C N) (hI : mm_zero q I) (hJ : mm_zeroJ q J) (hd : decode (mm_cc M) pc = .ok (.new idx, 3)) (hcs : cs + 1 ≤ R.cells) (hss : ss + N ≤ R.slots) (hrl : lv.all (fun x => mm_oldv q x.2) = true) (hrs : stk.all (mm_oldv q) = true) (hS' : S ++ [.inr (ci, mm_born ci)] = S') (k : mm_V l M R S' E (pc + 3) lv (.ref q :: stk) I J (cs + 1) (ss + N)) : mm_V l M R S E pc lv stk I J cs ss := by
  subst hlen; subst hS'
  exact mv_new hM hn0 hsm hcd hC (hI _ (Nat.le_refl _)) (hJ _ (Nat.le_refl _)) hd hcs hss hrl hrs k
theorem mv_newa2 {n0 kd n : Nat} (q : Nat) {at0 : ArrayType} {v : Int32} (hM : mm_mono n0 E) (hlen : S.length = q) (hn0 : Nat.ble n0 q = true) (hsm : Nat.blt q 1000000 = true) (hcd : mm_closed q S = true) (hat : (kd = 0 ∧ at0 = .int) ∨ (kd = 1 ∧ at0 = .boolean)) (harr : Cond.arrayClass (newarray.typeOf at0) ∈ mm_GW) (hI : mm_zero q I) (hv0 : ¬ v < 0) (hv : v.toNatClampNeg = n) (hbig : n * 4 ≤ 536870912) (hd : decode (mm_cc M) pc = .ok (.newarray at0, 2)) (hcs : cs + 1 ≤ R.cells) (hss : ss + n ≤ R.slots) (hrl : lv.all (fun x => mm_oldv q x.2) = true) (hrs : stk.all (mm_oldv q) = true) (hS' : S ++ [.inl (kd, n)] = S') (k : mm_V l M R S' E (pc + 2) lv (.ref q :: stk) I J (cs + 1) (ss + n)) : mm_V l M R S E pc lv (.int v :: stk) I J cs ss := by
  subst hlen; subst hS'
  exact mv_newa hM hn0 hsm hcd hat harr (hI _ (Nat.le_refl _)) hv0 hv hbig hd hcs hss hrl hrs k
theorem mv_putR2 {r ci k idx q : Nat} {ty : FieldType} (hF : mm_FC M idx ci k ty) (hty : (∃ n, ty = .object n) ∨ ∃ t, ty = .array t) (hd : decode (mm_cc M) pc = .ok (.putfield idx, 3)) (hr : ∃ fs, S[r]? = some (.inr (ci, fs)) ∧ k < fs.length) (hS' : mm_setf S r k q = S') (kk : mm_V l M R S' E (pc + 3) lv stk I J cs ss) : mm_V l M R S E pc lv (.ref q :: .ref r :: stk) I J cs ss := by
  subst hS'
  exact mv_putR hF hty hd hr kk
end MMZ
