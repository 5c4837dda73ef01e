/-! ===== part 72: a clause's end, a word opened, what laws say (written by wip/whole/pre.py) ===== -/
section CLS
variable {tx : Nat → Nat} {L : Nat} {I Ic Im : mm_I} {Jc Jm : mm_J}
theorem tok_le (s : Nat) : tok tx L s ≤ 4 := by
  unfold tok
  split
  · have := tkn_4 (tx s)
    omega
  · omega
theorem ten_stop {s : Nat} (h : tok tx L s = 3) : s < L ∧ tx s = 59 ∧ ten tx L s = s + 1 := by
  have hs : s < L := by
    unfold tok at h
    split at h
    · assumption
    · omega
  refine ⟨hs, ?_, ?_⟩
  · unfold tok at h
    rw [if_pos hs] at h
    exact tkn_3.mp h
  · unfold ten
    rw [if_pos hs, h, if_neg (by omega)]
theorem stop_c {n s : Nat} (hn : 501 ≤ n) (h : cT tx L Ic) (hs : s ≤ L) (ha : cA tx L s Ic) (h5 : Ic 1 5 = nI 0) : ∃ I', f4_closeClause SZ n 1 Ic Jc = some (I', Jc) ∧ fR Ic I' ∧ ((tok tx L s = 3 ∧ I' 1 5 = nI 0 ∧ I' 1 6 = Ic 1 6 ∧ cA tx L (sk tx L (ten tx L s)) I') ∨ (¬ tok tx L s = 3 ∧ I' 1 5 = nI 1 ∧ I' 1 6 = nI s)) := by
  have hL := h.1
  have htk := tok_le (tx := tx) (L := L) s
  unfold f4_closeClause f4_closeClause_17 f4_closeClause_28
  rw [ha.2.1, ha.1]
  by_cases c : tok tx L s = 3
  · obtain ⟨I', k1, k2, k3, k4, k5⟩ := adv_c (Jc := Jc) hn h (ten_le tx L s) ha.2.2
    refine ⟨I', ?_, k2, Or.inl ⟨c, k4.trans h5, k5, k3⟩⟩
    rw [if_pos (show nI (tok tx L s) = 3 by rw [c]; rfl), snd_c h5, Option.bind_some, if_neg n10, k1]
    rfl
  · refine ⟨mm_up (mm_up Ic 1 5 (nI 1)) 1 6 (nI s), ?_, (fR.up (by omega)).trans (fR.up (by omega)), Or.inr ⟨c, by rw [up_o2 (by omega), up_s2], up_s2⟩⟩
    rw [if_neg (show ¬ nI (tok tx L s) = 3 from fun q => c ((nI_eq (a := tok tx L s) (b := 3) (by omega) (by omega)).mp q)), show f4_blame SZ 1 1 (nI s) Ic Jc = some (mm_up (mm_up Ic 1 5 (nI 1)) 1 6 (nI s), Jc) from blame_t (f := 1) h5, Option.bind_some]
    dsimp only
    rw [snd_f (show ¬ mm_up (mm_up Ic 1 5 (nI 1)) 1 6 (nI s) 1 5 = nI 0 by rw [up_o2 (by omega), up_s2]; decide)]
    rfl
theorem stop_x {n : Nat} (h5 : ¬ Ic 1 5 = nI 0) : f4_closeClause SZ n 1 Ic Jc = some (Ic, Jc) := by
  unfold f4_closeClause f4_closeClause_17 f4_closeClause_28
  rw [blame_f h5, Option.bind_some, snd_f h5]
  split <;> rfl
theorem stop_m {n s a : Nat} (hn : 501 ≤ n) (h : mT tx L Im) (ha : a ≤ L) (hsa : sk tx L a = s) (g9 : Im 167 29 = nI a) : ∃ r I', f11_takeStop SZ n 167 Im Jm = some (r, I', Jm) ∧ fT Im I' ∧ ((tok tx L s = 3 ∧ r = nI 0 ∧ I' 167 29 = nI (ten tx L s) ∧ I' 167 28 = Im 167 28) ∨ (¬ tok tx L s = 3 ∧ r = nI 1 ∧ I' 167 28 = nI s)) := by
  have hL := h.1
  obtain ⟨I1, k1, k2, k3, k4⟩ := here_m (Jm := Jm) hn h ha g9
  rw [hsa] at k1 k3
  unfold f11_takeStop f11_fails
  rw [k1, Option.bind_some]
  dsimp only
  rw [k3]
  by_cases c : tok tx L s = 3
  · obtain ⟨hs, h59, ht⟩ := ten_stop c
    refine ⟨nI 0, mm_up I1 167 29 (nI (s + 1)), ?_, k2.trans (fT.up (by omega)), Or.inl ⟨c, rfl, by rw [up_s2, ht], by rw [up_o2 (by omega), k4 28 (by omega)]⟩⟩
    rw [if_pos hs, if_pos (show nI (tx s) = 59 by rw [h59]; rfl), nI_1]
    rfl
  · refine ⟨nI 1, mm_up I1 167 28 (nI s), ?_, k2.trans (fT.up (by omega)), Or.inr ⟨c, rfl, up_s2⟩⟩
    have : ¬ (if s < L then nI (tx s) else m1) = 59 := by
      by_cases hs : s < L
      · obtain ⟨h8, -⟩ := h.2.2 s hs
        rw [if_pos hs]
        intro q
        have q := (nI_eq (a := tx s) (b := 59) (by omega) (by omega)).mp q
        refine c ?_
        unfold tok
        rw [if_pos hs]
        exact tkn_3.mpr q
      · rw [if_neg hs]
        decide
    rw [if_neg this]
    rfl
theorem wd_uniq {l l' : List Nat} {s : Nat} (h : wd tx L l s = true) (h' : wd tx L l' s = true) : l = l' := by
  unfold wd at h h'
  rw [Bool.and_eq_true, decide_eq_true_iff, eqK_iff] at h h'
  have e : l.length = l'.length := by omega
  refine List.ext_getElem e fun i h1 h2 => ?_
  have a := h.2 i h1
  have b := h'.2 i h2
  rw [List.getD_eq_getElem?_getD, List.getElem?_eq_getElem h1] at a
  rw [List.getD_eq_getElem?_getD, List.getElem?_eq_getElem h2] at b
  have a : tx (s + i) = l[i] := a
  have b : tx (s + i) = l'[i] := b
  exact a.symm.trans b
/-! what laws say: seen, and the values -/
def lwLo (k : Nat) : Nat := if k = 1 ∨ k = 3 then 0 else 1
def lwHi (k : Nat) : Nat := if k = 0 then 6 else if k = 1 then 3 else if k = 4 then 120 else 100
def lwDf (k : Nat) : Nat := if k = 0 then 2 else if k = 1 then 2 else if k = 2 then 25 else if k = 3 then 5 else 70
theorem bs8_bit : ∀ (a b c d e f g h : Bool) (k : Fin 8), bs8 a b c d e f g h &&& (nI 1 <<< (nI k.1 &&& nI 31)) = if p8 a b c d e f g h k.1 = true then nI 1 <<< (nI k.1 &&& nI 31) else 0 := by decide +kernel
theorem bsI_bit {S : Nat → Bool} {k : Nat} (hk : k < 8) : (bsI S 8 &&& (nI 1 <<< (nI k &&& nI 31)) = 0) = (S k = false) := by
  have e := bs8_bit (S 0) (S 1) (S 2) (S 3) (S 4) (S 5) (S 6) (S 7) ⟨k, hk⟩
  rw [bs_m S k hk] at e
  rw [bsI_8]
  refine propext ?_
  rw [e]
  cases S k
  · exact ⟨fun _ => rfl, fun _ => rfl⟩
  · exact ⟨fun q => absurd q (bit_ne ⟨k, hk⟩), fun q => Bool.noConfusion q⟩
def lrel (S : Nat → Bool) (v : Nat → Nat) (Ic Im : mm_I) : Prop := Ic 27 6 = bsI S 8 ∧ (∀ k, 6 ≤ k → S k = false) ∧ (∀ k, k < 6 → Im 189 k = if S k = true then nI (v k) else m1) ∧ (∀ k, k < 5 → Ic 27 k = nI (if S k = true then v k else lwDf k)) ∧ Ic 27 5 = b01 (S 5) ∧ (∀ k, k < 5 → S k = true → lwLo k ≤ v k ∧ v k ≤ lwHi k) ∧ (S 5 = true → v 5 = 1)
/-- one more is seen -/
theorem lrel.add {S : Nat → Bool} {v : Nat → Nat} {Ic' Im' : mm_I} {k x : Nat} (h : lrel S v Ic Im) (hk : k < 5) (hx : lwLo k ≤ x ∧ x ≤ lwHi k) (c6 : Ic' 27 6 = bsI (fun j => S j || k == j) 8) (ck : Ic' 27 k = nI x) (co : ∀ j, j ≠ 6 → j ≠ k → Ic' 27 j = Ic 27 j) (mk : Im' 189 k = nI x) (mo : ∀ j, j ≠ k → Im' 189 j = Im 189 j) : lrel (fun j => S j || k == j) (fun j => if j = k then x else v j) Ic' Im' := by
  obtain ⟨h1, h2, h3, h4, h5, h6, h7⟩ := h
  have ne : ∀ j, j ≠ k → (S j || k == j) = S j := fun j hj => by
    rw [show (k == j) = false from beq_eq_false_iff_ne.mpr (Ne.symm hj), Bool.or_false]
  have eq : (S k || k == k) = true := by rw [beq_self_eq_true, Bool.or_true]
  refine ⟨c6, fun j hj => ?_, fun j hj => ?_, fun j hj => ?_, ?_, fun j hj hS => ?_, fun hS => ?_⟩
  · show (S j || k == j) = false
    rw [ne j (by omega)]; exact h2 j hj
  · show Im' 189 j = if (S j || k == j) = true then nI (if j = k then x else v j) else m1
    by_cases e : j = k
    · subst e
      rw [eq, if_pos rfl, if_pos rfl]; exact mk
    · rw [ne j e, if_neg e, mo j e]; exact h3 j hj
  · show Ic' 27 j = nI (if (S j || k == j) = true then (if j = k then x else v j) else lwDf j)
    by_cases e : j = k
    · subst e
      rw [eq, if_pos rfl, if_pos rfl]; exact ck
    · rw [ne j e, if_neg e, co j (by omega) e]; exact h4 j hj
  · show Ic' 27 5 = b01 (S 5 || k == 5)
    rw [ne 5 (by omega), co 5 (by omega) (by omega)]; exact h5
  · have hS : (S j || k == j) = true := hS
    show lwLo j ≤ (if j = k then x else v j) ∧ (if j = k then x else v j) ≤ lwHi j
    by_cases e : j = k
    · subst e
      rw [if_pos rfl]; exact hx
    · rw [ne j e] at hS
      rw [if_neg e]; exact h6 j hj hS
  · have hS : (S 5 || k == 5) = true := hS
    rw [ne 5 (by omega)] at hS
    show (if 5 = k then x else v 5) = 1
    rw [if_neg (by omega)]; exact h7 hS
theorem lrel.lent {S : Nat → Bool} {v : Nat → Nat} {Ic' Im' : mm_I} (h : lrel S v Ic Im) (c6 : Ic' 27 6 = bsI (fun j => S j || 5 == j) 8) (ck : Ic' 27 5 = 1) (co : ∀ j, j < 5 → Ic' 27 j = Ic 27 j) (mk : Im' 189 5 = 1) (mo : ∀ j, j ≠ 5 → Im' 189 j = Im 189 j) : lrel (fun j => S j || 5 == j) (fun j => if j = 5 then 1 else v j) Ic' Im' := by
  obtain ⟨h1, h2, h3, h4, h5, h6, h7⟩ := h
  have ne : ∀ j, j ≠ 5 → (S j || 5 == j) = S j := fun j hj => by
    rw [show (5 == j) = false from beq_eq_false_iff_ne.mpr (Ne.symm hj), Bool.or_false]
  have eq : (S 5 || 5 == 5) = true := by rw [beq_self_eq_true, Bool.or_true]
  refine ⟨c6, fun j hj => ?_, fun j hj => ?_, fun j hj => ?_, ?_, fun j hj hS => ?_, fun _ => rfl⟩
  · show (S j || 5 == j) = false
    rw [ne j (by omega)]; exact h2 j hj
  · show Im' 189 j = if (S j || 5 == j) = true then nI (if j = 5 then 1 else v j) else m1
    by_cases e : j = 5
    · subst e
      rw [eq, if_pos rfl, if_pos rfl]; exact mk
    · rw [ne j e, if_neg e, mo j e]; exact h3 j hj
  · show Ic' 27 j = nI (if (S j || 5 == j) = true then (if j = 5 then 1 else v j) else lwDf j)
    rw [ne j (by omega), if_neg (show ¬ j = 5 by omega), co j hj]; exact h4 j hj
  · show Ic' 27 5 = b01 (S 5 || 5 == 5)
    rw [eq]; exact ck
  · have hS : (S j || 5 == j) = true := hS
    show lwLo j ≤ (if j = 5 then 1 else v j) ∧ (if j = 5 then 1 else v j) ≤ lwHi j
    rw [ne j (by omega)] at hS
    rw [if_neg (show ¬ j = 5 by omega)]; exact h6 j hj hS
/-- what a class's law reader changes -/
def fL (I I' : mm_I) : Prop := (∀ r, r ≠ 1 → r ≠ 27 → I' r = I r) ∧ ∀ k, (k < 2 ∨ 6 < k) → I' 1 k = I 1 k
theorem fR.l {I I' : mm_I} (h : fR I I') : fL I I' := ⟨fun r h1 _ => h.1 r h1, h.2⟩
theorem fL.trans {I I1 I2 : mm_I} (h : fL I I1) (g : fL I1 I2) : fL I I2 := ⟨fun r h1 h2 => (g.1 r h1 h2).trans (h.1 r h1 h2), fun k hk => (g.2 k hk).trans (h.2 k hk)⟩
theorem fL.refl {I : mm_I} : fL I I := fR.refl.l
theorem fL.up {I : mm_I} {k : Nat} {x : Int32} : fL I (mm_up I 27 k x) := ⟨fun r _ h2 => mm_up_o h2, fun k _ => by rw [mm_up_o (by omega)]⟩
theorem cT.l {I I' : mm_I} (h : cT tx L I) (f : fL I I') : cT tx L I' := h.c (f.2 1 (by omega)) (f.1 3 (by omega) (by omega))
/-- a word opens a clause, in the class -/
theorem opens_n {n r s k : Nat} {l : List Nat} {x : Int32} (hn : 501 ≤ n) (h : cT tx L Ic) (hs : s ≤ L) (ha : cA tx L s Ic) (hr : isC r l) (hl : 0 < l.length ∧ l.length ≤ 9) (h256 : ∀ k, k < l.length → l.getD k 0 < 256) (hw : wd tx L l s = false) : f7_opens SZ n 27 1 r x Ic Jc = some (0, Ic, Jc) := by
  unfold f7_opens
  rw [sees_c hn h hs ha hr hl h256, hw]
  rfl
theorem opens_y {n r s k : Nat} {l : List Nat} {x : Int32} {S : Nat → Bool} (hn : 501 ≤ n) (h : cT tx L Ic) (hs : s ≤ L) (ha : cA tx L s Ic) (h5 : Ic 1 5 = nI 0) (hr : isC r l) (hl : 0 < l.length ∧ l.length ≤ 9) (h256 : ∀ k, k < l.length → l.getD k 0 < 256) (hw : wd tx L l s = true) (hk : k < 8) (hx : x = nI 1 <<< (nI k &&& nI 31)) (h6 : Ic 27 6 = bsI S 8) : ∃ I', f7_opens SZ n 27 1 r x Ic Jc = some (1, I', Jc) ∧ fL Ic I' ∧ (∀ j, j ≠ 6 → I' 27 j = Ic 27 j) ∧ I' 27 6 = bsI (fun j => S j || k == j) 8 ∧ cA tx L (sk tx L (s + l.length)) I' ∧ ((S k = false ∧ I' 1 5 = nI 0 ∧ I' 1 6 = Ic 1 6) ∨ (S k = true ∧ I' 1 5 = nI 3 ∧ I' 1 6 = nI s)) := by
  have hL := h.1
  obtain ⟨w1, w2, w3, w4⟩ := wd_tok hs hl.1 hw
  unfold f7_opens f7_opens_28
  rw [sees_c hn h hs ha hr hl h256, hw, Option.bind_some, if_neg (show ¬ b01 true = 0 by decide), h6, hx]
  have el : s + l.length ≤ L := by rw [← w2]; exact ten_le tx L s
  cases hS : S k
  · have f1 : fL Ic (mm_up Ic 27 6 (bsI (fun j => S j || k == j) 8)) := fL.up
    obtain ⟨I', k1, k2, k3, k4, k5⟩ := adv_c (Jc := Jc) (I := mm_up Ic 27 6 (bsI (fun j => S j || k == j) 8)) hn (h.l f1) el (by rw [up_o2 (by omega), ha.2.2, w2])
    refine ⟨I', ?_, f1.trans k2.l, fun j hj => by rw [k2.1 27 (by omega), up_o2 (by omega)], by rw [k2.1 27 (by omega), up_s2], k3, Or.inl ⟨rfl, by rw [k4, up_o2 (by omega)]; exact h5, by rw [k5, up_o2 (by omega)]⟩⟩
    rw [if_pos (by rw [bsI_bit hk]; exact hS), bsI_one hk, k1]
    rfl
  · have e27 : mm_up (mm_up Ic 1 5 (nI 3)) 1 6 (nI s) 27 6 = bsI S 8 := by rw [up_o2 (by omega), up_o2 (by omega)]; exact h6
    have f0 : fL Ic (mm_up (mm_up Ic 1 5 (nI 3)) 1 6 (nI s)) := ((fR.up (by omega)).trans (fR.up (by omega))).l
    have f1 : fL Ic (mm_up (mm_up (mm_up Ic 1 5 (nI 3)) 1 6 (nI s)) 27 6 (bsI (fun j => S j || k == j) 8)) := f0.trans fL.up
    obtain ⟨I', k1, k2, k3, k4, k5⟩ := adv_c (Jc := Jc) (I := mm_up (mm_up (mm_up Ic 1 5 (nI 3)) 1 6 (nI s)) 27 6 (bsI (fun j => S j || k == j) 8)) hn (h.l f1) el (by rw [up_o2 (by omega), up_o2 (by omega), up_o2 (by omega), ha.2.2, w2])
    refine ⟨I', ?_, f1.trans k2.l, fun j hj => by rw [k2.1 27 (by omega), up_o2 (by omega), up_o2 (by omega), up_o2 (by omega)], by rw [k2.1 27 (by omega), up_s2], k3, Or.inr ⟨rfl, by rw [k4, up_o2 (by omega), up_o2 (by omega), up_s2], by rw [k5, up_o2 (by omega), up_s2]⟩⟩
    rw [if_neg (show ¬ bsI S 8 &&& (nI 1 <<< (nI k &&& nI 31)) = 0 by rw [bsI_bit hk, hS]; decide), ha.1, show f4_blame SZ 1 3 (nI s) Ic Jc = some (mm_up (mm_up Ic 1 5 (nI 3)) 1 6 (nI s), Jc) from blame_t (f := 3) h5, Option.bind_some]
    dsimp only
    rw [e27, bsI_one hk, k1]
    rfl
end CLS
