/-! ===== part 80: a town's person, both sides (written by wip/whole/pre.py) ===== -/
section PRS
variable {tx : Nat → Nat} {L : Nat} {I I' Ic Im : mm_I} {Jc Jm : mm_J}
theorem isF63 : isF 63 := Or.inr (Or.inr (Or.inl rfl))
def tp1 (n : Nat) (p : Int32) (I : mm_I) (J : mm_J) : Option (mm_I × mm_J) := (f4_number SZ n 1 0 99 I J).bind fun o2 => (f6_put SZ 64 p o2.1 o2.2.1 o2.2.2).bind fun o3 => f9_tellPerson_52 SZ n n 146 p 0 o3.1 o3.2
theorem tp18 {n : Nat} {c : Int32} {I : mm_I} {J : mm_J} : f9_tellPerson_18 SZ n 146 146 c I J = (f9_openClause SZ n 146 c I J).bind fun o1 => tp1 n (o1.1 15 6) o1.1 o1.2 := by
  unfold f9_tellPerson_18
  simp only [zr]
  rfl
theorem t91 {n : Nat} {p : Int32} {I : mm_I} {J : mm_J} : f9_tellPerson_91 SZ n 146 p I J = (f1_bestOf SZ n 63 p (mm_up I 63 8 ((I 63 8) ||| ((1 : Int32) <<< (p &&& 31)))) J).bind fun o1 => (f6_put SZ 70 p o1 (mm_up I 63 8 ((I 63 8) ||| ((1 : Int32) <<< (p &&& 31)))) J).bind fun o2 => some (mm_up o2.1 15 6 ((o2.1 15 6) + 1), o2.2) := by
  unfold f9_tellPerson_91
  simp only [zr]
theorem t52b {n : Nat} {rec : Nat → Int32 → Int32 → mm_I → mm_J → Option (mm_I × mm_J)} {p i : Int32} {I : mm_I} {J : mm_J} : f9_tellPerson_52_b SZ n rec 146 p i I J = if 500 ≤ i then (f9_tellPerson_91 SZ n 146 p I J) else ((f4_isSound SZ 1 I J).bind fun o2 => if o2 = 0 then (f9_tellPerson_91 SZ n 146 p I J) else (if (I 1 2) = 2 then ((f9_tellSkill SZ n 146 p I J).bind fun o5 => rec 146 p (i + 1) o5.1 o5.2) else (f9_tellPerson_91 SZ n 146 p I J))) := by
  unfold f9_tellPerson_52_b
  simp only [zr]
theorem t47 {n : Nat} {p t : Int32} {I : mm_I} {J : mm_J} : f9_tellSkill_47 SZ n 146 p t I J = (f4_number SZ n 1 1 100 I J).bind fun o1 => (f1_setSkill SZ 63 p t o1.1 o1.2.1 o1.2.2).bind fun o2 => some (o2.1, o2.2) := by
  unfold f9_tellSkill_47
  simp only [zr]
theorem tsk {n : Nat} {p : Int32} {I : mm_I} {J : mm_J} : f9_tellSkill SZ n 146 p I J = (f4_number SZ n 1 0 ((I 15 5) - 1) I J).bind fun o1 => (f1_knows SZ 63 p o1.1 o1.2.1 o1.2.2).bind fun o2 => if o2 = 0 then (f9_tellSkill_47 SZ n 146 p o1.1 o1.2.1 o1.2.2) else ((f4_blame SZ 1 4 (I 1 3) o1.2.1 o1.2.2).bind fun o4 => f9_tellSkill_47 SZ n 146 p o1.1 o4.1 o4.2) := by
  unfold f9_tellSkill
  simp only [zr]
theorem tset {p t x : Int32} {I : mm_I} {J : mm_J} : f1_setSkill SZ 63 p t x I J = (f10_cell SZ p t I J).bind fun o1 => (f6_put SZ 66 o1 x I J).bind fun o2 => some (o2.1, o2.2) := by
  unfold f1_setSkill
  simp only [zr]
theorem pT64 : mm_rf SZ 64 0 = 65 ∧ mm_al SZ 65 = 8 := by decide +kernel
theorem pT66 : mm_rf SZ 66 0 = 67 ∧ mm_al SZ 67 = 48 := by decide +kernel
theorem pT70 : mm_rf SZ 70 0 = 71 ∧ mm_al SZ 71 = 8 := by decide +kernel
theorem al186 : mm_al SZ 186 = 8 ∧ mm_rf SZ 167 37 = 186 := by decide +kernel
theorem al187 : mm_al SZ 187 = 48 ∧ mm_rf SZ 167 38 = 187 := by decide +kernel
section FAULTY2
variable {n f pl P : Nat}
theorem sk_any {p t : Int32} {I : mm_I} {J : mm_J} : ∃ z, f1_skillOf SZ 63 p t I J = some z := by
  obtain ⟨c, hc⟩ := cell_any (p := p) (t := t) (I := I) (J := J)
  unfold f1_skillOf
  simp only [zr]
  rw [hc, Option.bind_some, f6_at_eq (by rw [pT66.1, pT66.2]; omega)]
  exact ⟨_, rfl⟩
theorem best_all {p : Int32} {I : mm_I} {J : mm_J} : ∀ (d k : Nat) (b : Int32), k ≤ 6 → 6 < k + d → ∃ r, f1_bestOf_4 SZ n d 63 p b (nI k) I J = some r := by
  intro d
  induction d with
  | zero => intro k b h1 h2; omega
  | succ d ih =>
    intro k b h1 h2
    have cS : f1_bestOf_4 SZ n (d + 1) 63 p b (nI k) I J = f1_bestOf_4_b SZ n (f1_bestOf_4 SZ n d) 63 p b (nI k) I J := rfl
    rw [cS]
    unfold f1_bestOf_4_b f1_bestOf_27
    by_cases c : k = 6
    · subst c
      exact ⟨_, if_pos (by decide)⟩
    · obtain ⟨z1, e1⟩ := sk_any (p := p) (t := nI k) (I := I) (J := J)
      obtain ⟨z2, e2⟩ := sk_any (p := p) (t := b) (I := I) (J := J)
      rw [if_neg (show ¬ (6 : Int32) ≤ nI k from nI_ge (b := 6) (by omega) (by omega)), e1, Option.bind_some, e2, Option.bind_some, nI_1]
      split
      · exact ih (k + 1) b (by omega) (by omega)
      · exact ih (k + 1) (nI k) (by omega) (by omega)
theorem x_91 {p : Int32} (hn : 501 ≤ n) (h : XF tx L f pl I) : ∃ I', f9_tellPerson_91 SZ n 146 p I Jc = some (I', Jc) ∧ fD I I' ∧ XF tx L f pl I' := by
  have h1 : XF tx L f pl (mm_up I 63 8 ((I 63 8) ||| ((1 : Int32) <<< (p &&& 31)))) := h.up (by omega)
  obtain ⟨r, hr⟩ := best_all (n := n) (p := p) (I := mm_up I 63 8 ((I 63 8) ||| ((1 : Int32) <<< (p &&& 31)))) (J := Jc) n 0 m1 (by omega) (by omega)
  obtain ⟨I1, a1, a2, a3⟩ := put_any (Jc := Jc) (i := p) (x := r) pT70.1 pT70.2 (by omega) (by omega) h1
  refine ⟨mm_up I1 15 6 ((I1 15 6) + 1), ?_, (fD.up (r := 63) (by omega)).trans (a2.trans (fD.up (r := 15) (by omega))), a3.up (by omega)⟩
  rw [t91]
  unfold f1_bestOf
  rw [show f1_bestOf_4 SZ n n 63 p (-1) 0 (mm_up I 63 8 ((I 63 8) ||| ((1 : Int32) <<< (p &&& 31)))) Jc = some r from hr, Option.bind_some, a1]
  rfl
theorem x_52 {i p : Int32} {d : Nat} (hn : 501 ≤ n) (hd : 0 < d) (h : XF tx L f pl I) : ∃ I', f9_tellPerson_52 SZ n d 146 p i I Jc = some (I', Jc) ∧ fD I I' ∧ XF tx L f pl I' := by
  obtain ⟨d, rfl⟩ : ∃ d', d = d' + 1 := ⟨d - 1, by omega⟩
  obtain ⟨I', a1, a2, a3⟩ := x_91 (Jc := Jc) (p := p) hn h
  refine ⟨I', ?_, a2, a3⟩
  have cS : f9_tellPerson_52 SZ n (d + 1) 146 p i I Jc = f9_tellPerson_52_b SZ n (f9_tellPerson_52 SZ n d) 146 p i I Jc := rfl
  rw [cS, t52b, snd_f h.ne, Option.bind_some, if_pos rfl, a1, ite_self]
theorem x_tp1 {p : Int32} (hn : 501 ≤ n) (h : XF tx L f pl I) : ∃ I', tp1 n p I Jc = some (I', Jc) ∧ fD I I' ∧ XF tx L f pl I' := by
  obtain ⟨I1, a1, a2, a3⟩ := put_any (Jc := Jc) (i := p) (x := m1) pT64.1 pT64.2 (by omega) (by omega) h
  obtain ⟨I2, b1, b2, b3⟩ := x_52 (Jc := Jc) (p := p) (i := 0) (d := n) hn (by omega) a3
  refine ⟨I2, ?_, a2.trans b2, b3⟩
  unfold tp1
  rw [x_num hn h, Option.bind_some]
  dsimp only
  rw [a1, Option.bind_some]
  exact b1
theorem x_47 {t : Int32} {p : Int32} (hn : 501 ≤ n) (h : XF tx L f pl I) : ∃ I', f9_tellSkill_47 SZ n 146 p t I Jc = some (I', Jc) ∧ fD I I' ∧ XF tx L f pl I' := by
  obtain ⟨c, hc⟩ := cell_any (p := p) (t := t) (I := I) (J := Jc)
  obtain ⟨I1, a1, a2, a3⟩ := put_any (Jc := Jc) (i := c) (x := m1) pT66.1 pT66.2 (by omega) (by omega) h
  refine ⟨I1, ?_, a2, a3⟩
  rw [t47, x_num hn h, Option.bind_some]
  dsimp only
  rw [tset, hc, Option.bind_some, a1]
  rfl
end FAULTY2
/-- a person under way -/
def dW (T P l : Nat) (Ic : mm_I) (Jc : mm_J) (Im : mm_I) : Prop := (T ≤ 6 ∧ P < 8 ∧ l ≤ 40 ∧ Ic 15 5 = nI T ∧ Im 167 34 = nI T ∧ Ic 15 6 = nI P ∧ Im 167 36 = nI (P + 1) ∧ Ic 146 3 = nI l ∧ Im 167 39 = nI l) ∧ dC T Ic Im ∧ dS T (P + 1) Ic Im ∧ dA (P + 1) Ic Im ∧ dB P Ic ∧ dF P Ic ∧ dL (P + 1) Ic Jc Im
/-- a person's end -/
theorem pers_end {n T P l : Nat} (hn : 501 ≤ n) (h : dW T P l Ic Jc Im) : ∃ Ic', f9_tellPerson_91 SZ n 146 (nI P) Ic Jc = some (Ic', Jc) ∧ fD Ic Ic' ∧ Ic' 1 = Ic 1 ∧ dR T (P + 1) l Ic' Jc Im := by
  obtain ⟨⟨t1, t2, t3, c5, m4, c6, m6, c3, m9⟩, rC, rS, rA, rB, rF', rL⟩ := h
  have sk0 : ∀ t, t < 6 → nI 0 ≤ (mm_up Ic 63 8 ((Ic 63 8) ||| ((1 : Int32) <<< (nI P &&& 31)))) (63 + 4) (6 * P + t) := fun t ht => by
    obtain ⟨s, s1, s2, -⟩ := rS.2 P t (by omega) ht
    rw [mm_up_o (by omega), show 63 + 4 = 67 from rfl, s2]
    exact nI_le (Nat.zero_le s) (by omega)
  have eb := cbest_eq (n := n) (F := 63) (p := P) (I := mm_up Ic 63 8 ((Ic 63 8) ||| ((1 : Int32) <<< (nI P &&& 31)))) (J := Jc) (by omega) isF63 t2 sk0
  have pp : ∀ x, f6_put SZ 70 (nI P) x (mm_up Ic 63 8 ((Ic 63 8) ||| ((1 : Int32) <<< (nI P &&& 31)))) Jc = some (mm_up (mm_up Ic 63 8 ((Ic 63 8) ||| ((1 : Int32) <<< (nI P &&& 31)))) 71 P x, Jc) := fun x => by
    rw [f6_put_eq (by rw [pT70.1, pT70.2]; omega), pT70.1, pT70.2, wr_at t2 (by omega)]
  obtain ⟨b, hb⟩ : ∃ b, b = bestS (fun t => (mm_up Ic 63 8 ((Ic 63 8) ||| ((1 : Int32) <<< (nI P &&& 31)))) (63 + 4) (6 * P + t)) 6 := ⟨_, rfl⟩
  rw [← hb] at eb
  have eC : f9_tellPerson_91 SZ n 146 (nI P) Ic Jc = some (mm_up (mm_up (mm_up Ic 63 8 ((Ic 63 8) ||| ((1 : Int32) <<< (nI P &&& 31)))) 71 P b) 15 6 (nI (P + 1)), Jc) := by
    rw [t91, eb, Option.bind_some, pp, Option.bind_some]
    dsimp only
    rw [mm_up_o (show (15 : Nat) ≠ 71 by omega), mm_up_o (show (15 : Nat) ≠ 63 by omega), c6, nI_1]
  have row : ∀ r, r ≠ 15 → r ≠ 63 → r ≠ 71 → (mm_up (mm_up (mm_up Ic 63 8 ((Ic 63 8) ||| ((1 : Int32) <<< (nI P &&& 31)))) 71 P b) 15 6 (nI (P + 1))) r = Ic r := fun r h1 h2 h3 => by
    rw [mm_up_o h1, mm_up_o h3, mm_up_o h2]
  refine ⟨_, eC, (fD.up (by omega)).trans ((fD.up (by omega)).trans (fD.up (by omega))), row 1 (by omega) (by omega) (by omega), ⟨t1, by omega, t3, ?_, m4, up_s2, m6, ?_, m9⟩, ?_, ?_, ?_, ?_, ?_, ?_⟩
  · rw [up_o2 (by omega), mm_up_o (by omega), mm_up_o (by omega)]; exact c5
  · rw [row 146 (by omega) (by omega) (by omega)]; exact c3
  · exact rC.c (row 17 (by omega) (by omega) (by omega)) (row 19 (by omega) (by omega) (by omega)) (row 21 (by omega) (by omega) (by omega)) (row 23 (by omega) (by omega) (by omega)) rfl
  · exact rS.c (row 67 (by omega) (by omega) (by omega)) rfl
  · exact rA.c (row 65 (by omega) (by omega) (by omega)) rfl
  · intro p hp
    rw [row 67 (by omega) (by omega) (by omega), mm_up_o (by omega)]
    by_cases e : p = P
    · subst e
      rw [up_s2, hb, mm_up_o (by omega)]
    · rw [up_o2 (by omega), mm_up_o (by omega)]
      exact rB p (by omega)
  · obtain ⟨f1, f2, f3, f4, f5, f6⟩ := rF'
    refine ⟨?_, ?_, ?_, ?_, ?_, ?_⟩
    · rw [mm_up_o (by omega), mm_up_o (by omega), up_s2, f1]
      refine (bsI_one (P := fun p => decide (p < P)) (k := P) t2).trans ?_
      congr 1
      funext j
      by_cases e : j = P
      · subst e
        rw [beq_self_eq_true, Bool.or_true, decide_eq_true (by omega)]
      · rw [show (P == j) = false from beq_eq_false_iff_ne.mpr (Ne.symm e), Bool.or_false]
        exact decide_eq_decide.mpr (by omega)
    · rw [mm_up_o (by omega), mm_up_o (by omega), up_o2 (by omega)]; exact f2
    · rw [mm_up_o (by omega), mm_up_o (by omega), up_o2 (by omega)]; exact f3
    · rw [mm_up_o (by omega), mm_up_o (by omega), up_o2 (by omega)]; exact f4
    · rw [row 69 (by omega) (by omega) (by omega)]; exact f5
    · rw [row 73 (by omega) (by omega) (by omega), row 77 (by omega) (by omega) (by omega), row 79 (by omega) (by omega) (by omega)]; exact f6
  · exact rL.c (row 25 (by omega) (by omega) (by omega)) rfl rfl
/-- one more skill -/
theorem dW.skill {T P l t v : Nat} {Ic' Im' : mm_I} (h : dW T P l Ic Jc Im) (ht : t < T) (hv : v ≤ 100) (c : ∀ r, r ≠ 1 → r ≠ 67 → Ic' r = Ic r) (m : ∀ r, r ≠ 167 → r ≠ 187 → Im' r = Im r) (k : ∀ k, k ≠ 28 → k ≠ 29 → k ≠ 31 → k ≠ 32 → k ≠ 33 → Im' 167 k = Im 167 k) (e1 : Ic' 67 (6 * P + t) = nI v) (e2 : Im' 187 (6 * P + t) = nI v) (o1 : ∀ j, j ≠ 6 * P + t → Ic' 67 j = Ic 67 j) (o2 : ∀ j, j ≠ 6 * P + t → Im' 187 j = Im 187 j) : dW T P l Ic' Jc Im' := by
  obtain ⟨⟨t1, t2, t3, c5, m4, c6, m6, c3, m9⟩, rC, rS, rA, rB, rF', rL⟩ := h
  have r2 : ∀ r, r ≠ 1 → r ≠ 67 → ∀ k, Ic' r k = Ic r k := fun r h1 h2 k => by rw [c r h1 h2]
  refine ⟨⟨t1, t2, t3, by rw [c 15 (by omega) (by omega)]; exact c5, by rw [k 34 (by omega) (by omega) (by omega) (by omega) (by omega)]; exact m4, by rw [c 15 (by omega) (by omega)]; exact c6, by rw [k 36 (by omega) (by omega) (by omega) (by omega) (by omega)]; exact m6, by rw [c 146 (by omega) (by omega)]; exact c3, by rw [k 39 (by omega) (by omega) (by omega) (by omega) (by omega)]; exact m9⟩, rC.c (c 17 (by omega) (by omega)) (c 19 (by omega) (by omega)) (c 21 (by omega) (by omega)) (c 23 (by omega) (by omega)) (m 185 (by omega) (by omega)), ⟨fun q h1 h2 => by rw [o1 q (by omega)]; exact rS.1 q h1 h2, fun p q hp hq => ?_⟩, rA.c (c 65 (by omega) (by omega)) (m 186 (by omega) (by omega)), fun p hp => ?_, rF'.c (fun k _ => by rw [c 63 (by omega) (by omega)]) (c 69 (by omega) (by omega)) (c 73 (by omega) (by omega)) (c 77 (by omega) (by omega)) (c 79 (by omega) (by omega)), rL.c (c 25 (by omega) (by omega)) rfl (m 188 (by omega) (by omega))⟩
  · by_cases e : 6 * p + q = 6 * P + t
    · have : q = t := by omega
      rw [e]
      exact ⟨v, hv, e1, e2, fun w => absurd w (by omega)⟩
    · rw [o1 _ e, o2 _ e]
      exact rS.2 p q hp hq
  · rw [c 71 (by omega) (by omega), rB p hp]
    exact bestS_congr (by omega) (fun q hq => (o1 _ (by omega)).symm)
theorem m165 {n d : Nat} {f : Nat} {p : Int32} {I : mm_I} {J : mm_J} (hd : 0 < d) (hf : 1 ≤ f ∧ f ≤ 4) : f11_takePerson_66 SZ n d 167 p (nI f) I J = some (nI f, I, J) := by
  obtain ⟨d, rfl⟩ : ∃ d', d = d' + 1 := ⟨d - 1, by omega⟩
  have mS : f11_takePerson_66 SZ n (d + 1) 167 p (nI f) I J = f11_takePerson_66_b SZ n (f11_takePerson_66 SZ n d) 167 p (nI f) I J := rfl
  rw [mS]
  unfold f11_takePerson_66_b f11_takePerson_165
  rw [if_neg (fun q => by have := (nI_eq (a := f) (b := 0) (by omega) (by omega)).mp q; omega)]
/-- the skills of a person -/
theorem skill_loop {n T P l : Nat} (hn : 501 ≤ n) : ∀ (d i s a : Nat) (Ic Im : mm_I), i ≤ s → s ≤ L → L < i + d → cT tx L Ic → mT tx L Im → cA tx L s Ic → Ic 1 5 = nI 0 → dW T P l Ic Jc Im → a ≤ L → sk tx L a = s → Im 167 29 = nI a → ∃ Ic' Im' r, f9_tellPerson_52 SZ n d 146 (nI P) (nI i) Ic Jc = some (Ic', Jc) ∧ f11_takePerson_66 SZ n d 167 (nI P) (nI 0) Im Jm = some (r, Im', Jm) ∧ fD Ic Ic' ∧ fMt Im Im' ∧ OC tx L s Ic Im Ic' Im' r (dR T (P + 1) l Ic' Jc Im') := by
  intro d
  induction d with
  | zero => intro i s a Ic Im h1 h2 h3; omega
  | succ d ih =>
    intro i s a Ic Im h1 h2 h3 hc hm ha h5 hW hal hsa g9
    have hL := hc.1
    have cS : f9_tellPerson_52 SZ n (d + 1) 146 (nI P) (nI i) Ic Jc = f9_tellPerson_52_b SZ n (f9_tellPerson_52 SZ n d) 146 (nI P) (nI i) Ic Jc := rfl
    have mS : f11_takePerson_66 SZ n (d + 1) 167 (nI P) (nI 0) Im Jm = f11_takePerson_66_b SZ n (f11_takePerson_66 SZ n d) 167 (nI P) (nI 0) Im Jm := rfl
    obtain ⟨I1, k1, k2, k3, k4⟩ := here_m (Jm := Jm) hn hm hal g9
    rw [hsa] at k1 k3
    have htk := tok_le (tx := tx) (L := L) s
    have hP : P < 8 := hW.1.2.1
    by_cases c2 : tok tx L s = 2
    · have hsL : s < L := by
        unfold tok at c2
        split at c2
        · assumption
        · omega
      obtain ⟨h8, -⟩ := hm.2.2 s hsL
      have c2' : tkn (tx s) = 2 := by
        unfold tok at c2
        rw [if_pos hsL] at c2
        exact c2
      have hW0 := hW
      obtain ⟨⟨t1, t2, t3, c5, m4, c6, m6, c3, m9⟩, rC, rS, rA, rB, rF', rL⟩ := hW
      obtain ⟨r1, I2, n1, n2, n3⟩ := num_c (Jc := Jc) (lo := 0) (hi := nI T - 1) hn hc h2 ha h5
      have hm1 := hm.f k2
      have m41 : I1 167 34 = nI T := by rw [k2.2 34 (by omega) (by omega) (by omega) (by omega) (by omega)]; exact m4
      obtain ⟨r, I3, q1, q2, q3⟩ := num_m (Jm := Jm) (lo := 0) (hi := nI T - 1) (s := s) (a := s) hn hm1 h2 (by rw [← hsa]; exact sk_sk tx L a) k3
      have eC : f9_tellPerson_52 SZ n (d + 1) 146 (nI P) (nI i) Ic Jc = (f9_tellSkill SZ n 146 (nI P) Ic Jc).bind fun o5 => f9_tellPerson_52 SZ n d 146 (nI P) (nI (i + 1)) o5.1 o5.2 := by
        rw [cS, t52b, if_neg (show ¬ (500 : Int32) ≤ nI i from nI_ge (b := 500) (by omega) (by omega)), snd_c h5, Option.bind_some, if_neg n10, ha.2.1, if_pos (show nI (tok tx L s) = 2 by rw [c2]; rfl), nI_1]
      have eT : f9_tellSkill SZ n 146 (nI P) Ic Jc = (f1_knows SZ 63 (nI P) r1 I2 Jc).bind fun o2 => if o2 = 0 then (f9_tellSkill_47 SZ n 146 (nI P) r1 I2 Jc) else ((f4_blame SZ 1 4 (nI s) I2 Jc).bind fun o4 => f9_tellSkill_47 SZ n 146 (nI P) r1 o4.1 o4.2) := by
        rw [tsk, c5, n1, Option.bind_some, ha.1]
      rcases n3 with ⟨v1, v2, v3, v4, v5⟩ | ⟨v1, v2, v3, v4, v5⟩
      · rcases q3 with ⟨u1, u2, u3, u4, u5, u6⟩ | ⟨u1, -⟩
        · have ht := ok_lt (show T < 1000 by omega) v1
          obtain ⟨t, hte⟩ : ∃ t, t = dv tx s (ten tx L s - s) := ⟨_, rfl⟩
          rw [← hte] at ht v2 u4
          have hk : 6 * P + t < 48 := by omega
          have ib : mm_inb (nI (6 * P + t)) (mm_al SZ 187) = true := by rw [al187.1]; exact inb_nI hk (by omega)
          have eix : 6 * nI P + I3 167 32 = nI (6 * P + t) := by rw [u4, show (6 : Int32) * nI P = nI (6 * P) from pk_mul 6 P, nI_add]
          have ecl : (nI (6 * P + t)).toNatClampNeg = 6 * P + t := nI_clamp (by omega)
          have i187 : I3 187 = Im 187 := by rw [q2.1 187 (by omega), k2.1 187 (by omega)]
          have eM : f11_takePerson_66 SZ n (d + 1) 167 (nI P) (nI 0) Im Jm = if Im 187 (6 * P + t) ≤ 0 then ((f11_into SZ n 167 187 (nI (6 * P + t)) 1 100 I3 Jm).bind fun o2 => f11_takePerson_66 SZ n d 167 (nI P) o2.1 o2.2.1 o2.2.2) else (f11_takePerson_66 SZ n d 167 (nI P) (nI 4) (mm_up I3 167 28 (nI s)) Jm) := by
            rw [mS]
            unfold f11_takePerson_66_b f11_takePerson_134 f11_takePerson_135 f11_takePerson_161 f11_fails
            rw [if_pos (show nI 0 = 0 from rfl), k1, Option.bind_some]
            dsimp only
            rw [if_pos hsL, in_dig h8, show dgt (tx s) = true from decide_eq_true c2', Option.bind_some, if_neg (show ¬ b01 true = 0 by decide), m41, q1, Option.bind_some]
            dsimp only
            rw [u2, if_pos (show nI 0 = 0 from rfl)]
            have h00 : (nI 0 ≤ (0 : Int32)) = True := eq_true (by decide)
            have h40 : ((4 : Int32) ≤ (0 : Int32)) = False := eq_false (by decide)
            simp only [eix, al187.2, ib, eq_self, if_true, if_false, ecl, i187, u6, Option.bind_some, h00, h40]
            rfl
          obtain ⟨sv, s1, s2, s3, -⟩ := rS.2 P t (by omega) (by omega)
          have c67 : I2 67 (6 * P + t) = nI sv := by rw [n2.1 67 (by omega)]; exact s2
          have ekn : f1_knows SZ 63 (nI P) r1 I2 Jc = some (b01 (decide (nI 0 < nI sv))) := by
            rw [v2, cKn isF63 hP (by omega), show (63 + 4 : Nat) = 67 from rfl, c67]
          rw [ekn, Option.bind_some] at eT
          by_cases z : sv = 0
          · subst z
            rw [s3, if_pos (show nI 0 ≤ 0 by decide)] at eM
            rw [if_pos (show b01 (decide (nI 0 < nI 0)) = 0 by decide)] at eT
            have hc2 := hc.f n2
            have hm3 := hm1.f q2
            have hs2 := sk_le tx L (ten tx L s)
            obtain ⟨r5, I5, g1, g2, g3⟩ := num_c (Jc := Jc) (lo := 1) (hi := 100) hn hc2 hs2 v5 v3
            obtain ⟨r'', I6, j1, j2, j3, j4⟩ := into_m (Jm := Jm) (r0 := 187) (i := 6 * P + t) (lo := 1) (hi := 100) (a := ten tx L s) hn hm3 (ten_le tx L _) rfl u3 al187.1 hk (by omega) (by omega)
            have p1 : f6_put SZ 66 (nI (6 * P + t)) r5 I5 Jc = some (mm_up I5 67 (6 * P + t) r5, Jc) := by
              rw [f6_put_eq (by rw [pT66.1, pT66.2]; omega), pT66.1, pT66.2, wr_at hk (by omega)]
            have eT2 : f9_tellSkill SZ n 146 (nI P) Ic Jc = some (mm_up I5 67 (6 * P + t) r5, Jc) := by
              rw [eT, t47, g1, Option.bind_some]
              dsimp only
              rw [v2, tset, f10_cell_eq hP (by omega), Option.bind_some, p1]
              rfl
            rw [eT2, Option.bind_some] at eC
            rw [j1, Option.bind_some] at eM
            dsimp only at eC eM
            have fd : fD Ic (mm_up I5 67 (6 * P + t) r5) := n2.d.trans (g2.d.trans (fD.up (by omega)))
            have fm : fMt Im I6 := k2.t.trans (q2.t.trans (j2.t (by omega)))
            rcases g3 with ⟨y1, y2, y3, y4, y5⟩ | ⟨y1, y2, y3, y4, y5⟩
            · rcases j4 with ⟨z1, z2, z3, z4, z5⟩ | ⟨z1, -⟩
              · have hle := ok_le (lo := 1) (hi := 100) (by omega) y1
                have prog : s < sk tx L (ten tx L (sk tx L (ten tx L s))) := by
                  have o3 := sk_ge (tx := tx) (ten_le tx L (sk tx L (ten tx L s)))
                  have o4 := (ok_dv y1).2.1
                  have o5 := sk_ge (tx := tx) (ten_le tx L s)
                  have o6 := (ok_dv v1).2.1
                  omega
                have hW2 : dW T P l (mm_up I5 67 (6 * P + t) r5) Jc I6 := hW0.skill ht hle.2 (fun r h1 h2 => by rw [mm_up_o h2, g2.1 r h1, n2.1 r h1]) (fun r h1 h2 => by rw [j2.1 r h1 h2, q2.1 r h1, k2.1 r h1]) (fun k h1 h2 h3 h4 h5 => by rw [j2.2 k h1 h2 h3 h4 h5, q2.2 k h1 h2 h3 h4 h5, k2.2 k h1 h2 h3 h4 h5]) (by rw [up_s2]; exact y2) z4 (fun j hj => by rw [up_o2 (by omega), g2.1 67 (by omega), n2.1 67 (by omega)]) (fun j hj => by rw [j3 j hj, i187])
                obtain ⟨Ic', Im', rr, w1, w2, w3, w4, w5⟩ := ih (i + 1) (sk tx L (ten tx L (sk tx L (ten tx L s)))) (ten tx L (sk tx L (ten tx L s))) (mm_up I5 67 (6 * P + t) r5) I6 (by omega) (sk_le tx L _) (by omega) ((hc2.f g2).d (fD.up (by omega))) (hm3.t (j2.t (by omega))) (y5.o (mm_up_o (by omega))) (by rw [mm_up_o (by omega)]; exact y3) hW2 (ten_le tx L _) rfl z3
                refine ⟨Ic', Im', rr, eC.trans w1, by rw [eM, z2]; exact w2, fd.trans w3, fm.trans w4, ?_⟩
                rcases w5 with ⟨a', b1, b2, b3, b4, b5, b6, b7, b8, b9⟩ | ⟨f, pl, b1, b2, b3⟩
                · refine Or.inl ⟨a', b1, by omega, b3, b4, b5, b6, ?_, ?_, b9⟩
                  · rw [b7, mm_up_o (by omega), y4, v4]
                  · rw [b8, z5, u5, k4 28 (by omega)]
                · exact Or.inr ⟨f, pl, b1, b2, b3⟩
              · exact absurd y1 z1
            · rcases j4 with ⟨z1, -⟩ | ⟨z1, z2, z3⟩
              · exact absurd z1 y1
              · have hx : XF tx L (bad tx L (sk tx L (ten tx L s))) (sk tx L (ten tx L s)) (mm_up I5 67 (6 * P + t) r5) := (x_bad (hc2.f g2) hs2 y3 y4 y5).up (by omega)
                obtain ⟨I7, w1, w2, w3⟩ := x_52 (Jc := Jc) (i := nI (i + 1)) (d := d) (p := nI P) hn (by omega) hx
                exact ⟨I7, I6, _, eC.trans w1, by rw [eM, z2]; exact m165 (by omega) (bad_le _), fd.trans w2, fm, Or.inr ⟨_, _, w3, rfl, z3⟩⟩
          · rw [s3, if_neg (show ¬ nI sv ≤ 0 from nI_nle (by omega) (by omega))] at eM
            rw [decide_eq_true (nI_lt (a := 0) (by omega) (by omega)), if_neg (show ¬ b01 true = 0 by decide), show f4_blame SZ 1 4 (nI s) I2 Jc = some (mm_up (mm_up I2 1 5 (nI 4)) 1 6 (nI s), Jc) from blame_t (f := 4) v3, Option.bind_some] at eT
            have hx := x_blamed (hc.f n2) (sk_le tx L _) v5 (f := 4) (by omega) s
            obtain ⟨I5, g1, g2, g3⟩ := x_47 (t := r1) (p := nI P) (Jc := Jc) hn hx
            obtain ⟨I7, w1, w2, w3⟩ := x_52 (Jc := Jc) (i := nI (i + 1)) (d := d) (p := nI P) hn (by omega) g3
            rw [eT.trans g1, Option.bind_some] at eC
            refine ⟨I7, _, nI 4, eC.trans w1, eM.trans (m165 (f := 4) (by omega) (by omega)), n2.d.trans (((fR.up (by omega)).trans (fR.up (by omega))).d.trans (g2.trans w2)), k2.t.trans (q2.t.trans (fMt.up (by omega))), Or.inr ⟨4, s, w3, rfl, up_s2⟩⟩
        · exact absurd v1 u1
      · rcases q3 with ⟨u1, -⟩ | ⟨u1, u2, u3⟩
        · exact absurd u1 v1
        · have hx := x_bad (hc.f n2) h2 v3 v4 v5
          obtain ⟨I5, g1, g2, g3⟩ := x_47 (t := r1) (p := nI P) (Jc := Jc) hn hx
          obtain ⟨I7, w1, w2, w3⟩ := x_52 (Jc := Jc) (i := nI (i + 1)) (d := d) (p := nI P) hn (by omega) g3
          have ekn : f1_knows SZ 63 (nI P) r1 I2 Jc = some 0 := by rw [v2]; exact ckn_m isF63
          rw [ekn, Option.bind_some, if_pos rfl] at eT
          rw [eT.trans g1, Option.bind_some] at eC
          refine ⟨I7, I3, nI (bad tx L s), eC.trans w1, ?_, n2.d.trans (g2.trans w2), k2.t.trans q2.t, Or.inr ⟨_, _, w3, rfl, u3⟩⟩
          have hb := bad_le (tx := tx) (L := L) s
          have hb0 : ¬ nI (bad tx L s) = 0 := fun q => by have := (nI_eq (a := bad tx L s) (b := 0) (by omega) (by omega)).mp q; omega
          rw [mS]
          unfold f11_takePerson_66_b f11_takePerson_134 f11_takePerson_135 f11_takePerson_161
          rw [if_pos (show nI 0 = 0 from rfl), k1, Option.bind_some]
          dsimp only
          rw [if_pos hsL, in_dig h8, show dgt (tx s) = true from decide_eq_true c2', Option.bind_some, if_neg (show ¬ b01 true = 0 by decide), m41, q1, Option.bind_some]
          dsimp only
          rw [u2, if_neg hb0, if_neg (nI_nle (by omega) (by omega))]
          exact m165 (by omega) hb
    · obtain ⟨Ic', e1, e2, e3, e4⟩ := pers_end (Im := I1) (Jc := Jc) hn (h := (show dW T P l Ic Jc I1 from by
        obtain ⟨⟨t1, t2, t3, c5, m4, c6, m6, c3, m9⟩, rC, rS, rA, rB, rF', rL⟩ := hW
        exact ⟨⟨t1, t2, t3, c5, by rw [k4 34 (by omega)]; exact m4, c6, by rw [k4 36 (by omega)]; exact m6, c3, by rw [k4 39 (by omega)]; exact m9⟩, rC.c rfl rfl rfl rfl (k2.1 185 (by omega)), rS.c rfl (k2.1 187 (by omega)), rA.c rfl (k2.1 186 (by omega)), rB, rF', rL.c rfl rfl (k2.1 188 (by omega))⟩))
      have esk : sk tx L s = s := by rw [← hsa]; exact sk_sk tx L a
      refine ⟨Ic', I1, nI 0, ?_, ?_, e2, k2.t, Or.inl ⟨s, h2, by omega, rfl, by rw [esk]; exact ha.o e3, k3, by rw [e3]; exact h5, by rw [e3], k4 28 (by omega), e4⟩⟩
      · rw [cS, t52b, snd_c h5, Option.bind_some, if_neg n10, ha.2.1, if_neg (show ¬ nI (tok tx L s) = 2 from fun q => c2 ((nI_eq (a := tok tx L s) (b := 2) (by omega) (by omega)).mp q)), e1, ite_self]
      · rw [mS]
        unfold f11_takePerson_66_b f11_takePerson_165
        rw [if_pos (show nI 0 = 0 from rfl), k1, Option.bind_some]
        dsimp only
        have ed : f11_in SZ (if s < L then nI (tx s) else m1).toInt64 48 57 I1 Jm = some (b01 false) := by
          by_cases hsL : s < L
          · obtain ⟨h8, -⟩ := hm.2.2 s hsL
            rw [if_pos hsL, in_dig h8]
            have : dgt (tx s) = false := decide_eq_false (fun q => c2 (by unfold tok; rw [if_pos hsL]; exact q))
            rw [this]
          · rw [if_neg hsL, show f11_in SZ m1.toInt64 48 57 I1 Jm = _ from mWi (lo := 48) (hi := 57) (by decide) (by decide)]
            decide
        rw [ed, Option.bind_some, if_pos (show b01 false = 0 by decide)]
end PRS
