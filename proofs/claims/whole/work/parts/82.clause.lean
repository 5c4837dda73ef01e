/-! ===== part 82: any clause of a town; all of them (written by wip/whole/pre.py) ===== -/
theorem aTrade : ∀ k, k < wTrade.length → 97 ≤ wTrade.getD k 0 ∧ wTrade.getD k 0 ≤ 122 := abc (by decide)
theorem aPers : ∀ k, k < wPers.length → 97 ≤ wPers.getD k 0 ∧ wPers.getD k 0 ≤ 122 := abc (by decide)
theorem aLikes : ∀ k, k < wLikes.length → 97 ≤ wLikes.getD k 0 ∧ wLikes.getD k 0 ≤ 122 := abc (by decide)
section CLA
variable {tx : Nat → Nat} {L : Nat} {I I' Ic Im : mm_I} {Jc Jm : mm_J}
theorem takeClause_eq {n s : Nat} {I1 : mm_I} {J1 : mm_J} (hs : s ≤ L) (e : f11_readWord SZ n 167 Im Jm = some (I1, J1)) (hJ : J1 167 30 = lN (cd tx s (lr tx L s - s))) : f11_takeClause SZ n 167 Im Jm = if wd tx L wTrade s = true then f11_takeClause_94 SZ n 167 0 I1 J1 else if wd tx L wPers s = true then f11_takeClause_94 SZ n 167 1 I1 J1 else if wd tx L wLikes s = true then f11_takeClause_94 SZ n 167 2 I1 J1 else f11_takeClause_94 SZ n 167 (-1) I1 J1 := by
  have c0 : f11_code SZ 116 114 97 100 I1 J1 = some (lN (vlK wTrade 4)) := by unfold f11_code; decide +kernel
  have c1 : f11_code SZ 112 101 114 115 I1 J1 = some (lN (vlK wPers 4)) := by unfold f11_code; decide +kernel
  have c2 : f11_code SZ 108 105 107 101 I1 J1 = some (lN (vlK wLikes 4)) := by unfold f11_code; decide +kernel
  have l0 : f11_longer SZ (lN (vlK wTrade 4)) 101 I1 J1 = some (lN (vlK wTrade 5)) := lng (c := 101) (by omega)
  have l1 : f11_longer SZ (lN (vlK wPers 4)) 111 I1 J1 = some (lN (vlK wPers 5)) := lng (c := 111) (by omega)
  have l2 : f11_longer SZ (lN (vlK wPers 5)) 110 I1 J1 = some (lN (vlK wPers 6)) := lng (c := 110) (by omega)
  have l3 : f11_longer SZ (lN (vlK wLikes 4)) 115 I1 J1 = some (lN (vlK wLikes 5)) := lng (c := 115) (by omega)
  unfold f11_takeClause
  rw [e, Option.bind_some]
  dsimp only
  rw [c0, Option.bind_some, l0, Option.bind_some]
  refine (ite_cg (word_eq (l := wTrade) hs (by decide) aTrade hJ rfl)).trans ?_
  by_cases b0 : wd tx L wTrade s = true
  · rw [if_pos b0, if_pos b0]
  rw [if_neg b0, if_neg b0, c1, Option.bind_some, l1, Option.bind_some, l2, Option.bind_some]
  refine (ite_cg (word_eq (l := wPers) hs (by decide) aPers hJ rfl)).trans ?_
  by_cases b1 : wd tx L wPers s = true
  · rw [if_pos b1, if_pos b1]
  rw [if_neg b1, if_neg b1, c2, Option.bind_some, l3, Option.bind_some]
  exact ite_cg (word_eq (l := wLikes) hs (by decide) aLikes hJ rfl)
theorem ta135 {n : Nat} {rec : Nat → Int32 → mm_I → mm_J → Option (mm_I × mm_J)} {i : Int32} {I : mm_I} {J : mm_J} : f9_tellAll_135 SZ n rec 146 i I J = (f4_closeClause SZ n 1 I J).bind fun o1 => rec 146 (i + 1) o1.1 o1.2 := by
  unfold f9_tellAll_135
  simp only [zr]
theorem ta82 {n : Nat} {rec : Nat → Int32 → mm_I → mm_J → Option (mm_I × mm_J)} {i : Int32} {I : mm_I} {J : mm_J} : f9_tellAll_82 SZ n rec 146 i I J = (f4_sees SZ n 1 (1000000 + 6) I J).bind fun o1 => if o1 = 0 then ((f4_sees SZ n 1 (1000000 + 7) I J).bind fun o3 => if o3 = 0 then ((f4_blame SZ 1 1 (I 1 3) I J).bind fun o5 => f9_tellAll_135 SZ n rec 146 i o5.1 o5.2) else ((f9_tellLike SZ n 146 I J).bind fun o6 => f9_tellAll_135 SZ n rec 146 i o6.1 o6.2)) else ((f9_tellPerson SZ n 146 I J).bind fun o7 => f9_tellAll_135 SZ n rec 146 i o7.1 o7.2) := by
  unfold f9_tellAll_82
  simp only [zr]
theorem ta26 {n : Nat} {rec : Nat → Int32 → mm_I → mm_J → Option (mm_I × mm_J)} {i : Int32} {I : mm_I} {J : mm_J} : f9_tellAll_26_b SZ n rec 146 i I J = if 500 ≤ i then some (I, J) else ((f4_isSound SZ 1 I J).bind fun o2 => if o2 = 0 then some (I, J) else (if (I 1 2) = 0 then some (I, J) else ((f4_sees SZ n 1 (1000000 + 0) I J).bind fun o5 => if o5 = 0 then (f9_tellAll_82 SZ n rec 146 i I J) else (if (I 15 6) = 0 then ((f9_tellTrade SZ n 146 I J).bind fun o8 => f9_tellAll_135 SZ n rec 146 i o8.1 o8.2) else (f9_tellAll_82 SZ n rec 146 i I J))))) := by
  unfold f9_tellAll_26_b f9_tellAll_148
  simp only [zr]
theorem ttr {n : Nat} {I : mm_I} {J : mm_J} : f9_tellTrade SZ n 146 I J = if 6 ≤ (I 15 5) then (f9_tellTrade_18 SZ n 146 146 0 I J) else (f9_tellTrade_18 SZ n 146 146 1 I J) := by
  unfold f9_tellTrade
  simp only [zr]
theorem tpe {n : Nat} {I : mm_I} {J : mm_J} : f9_tellPerson SZ n 146 I J = if 8 ≤ (I 15 6) then (f9_tellPerson_18 SZ n 146 146 0 I J) else (f9_tellPerson_18 SZ n 146 146 1 I J) := by
  unfold f9_tellPerson
  simp only [zr]
theorem dR.m {T P l : Nat} {Im' : mm_I} (h : dR T P l Ic Jc Im) (g : fT Im Im') : dR T P l Ic Jc Im' := h.rt fR.refl g
theorem dR.fr {T P l : Nat} {Ic' : mm_I} (h : dR T P l Ic Jc Im) (g : fR Ic Ic') : dR T P l Ic' Jc Im := h.rt g fT.refl
/-- any clause of a town -/
theorem tclause {n s a T P l : Nat} (hn : 501 ≤ n) (hc : cT tx L Ic) (hm : mT tx L Im) (ha : cA tx L s Ic) (h5 : Ic 1 5 = nI 0) (hal : a ≤ L) (hsa : sk tx L a = s) (g9 : Im 167 29 = nI a) (hsL : s < L) (hR : dR T P l Ic Jc Im) : ∃ Ic' Jc' Im' J' r, (∀ rec (i : Nat), i < 500 → f9_tellAll_26_b SZ n rec 146 (nI i) Ic Jc = rec 146 (nI (i + 1)) Ic' Jc') ∧ f11_takeClause SZ n 167 Im Jm = some (r, Im', J') ∧ fD Ic Ic' ∧ fMt Im Im' ∧ ∃ T' P' l', OC tx L (s + 1) Ic Im Ic' Im' r (dR T' P' l' Ic' Jc' Im') := by
  have hL := hc.1
  have hs : s ≤ L := by omega
  obtain ⟨I1, J1, k1, f1, e29, e31, eJ, e28⟩ := word_m (Jm := Jm) hn hm hal hsa g9
  have eT := takeClause_eq hs k1 eJ
  have htk := tok_le (tx := tx) (L := L) s
  have ht0 : ¬ nI (tok tx L s) = 0 := fun q => by
    have := (nI_eq (a := tok tx L s) (b := 0) (by omega) (by omega)).mp q
    unfold tok at this
    rw [if_pos hsL] at this
    have := tkn_4 (tx s)
    omega
  have hR1 : dR T P l Ic Jc (mm_up I1 167 29 (nI (lr tx L s))) := hR.m (f1.trans (fT.up (by omega)))
  have hm1 : mT tx L (mm_up I1 167 29 (nI (lr tx L s))) := hm.f (f1.trans (fT.up (by omega)))
  have fm1 : fMt Im (mm_up I1 167 29 (nI (lr tx L s))) := f1.t.trans (fMt.up (by omega))
  obtain ⟨t1, t2, t3, c5, m4, c6, m6, c3, m9⟩ := hR.1
  have k167 : ∀ k, k ≠ 28 → k ≠ 29 → k ≠ 31 → k ≠ 32 → k ≠ 33 → I1 167 k = Im 167 k := f1.2
  have e36 : I1 167 36 = nI P := by rw [k167 36 (by omega) (by omega) (by omega) (by omega) (by omega)]; exact m6
  have e34 : I1 167 34 = nI T := by rw [k167 34 (by omega) (by omega) (by omega) (by omega) (by omega)]; exact m4
  have e39 : I1 167 39 = nI l := by rw [k167 39 (by omega) (by omega) (by omega) (by omega) (by omega)]; exact m9
  -- a fault f at s, on the class's side X
  have flt : ∀ (f : Nat) (Ic2 : mm_I) (J2 : mm_J), 1 ≤ f ∧ f ≤ 4 → XF tx L f s Ic2 → fD Ic Ic2 → (∀ rec (i : Nat), i < 500 → f9_tellAll_26_b SZ n rec 146 (nI i) Ic Jc = f9_tellAll_135 SZ n rec 146 (nI i) Ic2 J2) → f11_takeClause SZ n 167 Im Jm = some (nI f, mm_up I1 167 28 (nI s), J1) → ∃ Ic' Jc' Im' J' r, (∀ rec (i : Nat), i < 500 → f9_tellAll_26_b SZ n rec 146 (nI i) Ic Jc = rec 146 (nI (i + 1)) Ic' Jc') ∧ f11_takeClause SZ n 167 Im Jm = some (r, Im', J') ∧ fD Ic Ic' ∧ fMt Im Im' ∧ ∃ T' P' l', OC tx L (s + 1) Ic Im Ic' Im' r (dR T' P' l' Ic' Jc' Im') := fun f Ic2 J2 hf hx hd hC hM => by
    refine ⟨Ic2, J2, _, J1, nI f, fun rec i hi => ?_, hM, hd, f1.t.trans (fMt.up (by omega)), 0, 0, 0, Or.inr ⟨f, s, hx, rfl, up_s2⟩⟩
    rw [hC rec i hi, ta135, stop_x hx.ne, Option.bind_some, nI_1]
  -- a clause that is told
  have tld : ∀ (Ic2 : mm_I) (J2 : mm_J) (Im2 : mm_I) (JM : mm_J) (r : Int32) (T' P' l' s' : Nat) (Ic1 Im1 : mm_I), s ≤ s' → fR Ic Ic1 → Ic1 1 6 = Ic 1 6 → Im1 167 28 = Im 167 28 → fD Ic1 Ic2 → fMt Im Im2 → OC tx L s' Ic1 Im1 Ic2 Im2 r (dR T' P' l' Ic2 J2 Im2) → (∀ rec (i : Nat), i < 500 → f9_tellAll_26_b SZ n rec 146 (nI i) Ic Jc = f9_tellAll_135 SZ n rec 146 (nI i) Ic2 J2) → f11_takeClause SZ n 167 Im Jm = f11_takeClause_207 SZ n 167 r Im2 JM → ∃ Ic' Jc' Im' J' r, (∀ rec (i : Nat), i < 500 → f9_tellAll_26_b SZ n rec 146 (nI i) Ic Jc = rec 146 (nI (i + 1)) Ic' Jc') ∧ f11_takeClause SZ n 167 Im Jm = some (r, Im', J') ∧ fD Ic Ic' ∧ fMt Im Im' ∧ ∃ T' P' l', OC tx L (s + 1) Ic Im Ic' Im' r (dR T' P' l' Ic' Jc' Im') := fun Ic2 J2 Im2 JM r T' P' l' s' Ic1 Im1 hs' hf1 h6 h28 hd hM hO hC hT => by
    obtain ⟨Ic', Im', r', w1, w2, w3, w4, w5⟩ := close_lock (Jm := JM) hn (hc.d (hf1.d.trans hd)) (hm.t hM) hO
    refine ⟨Ic', J2, Im', JM, r', fun rec i hi => ?_, hT.trans w2, hf1.d.trans (hd.trans w3.d), hM.trans w4.t, T', P', l', ?_⟩
    · rw [hC rec i hi, ta135, w1, Option.bind_some, nI_1]
    · rcases w5 with ⟨a', b1, b2, b3, b4, b5, b6, b7, b8, b9⟩ | w
      · exact Or.inl ⟨a', b1, by omega, b3, b4, b5, b6, b7.trans h6, b8.trans h28, b9⟩
      · exact Or.inr w
  have s0 := sees_c (n := n) (Jc := Jc) hn hc hs ha iC0 (by decide) (lt256 aTrade)
  have s6 := sees_c (n := n) (Jc := Jc) hn hc hs ha iC6 (by decide) (lt256 aPers)
  have s7 := sees_c (n := n) (Jc := Jc) hn hc hs ha iC7 (by decide) (lt256 aLikes)
  have pre : ∀ rec (i : Nat), i < 500 → f9_tellAll_26_b SZ n rec 146 (nI i) Ic Jc = if b01 (wd tx L wTrade s) = 0 then (f9_tellAll_82 SZ n rec 146 (nI i) Ic Jc) else (if nI P = 0 then ((f9_tellTrade SZ n 146 Ic Jc).bind fun o8 => f9_tellAll_135 SZ n rec 146 (nI i) o8.1 o8.2) else (f9_tellAll_82 SZ n rec 146 (nI i) Ic Jc)) := fun rec i hi => by
    rw [ta26, if_neg (show ¬ (500 : Int32) ≤ nI i from nI_ge (b := 500) hi (by omega)), snd_c h5, Option.bind_some, if_neg n10, ha.2.1, if_neg ht0, s0, Option.bind_some, c6]
  have t82 : ∀ rec (i : Nat), f9_tellAll_82 SZ n rec 146 (nI i) Ic Jc = if b01 (wd tx L wPers s) = 0 then (if b01 (wd tx L wLikes s) = 0 then (f9_tellAll_135 SZ n rec 146 (nI i) (mm_up (mm_up Ic 1 5 (nI 1)) 1 6 (nI s)) Jc) else ((f9_tellLike SZ n 146 Ic Jc).bind fun o6 => f9_tellAll_135 SZ n rec 146 (nI i) o6.1 o6.2)) else ((f9_tellPerson SZ n 146 Ic Jc).bind fun o7 => f9_tellAll_135 SZ n rec 146 (nI i) o7.1 o7.2) := fun rec i => by
    rw [ta82, s6, Option.bind_some, s7, Option.bind_some, ha.1, show f4_blame SZ 1 1 (nI s) Ic Jc = some (mm_up (mm_up Ic 1 5 (nI 1)) 1 6 (nI s), Jc) from blame_t (f := 1) h5, Option.bind_some]
  have hx1 := x_blamed hc hs ha (f := 1) (by omega) s
  have fd1 : fD Ic (mm_up (mm_up Ic 1 5 (nI 1)) 1 6 (nI s)) := ((fR.up (by omega)).trans (fR.up (by omega))).d
  have b0 : b01 false = 0 := by decide
  have b1 : ¬ b01 true = 0 := by decide
  by_cases w0 : wd tx L wTrade s = true
  · -- trade
    obtain ⟨w1, w2, w3, w4⟩ := wd_tok hs (show 0 < wTrade.length by decide) w0
    have el : s + wTrade.length ≤ L := by rw [← w2]; exact ten_le tx L s
    rw [if_pos w0] at eT
    have wp : wd tx L wPers s = false := eq_false_of_ne_true fun q => absurd (wd_uniq w0 q) (by decide)
    have wl : wd tx L wLikes s = false := eq_false_of_ne_true fun q => absurd (wd_uniq w0 q) (by decide)
    by_cases hP : P = 0
    · subst hP
      by_cases hT : T = 6
      · subst hT
        obtain ⟨I2, o1, o2, o3⟩ := open_x (Jc := Jc) hn hc hs ha h5
        obtain ⟨I3, x1, x2, x3⟩ := x_tr0 (t := I2 15 5) (Jc := Jc) hn o3
        refine flt 3 I3 Jc (by omega) x3 (o2.d.trans x2) (fun rec i hi => ?_) ?_
        · rw [pre rec i hi, w0, if_neg b1, if_pos (show nI 0 = 0 from rfl), ttr, c5, if_pos (show (6 : Int32) ≤ nI 6 by decide), tt18, o1, Option.bind_some]
          dsimp only
          rw [x1, Option.bind_some]
        · rw [eT]
          unfold f11_takeClause_94 f11_takeClause_120 f11_takeClause_162 f11_fails
          rw [if_neg (show ¬ (0 : Int32) < 0 by decide), if_pos rfl, e36, if_pos (show nI 0 ≤ 0 by decide), if_pos rfl, e34, if_pos (show nI 6 = 6 from rfl), e29]
          rfl
      · obtain ⟨I2, o1, o2, o3, o4, o5⟩ := open_ok (Jc := Jc) hn hc hs ha (show 0 < wTrade.length by decide) w0
        obtain ⟨I3, I4, J4, r, x1, x2, x3, x4, x5⟩ := tt_lock (Jc := Jc) (Jm := J1) (a := lr tx L s) (Im := mm_up I1 167 29 (nI (lr tx L s))) hn (hc.f o2) hm1 o3 (o4.trans h5) (by rw [w3]; exact el) (by rw [w3]) up_s2 (show T < 6 by omega) (hR1.fr o2)
        refine tld I3 Jc I4 J4 r (T + 1) 0 l _ I2 _ ?_ o2 o5 ?_ x3 (fm1.trans x4) x5 (fun rec i hi => ?_) ?_
        · have := sk_ge (tx := tx) el
          omega
        · rw [up_o2 (by omega)]; exact e28
        · rw [pre rec i hi, w0, if_neg b1, if_pos (show nI 0 = 0 from rfl), ttr, c5, if_neg (show ¬ (6 : Int32) ≤ nI T from nI_ge (b := 6) (by omega) (by omega)), tt18, o1, Option.bind_some]
          dsimp only
          rw [o2.1 15 (by omega), c5, x1, Option.bind_some]
        · rw [eT]
          unfold f11_takeClause_94 f11_takeClause_120 f11_takeClause_172
          rw [if_neg (show ¬ (0 : Int32) < 0 by decide), if_pos rfl, e36, if_pos (show nI 0 ≤ 0 by decide), if_pos rfl, e34, if_neg (show ¬ nI T = 6 from fun q => hT ((nI_eq (a := T) (b := 6) (by omega) (by omega)).mp q)), if_pos rfl, e31, x2]
          rfl
    · refine flt 1 _ Jc (by omega) hx1 fd1 (fun rec i hi => ?_) ?_
      · rw [pre rec i hi, w0, if_neg b1, if_neg (show ¬ nI P = 0 from fun q => hP ((nI_eq (a := P) (b := 0) (by omega) (by omega)).mp q)), t82, wp, if_pos b0, wl, if_pos b0]
      · rw [eT]
        unfold f11_takeClause_94 f11_takeClause_110 f11_fails
        rw [if_neg (show ¬ (0 : Int32) < 0 by decide), if_pos rfl, e36, if_neg (show ¬ nI P ≤ 0 from nI_nle (by omega) (by omega)), e29]
        rfl
  have w0 := eq_false_of_ne_true w0
  rw [w0, if_neg (by decide)] at eT
  have pre2 : ∀ rec (i : Nat), i < 500 → f9_tellAll_26_b SZ n rec 146 (nI i) Ic Jc = f9_tellAll_82 SZ n rec 146 (nI i) Ic Jc := fun rec i hi => by rw [pre rec i hi, w0, if_pos b0]
  by_cases wp : wd tx L wPers s = true
  · -- person
    obtain ⟨w1, w2, w3, w4⟩ := wd_tok hs (show 0 < wPers.length by decide) wp
    have el : s + wPers.length ≤ L := by rw [← w2]; exact ten_le tx L s
    rw [if_pos wp] at eT
    by_cases hP : P = 8
    · subst hP
      obtain ⟨I2, o1, o2, o3⟩ := open_x (Jc := Jc) hn hc hs ha h5
      obtain ⟨I3, x1, x2, x3⟩ := x_tp1 (p := I2 15 6) (Jc := Jc) hn o3
      refine flt 3 I3 Jc (by omega) x3 (o2.d.trans x2) (fun rec i hi => ?_) ?_
      · rw [pre2 rec i hi, t82, wp, if_neg b1, tpe, c6, if_pos (show (8 : Int32) ≤ nI 8 by decide), tp18, o1, Option.bind_some]
        dsimp only
        rw [x1, Option.bind_some]
      · rw [eT]
        unfold f11_takeClause_94 f11_takeClause_120 f11_takeClause_162 f11_fails
        rw [if_neg (show ¬ (1 : Int32) < 0 by decide), if_neg (show ¬ (1 : Int32) = 0 by decide), if_neg (show ¬ (1 : Int32) = 0 by decide), if_pos rfl, e36, if_pos (show nI 8 = 8 from rfl), e29]
        rfl
    · obtain ⟨I2, o1, o2, o3, o4, o5⟩ := open_ok (Jc := Jc) hn hc hs ha (show 0 < wPers.length by decide) wp
      obtain ⟨I3, I4, r, x1, x2, x3, x4, x5⟩ := pp_lock (Jc := Jc) (Jm := J1) (a := lr tx L s) (Im := mm_up I1 167 29 (nI (lr tx L s))) hn (hc.f o2) hm1 o3 (o4.trans h5) (by rw [w3]; exact el) (by rw [w3]) up_s2 (show P < 8 by omega) (hR1.fr o2)
      refine tld I3 Jc I4 J1 r T (P + 1) l _ I2 _ ?_ o2 o5 ?_ x3 (fm1.trans x4) x5 (fun rec i hi => ?_) ?_
      · have := sk_ge (tx := tx) el
        omega
      · rw [up_o2 (by omega)]; exact e28
      · rw [pre2 rec i hi, t82, wp, if_neg b1, tpe, c6, if_neg (show ¬ (8 : Int32) ≤ nI P from nI_ge (b := 8) (by omega) (by omega)), tp18, o1, Option.bind_some]
        dsimp only
        rw [o2.1 15 (by omega), c6, x1, Option.bind_some]
      · rw [eT]
        unfold f11_takeClause_94 f11_takeClause_120 f11_takeClause_172
        rw [if_neg (show ¬ (1 : Int32) < 0 by decide), if_neg (show ¬ (1 : Int32) = 0 by decide), if_neg (show ¬ (1 : Int32) = 0 by decide), if_pos rfl, e36, if_neg (show ¬ nI P = 8 from fun q => hP ((nI_eq (a := P) (b := 8) (by omega) (by omega)).mp q)), if_neg (show ¬ (1 : Int32) = 0 by decide), if_pos rfl, e31, x2]
        rfl
  have wp := eq_false_of_ne_true wp
  rw [wp, if_neg (by decide)] at eT
  by_cases wl : wd tx L wLikes s = true
  · -- likes
    obtain ⟨w1, w2, w3, w4⟩ := wd_tok hs (show 0 < wLikes.length by decide) wl
    have el : s + wLikes.length ≤ L := by rw [← w2]; exact ten_le tx L s
    rw [if_pos wl] at eT
    have eLk : f9_tellLike SZ n 146 Ic Jc = if 40 ≤ nI l then (f9_tellLike_15 SZ n 146 146 0 Ic Jc) else (f9_tellLike_15 SZ n 146 146 1 Ic Jc) := by
      unfold f9_tellLike
      rw [c3]
    by_cases hl : l = 40
    · subst hl
      obtain ⟨I2, o1, o2, o3⟩ := open_x (Jc := Jc) hn hc hs ha h5
      obtain ⟨I3, J3, x1, x2, x3⟩ := x_lk1 (Jc := Jc) hn o3
      refine flt 3 I3 J3 (by omega) x3 (o2.d.trans x2) (fun rec i hi => ?_) ?_
      · rw [pre2 rec i hi, t82, wp, if_pos b0, wl, if_neg b1, eLk, if_pos (show (40 : Int32) ≤ nI 40 by decide), lt15, o1, Option.bind_some]
        dsimp only
        rw [x1, Option.bind_some]
      · rw [eT]
        unfold f11_takeClause_94 f11_takeClause_120 f11_takeClause_162 f11_fails
        rw [if_neg (show ¬ (2 : Int32) < 0 by decide), if_neg (show ¬ (2 : Int32) = 0 by decide), if_neg (show ¬ (2 : Int32) = 0 by decide), if_neg (show ¬ (2 : Int32) = 1 by decide), e39, if_pos (show nI 40 = 40 from rfl), e29]
        rfl
    · obtain ⟨I2, o1, o2, o3, o4, o5⟩ := open_ok (Jc := Jc) hn hc hs ha (show 0 < wLikes.length by decide) wl
      obtain ⟨I3, J3, I4, r, x1, x2, x3, x4, x5⟩ := likes_lock (Jc := Jc) (Jm := J1) (a := lr tx L s) (Im := mm_up I1 167 29 (nI (lr tx L s))) hn (hc.f o2) hm1 o3 (o4.trans h5) (by rw [w3]; exact el) (by rw [w3]) up_s2 (show l < 40 by omega) (hR1.fr o2)
      refine tld I3 J3 I4 J1 r T P (l + 1) _ I2 _ ?_ o2 o5 ?_ x3 (fm1.trans x4) x5 (fun rec i hi => ?_) ?_
      · have := sk_ge (tx := tx) el
        omega
      · rw [up_o2 (by omega)]; exact e28
      · rw [pre2 rec i hi, t82, wp, if_pos b0, wl, if_neg b1, eLk, if_neg (show ¬ (40 : Int32) ≤ nI l from nI_ge (b := 40) (by omega) (by omega)), lt15, o1, Option.bind_some]
        dsimp only
        rw [x1, Option.bind_some]
      · rw [eT]
        unfold f11_takeClause_94 f11_takeClause_120 f11_takeClause_172
        rw [if_neg (show ¬ (2 : Int32) < 0 by decide), if_neg (show ¬ (2 : Int32) = 0 by decide), if_neg (show ¬ (2 : Int32) = 0 by decide), if_neg (show ¬ (2 : Int32) = 1 by decide), e39, if_neg (show ¬ nI l = 40 from fun q => hl ((nI_eq (a := l) (b := 40) (by omega) (by omega)).mp q)), if_neg (show ¬ (2 : Int32) = 0 by decide), if_neg (show ¬ (2 : Int32) = 1 by decide), e31, x2]
        rfl
  have wl := eq_false_of_ne_true wl
  rw [wl, if_neg (by decide)] at eT
  refine flt 1 _ Jc (by omega) hx1 fd1 (fun rec i hi => ?_) ?_
  · rw [pre2 rec i hi, t82, wp, if_pos b0, wl, if_pos b0]
  · rw [eT]
    unfold f11_takeClause_94 f11_takeClause_110 f11_fails
    rw [if_pos (show (-1 : Int32) < 0 by decide), e29]
    rfl
/-- all clauses of a town -/
theorem town_loop {n : Nat} (hn : 501 ≤ n) : ∀ (d i s a T P l : Nat) (Ic Im : mm_I) (Jc Jm : mm_J), i ≤ s → s ≤ L → L + 1 < i + d → cT tx L Ic → mT tx L Im → cA tx L s Ic → Ic 1 5 = nI 0 → Ic 1 6 = Im 167 28 → dR T P l Ic Jc Im → a ≤ L → sk tx L a = s → Im 167 29 = nI a → ∃ (f T' P' l' : Nat) (Ic' Im' : mm_I) (Jc' J' : mm_J), f9_tellAll_26 SZ n d 146 (nI i) Ic Jc = some (Ic', Jc') ∧ f11_town_27 SZ n d 167 (nI 0) Im Jm = f11_town_46 SZ n 167 (nI f) Im' J' ∧ fD Ic Ic' ∧ fMt Im Im' ∧ f ≤ 4 ∧ Ic' 1 5 = nI f ∧ Ic' 1 6 = Im' 167 28 ∧ (f = 0 → dR T' P' l' Ic' Jc' Im') := by
  intro d
  induction d with
  | zero => intro i s a T P l Ic Im Jc Jm h1 h2 h3; omega
  | succ d ih =>
    intro i s a T P l Ic Im Jc Jm h1 h2 h3 hc hm ha h5 h6 hR hal hsa g9
    have hL := hc.1
    have cS : f9_tellAll_26 SZ n (d + 1) 146 (nI i) Ic Jc = f9_tellAll_26_b SZ n (f9_tellAll_26 SZ n d) 146 (nI i) Ic Jc := rfl
    have mS : f11_town_27 SZ n (d + 1) 167 (nI 0) Im Jm = f11_town_27_b SZ n (f11_town_27 SZ n d) 167 (nI 0) Im Jm := rfl
    obtain ⟨I1, k1, k2, k3, k4⟩ := here_m (Jm := Jm) hn hm hal g9
    rw [hsa] at k1 k3
    have hR1 := hR.m k2
    by_cases hsL : s < L
    · have hm1 := hm.f k2
      obtain ⟨Ic', Jc', Im', J', r, x1, x2, x3, x4, T', P', l', x5⟩ := tclause (Jc := Jc) (Jm := Jm) (a := s) (Im := I1) hn hc hm1 ha h5 h2 (by rw [← hsa]; exact sk_sk tx L a) k3 hsL hR1
      have e2 : f11_town_27 SZ n (d + 1) 167 (nI 0) Im Jm = f11_town_27 SZ n d 167 r Im' J' := by
        rw [mS]
        unfold f11_town_27_b
        obtain ⟨h8, -⟩ := hm.2.2 s hsL
        rw [if_pos (show nI 0 = 0 from rfl), k1, Option.bind_some]
        dsimp only
        rw [if_pos hsL, if_neg (nI_pos (by omega)), x2, Option.bind_some]
      have e1 : f9_tellAll_26 SZ n (d + 1) 146 (nI i) Ic Jc = f9_tellAll_26 SZ n d 146 (nI (i + 1)) Ic' Jc' := by rw [cS]; exact x1 _ i (by omega)
      rcases x5 with ⟨a', b1, b2, b3, b4, b5, b6, b7, b8, b9⟩ | ⟨f, pl, b1, b2, b3⟩
      · obtain ⟨f, T2, P2, l2, Ic2, Im2, Jc2, J2, w1, w2, w3, w4, w5⟩ := ih (i + 1) (sk tx L a') a' T' P' l' Ic' Im' Jc' J' (by omega) (sk_le tx L a') (by omega) (hc.d x3) (hm1.t x4) b4 b6 (by rw [b7, b8, h6, k4 28 (by omega)]) b9 b1 rfl b5
        exact ⟨f, T2, P2, l2, Ic2, Im2, Jc2, J2, e1.trans w1, by rw [e2, b3]; exact w2, x3.trans w3, (k2.t.trans x4).trans w4, w5⟩
      · obtain ⟨d, rfl⟩ : ∃ d', d = d' + 1 := ⟨d - 1, by omega⟩
        have hf := b1.2.2.1
        refine ⟨f, 0, 0, 0, Ic', Im', Jc', J', e1.trans ?_, ?_, x3, k2.t.trans x4, hf.2, b1.2.2.2.1, by rw [b1.2.2.2.2, b3], fun q => absurd q (by omega)⟩
        · have cS2 : f9_tellAll_26 SZ n (d + 1) 146 (nI (i + 1)) Ic' Jc' = f9_tellAll_26_b SZ n (f9_tellAll_26 SZ n d) 146 (nI (i + 1)) Ic' Jc' := rfl
          rw [cS2, ta26, snd_f b1.ne, Option.bind_some, if_pos rfl, ite_self]
        · have mS2 : f11_town_27 SZ n (d + 1) 167 r Im' J' = f11_town_27_b SZ n (f11_town_27 SZ n d) 167 r Im' J' := rfl
          rw [e2, mS2]
          unfold f11_town_27_b
          rw [b2, if_neg (fun q => by have := (nI_eq (a := f) (b := 0) (by omega) (by omega)).mp q; omega)]
    · have e0 : tok tx L s = 0 := by unfold tok; rw [if_neg hsL]
      refine ⟨0, T, P, l, Ic, I1, Jc, Jm, ?_, ?_, fD.refl, k2.t, by omega, h5, by rw [h6, k4 28 (by omega)], fun _ => hR1⟩
      · rw [cS, ta26, snd_c h5, Option.bind_some, if_neg n10, ha.2.1, e0, if_pos (show nI 0 = 0 from rfl), ite_self]
      · rw [mS]
        unfold f11_town_27_b
        rw [if_pos (show nI 0 = 0 from rfl), k1, Option.bind_some]
        dsimp only
        rw [if_neg hsL, if_pos (show m1 < 0 by decide)]
end CLA
