/-! ===== part 49: both steps from one lock; change; draws; night (written by wip/whole/pre.py) ===== -/
theorem two {k T P : Nat} {I : mm_I} {J : mm_J} {fc : Option (Int32 × mm_I × mm_J)} {fm : mm_I → mm_J → Option (Int32 × mm_I × mm_J)} (hA : rAll T P (100 * k) I I) (lock : ∀ Im, rAll T P (100 * k) I Im → ∃ r Ic' Im', fc = some (r, Ic', J) ∧ fm Im J = some (r, Im', J) ∧ fF 29 I Ic' ∧ fV Im Im' ∧ rF T P (100 * (k + 1)) 29 Ic' (vCur Im') ∧ rS Ic' Im') : ∃ o1 o2, fc = some o1 ∧ fm o1.2.1 o1.2.2 = some o2 ∧ o1.1 = o2.1 ∧ Inv (k + 1) o2.2.1 o2.2.2 := by
  obtain ⟨r, Ic', Im0, c1, -, f1, -, -, -⟩ := lock I hA
  obtain ⟨r2, Ic2, Im', c2, m2, f2, f3, hR, hS⟩ := lock Ic' (hA.m (f1.le (by omega)))
  have e : (r, Ic', J) = (r2, Ic2, J) := Option.some.inj (c1.symm.trans c2)
  have e1 : r = r2 := congrArg (fun x => x.1) e
  have e2 : Ic' = Ic2 := congrArg (fun x => x.2.1) e
  subst e1 e2
  exact ⟨(r, Ic', J), (r, Im', J), c1, m2, rfl, Inv_folk hA f2 f3 hR hS⟩
theorem rAll.lf {T P N : Nat} {Ic Im : mm_I} (h : rAll T P N Ic Im) : rLf T P N 26 29 Ic Im := ⟨h.1, h.2.1, h.2.2.1, h.2.2.2.1, h.2.2.2.2.1⟩
theorem isL1 : isL 147 26 29 := Or.inl ⟨rfl, rfl, rfl⟩
theorem n_m1 {q : Nat} (h : q < 2 ^ 31) : ¬ nI q = -1 := by
  intro e
  have := m_eq (a := q) h
  rw [show (nI q = m1) = (nI q = -1) from rfl] at this
  rw [this] at e
  exact e
theorem out_m1 {n : Nat} (hn : n < 2 ^ 31) : (m1 : Int32) < 0 ∨ nI n ≤ m1 := Or.inl (by decide)
theorem ch0 {n : Nat} {p t f l : Int32} {I : mm_I} {J : mm_J} : f10_change_30 SZ n 0 p t f l 0 I J = some (-1000000001, I, J) := by
  unfold f10_change_30 f10_change_56 f10_change_60 f10_change_61 f10_change_88 f10_change_90
  rw [f0_hasPerson_eq, Option.bind_some]
  split
  · rfl
  · split
    · rfl
    · split <;> rfl
theorem st_change : St_change Inv := by
  intro k hk p t f l I J h
  have h0 := h
  obtain ⟨T, P, hA⟩ := h
  refine ⟨1000, ?_⟩
  have unk : ∀ {fc : Option (Int32 × mm_I × mm_J)} {fm : mm_I → mm_J → Option (Int32 × mm_I × mm_J)}, fc = some (-1000000001, I, J) → fm I J = some (-1000000001, I, J) → ∃ o1 o2, fc = some o1 ∧ fm o1.2.1 o1.2.2 = some o2 ∧ o1.1 = o2.1 ∧ Inv (k + 1) o2.2.1 o2.2.2 := fun h1 h2 => ⟨_, _, h1, h2, rfl, Inv_mono k I J h0⟩
  have a1 := hA.1
  have hT := a1.1
  have hP := a1.2.1
  have good : ∀ (p' t' : Nat) (f l : Int32), p' < P → t' < T → orT T f → (l = m1 ∨ ∃ q, q < P ∧ l = nI q) → ∃ o1 o2, (f2_beginChange SZ 1000 147 (nI p') (nI t') f l I J) = some o1 ∧ (fun Im Jm => f11_changeNow SZ 1000 167 (nI p') (nI t') f l Im Jm) o1.2.1 o1.2.2 = some o2 ∧ o1.1 = o2.1 ∧ Inv (k + 1) o2.2.1 o2.2.2 := by
    intro p' t' f l h1 h2 h3 h4
    refine two hA (fun Im hB => ?_)
    obtain ⟨r, Ic', Im', g1, g2, g3, g4, g5, g6, g7⟩ := change_lock (Jc := J) (Jm := J) isL1 hB.lf (n := 1000) (by omega) h1 h2 h3 h4
    obtain ⟨s, s1, s2, s3⟩ := hB.2.2.2.2.2.1
    exact ⟨r, Ic', Im', g1, g2, g3, g4, g5.mono (by omega), s, s1, by rw [g6]; exact s2, by rw [g7]; exact s3⟩
  rcases in_cases P (by omega) p with hp | ⟨p', hp', rfl⟩
  · refine unk (fm := fun I J => f11_change SZ 1000 167 p t f l I J) ?_ ?_
    · unfold f10_change f10_change_29
      rw [cKp_outP a1 hp, Option.bind_some, if_pos (show (0 : Int32) = 0 from rfl)]
      exact ch0
    · show f11_change SZ 1000 167 p t f l I J = _
      unfold f11_change
      rw [mPe_out a1 hp]
      rfl
  rcases in_cases T (by omega) t with ht | ⟨t', ht', rfl⟩
  · refine unk (fm := fun I J => f11_change SZ 1000 167 (nI p') t f l I J) ?_ ?_
    · unfold f10_change f10_change_29
      rw [cKp_outT a1 hp' ht, Option.bind_some, if_pos (show (0 : Int32) = 0 from rfl)]
      exact ch0
    · show f11_change SZ 1000 167 (nI p') t f l I J = _
      unfold f11_change
      rw [mPe_in a1 hp', Option.bind_some, if_neg (show ¬ (1 : Int32) = 0 by decide), mTr_out a1 ht]
      rfl
  -- the lender, once the others are known
  have lend : orT T f → ∃ o1 o2, f10_change_30 SZ 1000 0 (nI p') (nI t') f l 1 I J = some o1 ∧ (fun I J => f11_change_33 SZ 1000 167 (nI p') (nI t') f l I J) o1.2.1 o1.2.2 = some o2 ∧ o1.1 = o2.1 ∧ Inv (k + 1) o2.2.1 o2.2.2 := by
    intro hf
    by_cases el : l = -1
    · obtain ⟨o1, o2, g1, g2, g3, g4⟩ := good p' t' f l hp' ht' hf (Or.inl el)
      refine ⟨o1, o2, ?_, ?_, g3, g4⟩
      · unfold f10_change_30 f10_change_56 f10_change_61 f10_change_90
        simp only [zr]
        rw [if_pos el, if_neg (show ¬ (1 : Int32) = 0 by decide), if_neg (show ¬ (1 : Int32) = 0 by decide), g1]
        rfl
      · show f11_change_33 SZ 1000 167 (nI p') (nI t') f l o1.2.1 o1.2.2 = _
        unfold f11_change_33 f11_change_58
        rw [if_pos el, show f11_changeNow SZ 1000 167 (nI p') (nI t') f l o1.2.1 o1.2.2 = some o2 from g2]
        rfl
    · rcases in_cases P (by omega) l with hl | ⟨l', hl', rfl⟩
      · refine unk (fm := fun I J => f11_change_33 SZ 1000 167 (nI p') (nI t') f l I J) ?_ ?_
        · unfold f10_change_30 f10_change_60 f10_change_61 f10_change_88 f10_change_90
          simp only [zr]
          rw [if_neg el, cPe_out a1 hl]
          rfl
        · show f11_change_33 SZ 1000 167 (nI p') (nI t') f l I J = _
          unfold f11_change_33
          rw [if_neg el, mPe_out a1 hl]
          rfl
      · by_cases e : nI l' = nI p'
        · refine unk (fm := fun I J => f11_change_33 SZ 1000 167 (nI p') (nI t') f (nI l') I J) ?_ ?_
          · unfold f10_change_30 f10_change_60 f10_change_61 f10_change_88 f10_change_90
            simp only [zr]
            rw [if_neg el, cPe_in a1 hl', Option.bind_some, if_neg (show ¬ (1 : Int32) = 0 by decide), if_pos e]
            rfl
          · show f11_change_33 SZ 1000 167 (nI p') (nI t') f (nI l') I J = _
            unfold f11_change_33
            rw [if_neg el, mPe_in a1 hl', Option.bind_some, if_neg (show ¬ (1 : Int32) = 0 by decide), if_pos e]
            rfl
        · obtain ⟨o1, o2, g1, g2, g3, g4⟩ := good p' t' f (nI l') hp' ht' hf (Or.inr ⟨l', hl', rfl⟩)
          refine ⟨o1, o2, ?_, ?_, g3, g4⟩
          · unfold f10_change_30 f10_change_56 f10_change_61 f10_change_90
            simp only [zr]
            rw [if_neg el, cPe_in a1 hl', Option.bind_some, if_neg (show ¬ (1 : Int32) = 0 by decide), if_neg e, if_neg (show ¬ (1 : Int32) = 0 by decide), if_neg (show ¬ (1 : Int32) = 0 by decide), g1]
            rfl
          · show f11_change_33 SZ 1000 167 (nI p') (nI t') f (nI l') o1.2.1 o1.2.2 = _
            sorry
  by_cases ef : f = -1
  · obtain ⟨o1, o2, g1, g2, g3, g4⟩ := lend (Or.inl ef)
    refine ⟨o1, o2, ?_, ?_, g3, g4⟩
    · unfold f10_change f10_change_25
      rw [cKp_in a1 hp' ht', Option.bind_some, if_neg (show ¬ (1 : Int32) = 0 by decide), if_pos ef]
      exact g1
    · show f11_change SZ 1000 167 (nI p') (nI t') f l o1.2.1 o1.2.2 = _
      sorry
  · sorry
