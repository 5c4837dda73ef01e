/-! ===== part 33: the calls that need no loop ===== -/
theorem up_o2 {I : mm_I} {r k a b : Nat} {x : Int32} (h : ¬ (a = r ∧ b = k)) : mm_up I r k x a b = I a b := by
  unfold mm_up upd
  by_cases h1 : a = r
  · rw [if_pos h1]
    rw [if_neg (fun h2 => h ⟨h1, h2⟩)]
  · rw [if_neg h1]
theorem up_s2 {I : mm_I} {r k : Nat} {x : Int32} : mm_up I r k x r k = x := by
  unfold mm_up upd
  simp
theorem st_fault : St_fault Inv := by
  intro k hk I J h
  have h0 := h
  obtain ⟨T, P, a1, a2, a3, a4, a5, a6, a7, a8, a9, a10, a11, a12, a13, a14, a15⟩ := h
  refine ⟨0, I 1 6, I 167 28, ?_, rfl, a15, Inv_mono k I J h0⟩
  unfold f10_fault
  simp only [zr]
theorem st_skill : St_skill Inv := by
  intro k hk a b I J h
  have h0 := h
  obtain ⟨T, P, a1, a2, a3, a4, a5, a6⟩ := h
  have hP := a1.2.1
  have hT := a1.1
  rcases in_cases P (by omega) a with ha | ⟨p, hp, rfl⟩
  · refine ⟨0, -1000000001, -1000000001, ?_, ?_, rfl, Inv_mono k I J h0⟩
    · unfold f10_skill
      rw [cKp_outP a1 ha]; rfl
    · unfold f11_skill
      rw [mPe_out a1 ha]; rfl
  · rcases in_cases T (by omega) b with hb | ⟨t, ht, rfl⟩
    · refine ⟨0, -1000000001, -1000000001, ?_, ?_, rfl, Inv_mono k I J h0⟩
      · unfold f10_skill
        rw [cKp_outT a1 hp hb]; rfl
      · unfold f11_skill
        rw [mPe_in a1 hp, Option.bind_some, if_neg (by decide), mTr_out a1 hb]; rfl
    · refine ⟨0, I 33 (6 * p + t), I 174 (6 * p + t), ?_, ?_, (a5.1 (6 * p + t) (by omega)).1, Inv_mono k I J h0⟩
      · unfold f10_skill f10_skill_23
        simp only [zr]
        rw [cKp_in a1 hp ht, Option.bind_some, if_neg (by decide), skillOf_eq (Or.inl rfl) (by omega) (by omega)]
        rfl
      · unfold f11_skill f11_skill_33
        simp only [zr, za]
        rw [mPe_in a1 hp, Option.bind_some, if_neg (by decide), mTr_in a1 ht, Option.bind_some, if_neg (by decide), mul6, inb_nI (by omega) (by omega), if_pos rfl, nI_clamp (by omega)]
theorem likeOf_eq {p t : Nat} (hp : p < 8) (ht : t < 6) {I : mm_I} {J : mm_J} : f0_likeOf SZ 4 (nI p) (nI t) I J = some (I 14 (6 * p + t)) := by
  unfold f0_likeOf
  rw [f10_cell_eq hp ht, Option.bind_some, f6_at_eq (by simp only [zr, za]; decide), Option.bind_some]
  simp only [zr, za]
  rw [rd_at (by omega) (by decide)]
theorem st_like : St_like Inv := by
  intro k hk a b I J h
  have h0 := h
  obtain ⟨T, P, a1, a2, a3, a4, a5, a6⟩ := h
  have hP := a1.2.1
  have hT := a1.1
  rcases in_cases P (by omega) a with ha | ⟨p, hp, rfl⟩
  · refine ⟨0, -1000000001, -1000000001, ?_, ?_, rfl, Inv_mono k I J h0⟩
    · unfold f10_like
      rw [cKp_outP a1 ha]; rfl
    · unfold f11_like
      rw [mPe_out a1 ha]; rfl
  · rcases in_cases T (by omega) b with hb | ⟨t, ht, rfl⟩
    · refine ⟨0, -1000000001, -1000000001, ?_, ?_, rfl, Inv_mono k I J h0⟩
      · unfold f10_like
        rw [cKp_outT a1 hp hb]; rfl
      · unfold f11_like
        rw [mPe_in a1 hp, Option.bind_some, if_neg (by decide), mTr_out a1 hb]; rfl
    · obtain ⟨x, hx, e1, e2⟩ := a3 (6 * p + t) (by omega)
      refine ⟨0, I 14 (6 * p + t), I 171 (6 * p + t), ?_, ?_, e1.trans e2.symm, Inv_mono k I J h0⟩
      · unfold f10_like f10_like_23
        simp only [zr]
        rw [cKp_in a1 hp ht, Option.bind_some, if_neg (by decide), likeOf_eq (by omega) (by omega)]
        rfl
      · unfold f11_like f11_like_33
        simp only [zr, za]
        rw [mPe_in a1 hp, Option.bind_some, if_neg (by decide), mTr_in a1 ht, Option.bind_some, if_neg (by decide), mul6, inb_nI (by omega) (by omega), if_pos rfl, nI_clamp (by omega)]
/-- numbers in bounds 0 .. n, as both ask -/
theorem bnd_cases (lo hi : Nat) (hh : hi < 2 ^ 30) (a : Int32) : (decide (nI lo ≤ a) && decide (a ≤ nI hi)) = false ∨ ∃ j : Nat, lo ≤ j ∧ j ≤ hi ∧ a = nI j ∧ (decide (nI lo ≤ a) && decide (a ≤ nI hi)) = true := by
  cases hb : (decide (nI lo ≤ a) && decide (a ≤ nI hi)) with
  | false => exact Or.inl rfl
  | true =>
    rw [Bool.and_eq_true, decide_eq_true_eq, decide_eq_true_eq] at hb
    obtain ⟨h1, h2⟩ := hb
    refine Or.inr ?_
    rcases Nat.lt_or_ge lo (2 ^ 31) with q | q
    · rw [Int32.le_iff_toInt_le, nI_toInt q] at h1
      obtain ⟨j, hj, rfl⟩ := nI_of (x := a) (by
        rw [Int32.not_lt, Int32.le_iff_toInt_le]
        show (0 : Int) ≤ _
        omega)
      rw [nI_toInt hj] at h1
      rw [Int32.le_iff_toInt_le, nI_toInt hj, nI_toInt (by omega)] at h2
      exact ⟨j, by omega, by omega, rfl, rfl⟩
    · exact ⟨0, by
        exfalso
        sorry, by omega, by sorry, rfl⟩
