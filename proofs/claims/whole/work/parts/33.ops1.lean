/-! ===== part 33: the calls that need no loop ===== -/
theorem up_o2 {I : mm_I} {r k a b : Nat} {x : Int32} (h : ¬ (a = r ∧ b = k)) : mm_up I r k x a b = I a b := by
  unfold mm_up upd
  by_cases h1 : a = r
  · rw [if_pos h1]
    rw [if_neg (fun h2 => h ⟨h1, h2⟩)]
  · rw [if_neg h1]
theorem up_s2 {I : mm_I} {r k : Nat} {x : Int32} : mm_up I r k x r k = x := by
  unfold mm_up upd
  simp
theorem st_fault : St_fault Inv := by
  intro k hk I J h
  have h0 := h
  obtain ⟨T, P, a1, a2, a3, a4, a5, a6, a7, a8, a9, a10, a11, a12, a13, a14, a15⟩ := h
  refine ⟨0, I 1 6, I 167 28, ?_, rfl, a15, Inv_mono k I J h0⟩
  unfold f10_fault
  simp only [zr]
theorem st_skill : St_skill Inv := by
  intro k hk a b I J h
  have h0 := h
  obtain ⟨T, P, a1, a2, a3, a4, a5, a6⟩ := h
  have hP := a1.2.1
  have hT := a1.1
  rcases in_cases P (by omega) a with ha | ⟨p, hp, rfl⟩
  · refine ⟨0, -1000000001, -1000000001, ?_, ?_, rfl, Inv_mono k I J h0⟩
    · unfold f10_skill
      rw [cKp_outP a1 ha]; rfl
    · unfold f11_skill
      rw [mPe_out a1 ha]; rfl
  · rcases in_cases T (by omega) b with hb | ⟨t, ht, rfl⟩
    · refine ⟨0, -1000000001, -1000000001, ?_, ?_, rfl, Inv_mono k I J h0⟩
      · unfold f10_skill
        rw [cKp_outT a1 hp hb]; rfl
      · unfold f11_skill
        rw [mPe_in a1 hp, Option.bind_some, if_neg (by decide), mTr_out a1 hb]; rfl
    · refine ⟨0, I 33 (6 * p + t), I 174 (6 * p + t), ?_, ?_, (a5.1 (6 * p + t) (by omega)).1, Inv_mono k I J h0⟩
      · unfold f10_skill f10_skill_23
        simp only [zr]
        rw [cKp_in a1 hp ht, Option.bind_some, if_neg (by decide), skillOf_eq (Or.inl rfl) (by omega) (by omega)]
        rfl
      · unfold f11_skill f11_skill_33
        simp only [zr, za]
        rw [mPe_in a1 hp, Option.bind_some, if_neg (by decide), mTr_in a1 ht, Option.bind_some, if_neg (by decide), mul6, inb_nI (by omega) (by omega), if_pos rfl, nI_clamp (by omega)]
theorem likeOf_eq {p t : Nat} (hp : p < 8) (ht : t < 6) {I : mm_I} {J : mm_J} : f0_likeOf SZ 4 (nI p) (nI t) I J = some (I 14 (6 * p + t)) := by
  unfold f0_likeOf
  rw [f10_cell_eq hp ht, Option.bind_some, f6_at_eq (by simp only [zr, za]; decide), Option.bind_some]
  simp only [zr, za]
  rw [rd_at (by omega) (by decide)]
theorem st_like : St_like Inv := by
  intro k hk a b I J h
  have h0 := h
  obtain ⟨T, P, a1, a2, a3, a4, a5, a6⟩ := h
  have hP := a1.2.1
  have hT := a1.1
  rcases in_cases P (by omega) a with ha | ⟨p, hp, rfl⟩
  · refine ⟨0, -1000000001, -1000000001, ?_, ?_, rfl, Inv_mono k I J h0⟩
    · unfold f10_like
      rw [cKp_outP a1 ha]; rfl
    · unfold f11_like
      rw [mPe_out a1 ha]; rfl
  · rcases in_cases T (by omega) b with hb | ⟨t, ht, rfl⟩
    · refine ⟨0, -1000000001, -1000000001, ?_, ?_, rfl, Inv_mono k I J h0⟩
      · unfold f10_like
        rw [cKp_outT a1 hp hb]; rfl
      · unfold f11_like
        rw [mPe_in a1 hp, Option.bind_some, if_neg (by decide), mTr_out a1 hb]; rfl
    · obtain ⟨x, hx, e1, e2⟩ := a3 (6 * p + t) (by omega)
      refine ⟨0, I 14 (6 * p + t), I 171 (6 * p + t), ?_, ?_, e1.trans e2.symm, Inv_mono k I J h0⟩
      · unfold f10_like f10_like_23
        simp only [zr]
        rw [cKp_in a1 hp ht, Option.bind_some, if_neg (by decide), likeOf_eq (by omega) (by omega)]
        rfl
      · unfold f11_like f11_like_33
        simp only [zr, za]
        rw [mPe_in a1 hp, Option.bind_some, if_neg (by decide), mTr_in a1 ht, Option.bind_some, if_neg (by decide), mul6, inb_nI (by omega) (by omega), if_pos rfl, nI_clamp (by omega)]
/-- numbers in bounds lo .. hi, as both ask -/
theorem bnd_cases (lo hi : Nat) (hl : lo < 2 ^ 30) (hh : hi < 2 ^ 30) (a : Int32) : (decide (nI lo ≤ a) && decide (a ≤ nI hi)) = false ∨ ∃ j : Nat, lo ≤ j ∧ j ≤ hi ∧ a = nI j ∧ (decide (nI lo ≤ a) && decide (a ≤ nI hi)) = true := by
  cases hb : (decide (nI lo ≤ a) && decide (a ≤ nI hi)) with
  | false => exact Or.inl rfl
  | true =>
    rw [Bool.and_eq_true, decide_eq_true_eq, decide_eq_true_eq] at hb
    obtain ⟨h1, h2⟩ := hb
    refine Or.inr ?_
    rw [Int32.le_iff_toInt_le, nI_toInt (by omega)] at h1
    obtain ⟨j, hj, rfl⟩ := nI_of (x := a) (by
      rw [Int32.not_lt, Int32.le_iff_toInt_le]
      show (0 : Int) ≤ _
      omega)
    rw [nI_toInt hj] at h1
    rw [Int32.le_iff_toInt_le, nI_toInt hj, nI_toInt (by omega)] at h2
    exact ⟨j, by omega, by omega, rfl, rfl⟩
theorem cWi {lo hi : Nat} {a : Int32} {I : mm_I} {J : mm_J} : f10_within SZ a (nI lo) (nI hi) I J = some (b01 (decide (nI lo ≤ a) && decide (a ≤ nI hi))) := f10_within_eq
theorem wideN {n : Nat} (h : n < 2 ^ 31) : (nI n).toInt64 = lN n := nI_l h
theorem mWi {lo hi : Nat} {a : Int32} {I : mm_I} {J : mm_J} (h1 : lo < 2 ^ 31) (h2 : hi < 2 ^ 31) : f11_in SZ a.toInt64 (lN lo) (lN hi) I J = some (b01 (decide (nI lo ≤ a) && decide (a ≤ nI hi))) := f11_in_32 (wideN h1) (wideN h2)
theorem st_want : St_want Inv := by
  intro k hk a b I J h
  have h0 := h
  obtain ⟨T, P, a1, a2, a3, a4, a5, a6, a7, a8, a9, a10, a11, a12, a13, a14, a15⟩ := h
  have hT := a1.1
  rcases in_cases T (by omega) a with ha | ⟨t, ht, rfl⟩
  · refine ⟨0, (-1000000001, I, J), (-1000000001, I, J), ?_, ?_, rfl, Inv_mono k I J h0⟩
    · unfold f10_want
      simp only [zr]
      rw [cTr_out a1 ha]; rfl
    · unfold f11_want
      rw [mTr_out a1 ha]; rfl
  · rcases bnd_cases 0 8 (by decide) (by decide) b with hb | ⟨w, hw0, hw, rfl, hb⟩
    · refine ⟨0, (-1000000002, I, J), (-1000000002, I, J), ?_, ?_, rfl, Inv_mono k I J h0⟩
      · unfold f10_want
        simp only [zr]
        rw [cTr_in a1 ht, Option.bind_some, if_neg (by decide), show f10_within SZ b 0 8 I J = _ from cWi (lo := 0) (hi := 8), hb]; rfl
      · unfold f11_want
        rw [mTr_in a1 ht, Option.bind_some, if_neg (by decide), show f11_in SZ b.toInt64 0 8 I J = _ from mWi (lo := 0) (hi := 8) (by decide) (by decide), hb]; rfl
    · obtain ⟨x, hx, e1, e2⟩ := a11 t (by omega)
      have hA : rAll T P (100 * k) (mm_up (mm_up I 132 t (nI w)) 183 t (nI w)) (mm_up (mm_up I 132 t (nI w)) 183 t (nI w)) := ⟨a1.c rfl rfl rfl rfl, a2.c rfl rfl rfl rfl rfl, a3.c rfl rfl, a4.c (fun k hk => by rw [mm_up_o (by omega), mm_up_o (by omega)]) (fun k h1 h2 => by first | rfl | (rw [up_o2 (by omega), up_o2 (by omega)])), a5.c (fun k hk => by rw [mm_up_o (by omega), mm_up_o (by omega)]) (vCur_c (fun r h1 h2 => by rw [mm_up_o (by omega), mm_up_o (by omega)]) rfl), a6.c rfl rfl, a7.c (fun k hk => by rw [mm_up_o (by omega), mm_up_o (by omega)]) (vTold_c rfl rfl), a8.c (fun k hk => by rw [mm_up_o (by omega), mm_up_o (by omega)]) rfl rfl, a9.c (fun k hk => by rw [mm_up_o (by omega), mm_up_o (by omega)]) rfl rfl, a10.c rfl rfl, (fun j hj => by
          by_cases e : j = t
          · subst e
            exact ⟨w, hw, (up_o2 (by omega)).trans up_s2, up_s2⟩
          · obtain ⟨y, hy, f1, f2⟩ := a11 j hj
            exact ⟨y, hy, by rw [up_o2 (by omega), up_o2 (by omega)]; exact f1, by rw [up_o2 (by omega), up_o2 (by omega)]; exact f2⟩), a12.c rfl rfl rfl rfl rfl rfl, a13.c rfl rfl rfl rfl rfl rfl rfl rfl, a14.c rfl rfl rfl rfl, a15.c rfl rfl⟩
      refine ⟨0, (I 132 t, mm_up I 132 t (nI w), J), (I 183 t, mm_up (mm_up I 132 t (nI w)) 183 t (nI w), J), ?_, ?_, e1.trans e2.symm, T, P, hA.mono (by omega)⟩
      · unfold f10_want
        simp only [zr]
        rw [cTr_in a1 ht, Option.bind_some, if_neg (by decide), show f10_within SZ (nI w) 0 8 I J = _ from cWi (lo := 0) (hi := 8), hb, Option.bind_some, if_neg (by decide), f6_at_eq (by simp only [zr, za]; decide), Option.bind_some, f6_put_eq (by simp only [zr, za]; decide), Option.bind_some]
        simp only [zr, za]
        rw [rd_at (by omega) (by decide), wr_at (by omega) (by decide)]
      · unfold f11_want
        simp only [zr, za]
        have b1 : rT T P (mm_up I 132 t (nI w)) (mm_up I 132 t (nI w)) := a1.c rfl rfl rfl rfl
        rw [mTr_in b1 ht, Option.bind_some, if_neg (by decide), show f11_in SZ (nI w).toInt64 0 8 _ J = _ from mWi (lo := 0) (hi := 8) (by decide) (by decide), hb, Option.bind_some, if_neg (by decide), inb_nI (by omega) (by omega), if_pos rfl, if_pos rfl, nI_clamp (by omega)]
        rfl
theorem st_seed : St_seed Inv := by
  intro k hk v I J h
  have h0 := h
  obtain ⟨T, P, a1, a2, a3, a4, a5, a6, a7, a8, a9, a10, a11, a12, a13, a14, a15⟩ := h
  by_cases hv : v < 0
  · refine ⟨0, (-1000000002, I, J), (-1000000002, I, J), ?_, ?_, rfl, Inv_mono k I J h0⟩
    · unfold f10_seed
      rw [if_neg (Int32.not_le.mpr hv)]
    · unfold f11_seed
      rw [if_neg (Int32.not_le.mpr hv)]
  · obtain ⟨s, hs, e1, e2⟩ := a6
    obtain ⟨w, hw, rfl⟩ := nI_of hv
    have a5s : rF T P (100 * k) 29 (mm_up (mm_up I 29 12 (nI w)) 167 24 (nI w)) (vCur (mm_up (mm_up I 29 12 (nI w)) 167 24 (nI w))) := by
      have e : vCur (mm_up (mm_up I 29 12 (nI w)) 167 24 (nI w)) = vCur I := vCur_c (fun r h1 h2 => by rw [mm_up_o (by omega), mm_up_o (by omega)]) rfl
      rw [e]
      unfold rF at a5 ⊢
      exact a5
    have hA : rAll T P (100 * k) (mm_up (mm_up I 29 12 (nI w)) 167 24 (nI w)) (mm_up (mm_up I 29 12 (nI w)) 167 24 (nI w)) := ⟨a1.c rfl rfl rfl rfl, a2.c rfl rfl rfl rfl rfl, a3.c rfl rfl, a4.c (fun k hk => rfl) (fun k h1 h2 => up_o2 (by omega) |>.trans (up_o2 (by omega))), a5s, ⟨w, hw, rfl, rfl⟩, a7.c (fun k hk => by rw [mm_up_o (by omega), mm_up_o (by omega)]) (vTold_c rfl rfl), a8.c (fun k hk => by rw [mm_up_o (by omega), mm_up_o (by omega)]) rfl rfl, a9.c (fun k hk => by rw [mm_up_o (by omega), mm_up_o (by omega)]) rfl rfl, a10.c rfl rfl, a11.c rfl rfl, a12.c rfl rfl rfl rfl rfl rfl, a13.c rfl rfl rfl rfl rfl rfl rfl rfl, a14.c rfl rfl rfl rfl, a15.c rfl rfl⟩
    refine ⟨0, (I 29 12, mm_up I 29 12 (nI w), J), (I 167 24, mm_up (mm_up I 29 12 (nI w)) 167 24 (nI w), J), ?_, ?_, e1.trans e2.symm, T, P, hA.mono (by omega)⟩
    · unfold f10_seed
      simp only [zr]
      rw [if_pos (Int32.not_lt.mp hv)]
    · unfold f11_seed
      rw [if_pos (Int32.not_lt.mp hv)]
      rfl
theorem st_tear : St_tear Inv := by
  intro k hk I J h
  obtain ⟨T, P, a1, a2, a3, a4, a5, a6, a7, a8, a9, a10, a11, ⟨M, hM, m1, m2, m3⟩, ⟨B, hB, b1, b2, b3⟩, a14, a15⟩ := h
  have hA : rAll T P (100 * k) (mm_up (mm_up (mm_up (mm_up I 133 6 0) 133 7 0) 167 51 0) 167 48 0) (mm_up (mm_up (mm_up (mm_up I 133 6 0) 133 7 0) 167 51 0) 167 48 0) := ⟨a1.c rfl rfl rfl rfl, a2.c rfl rfl rfl rfl rfl, a3.c rfl rfl, a4.c (fun k hk => by rw [mm_up_o (by omega), mm_up_o (by omega), mm_up_o (by omega), mm_up_o (by omega)]) (fun k h1 h2 => by first | rfl | (rw [up_o2 (by omega), up_o2 (by omega), up_o2 (by omega), up_o2 (by omega)])), a5.c (fun k hk => by rw [mm_up_o (by omega), mm_up_o (by omega), mm_up_o (by omega), mm_up_o (by omega)]) (vCur_c (fun r h1 h2 => by rw [mm_up_o (by omega), mm_up_o (by omega), mm_up_o (by omega), mm_up_o (by omega)]) rfl), a6.c rfl rfl, a7.c (fun k hk => by rw [mm_up_o (by omega), mm_up_o (by omega), mm_up_o (by omega), mm_up_o (by omega)]) (vTold_c rfl rfl), a8.c (fun k hk => by rw [mm_up_o (by omega), mm_up_o (by omega), mm_up_o (by omega), mm_up_o (by omega)]) rfl rfl, a9.c (fun k hk => by rw [mm_up_o (by omega), mm_up_o (by omega), mm_up_o (by omega), mm_up_o (by omega)]) rfl rfl, a10.c rfl rfl, a11.c rfl rfl, ⟨0, by omega, rfl, rfl, fun i hi => absurd hi (Nat.not_lt_zero i)⟩, ⟨0, by omega, rfl, rfl, fun i hi => absurd hi (Nat.not_lt_zero i)⟩, a14.c rfl rfl rfl rfl, a15.c rfl rfl⟩
  refine ⟨0, (I 133 6 + I 133 7, mm_up (mm_up I 133 6 0) 133 7 0, J), (I 167 51 + I 167 48, mm_up (mm_up (mm_up (mm_up I 133 6 0) 133 7 0) 167 51 0) 167 48 0, J), ?_, ?_, ?_, T, P, hA.mono (by omega)⟩
  · unfold f10_tear f8_clear
    simp only [zr]
    rfl
  · unfold f11_tear
    rfl
  · show I 133 6 + I 133 7 = I 167 51 + I 167 48
    rw [m1, m2, b1, b2, Int32.add_comm]
theorem st_judge : St_judge Inv := by
  intro k hk I J h
  have h0 := h
  obtain ⟨T, P, a1, a2, a3, a4, a5, a6, a7, a8, a9, a10, a11, a12, ⟨B, hB, b1, b2, b3⟩, a14, a15⟩ := h
  have hP := a1.2.1
  have hT := a1.1
  have loop : ∀ (d i : Nat), B < i + d → i ≤ B → ∃ o, f8_firstWrong_2 SZ 100 d 133 29 (nI i) I J = some o ∧ f11_judge_2 SZ 100 d 167 (nI i) I J = some o := by
    intro d
    induction d with
    | zero => intro i h1 h2; omega
    | succ d ih =>
      intro i h1 h2
      by_cases hi : i = B
      · subst hi
        refine ⟨-1, ?_, ?_⟩
        · show f8_firstWrong_2_b SZ 100 (f8_firstWrong_2 SZ 100 d) 133 29 (nI i) I J = _
          unfold f8_firstWrong_2_b
          rw [b1, if_pos (nI_le (Nat.le_refl _) (by omega))]
        · show f11_judge_2_b SZ 100 (f11_judge_2 SZ 100 d) 167 (nI i) I J = _
          unfold f11_judge_2_b
          rw [b2, if_pos (nI_le (Nat.le_refl _) (by omega))]
      · have hlt : i < B := by omega
        obtain ⟨p, t, s, hp, ht, hs, c1, d1, c2, d2, c3, d3⟩ := b3 i hlt
        obtain ⟨q1, -⟩ := a5.1 (6 * p + t) (by omega)
        have q1 : I 33 (6 * p + t) = I 174 (6 * p + t) := q1
        obtain ⟨o, o1, o2⟩ := ih (i + 1) (by omega) (by omega)
        have ec : f8_firstWrong_2 SZ 100 (d + 1) 133 29 (nI i) I J = if I 33 (6 * p + t) = nI s then f8_firstWrong_2 SZ 100 d 133 29 (nI (i + 1)) I J else some (nI i) := by
          show f8_firstWrong_2_b SZ 100 (f8_firstWrong_2 SZ 100 d) 133 29 (nI i) I J = _
          unfold f8_firstWrong_2_b
          rw [b1, if_neg (nI_ge hlt (by omega)), f6_at_eq (by simp only [zr, za]; decide), Option.bind_some, f6_at_eq (by simp only [zr, za]; decide), Option.bind_some]
          simp only [zr, za]
          rw [rd_at (by omega) (by decide), rd_at (by omega) (by decide), c1, c2, skillOf_eq (Or.inl rfl) (by omega) (by omega), Option.bind_some, f6_at_eq (by simp only [zr, za]; decide), Option.bind_some]
          simp only [zr, za]
          rw [rd_at (by omega) (by decide), c3, nI_one]
        have em : f11_judge_2 SZ 100 (d + 1) 167 (nI i) I J = if I 174 (6 * p + t) = nI s then f11_judge_2 SZ 100 d 167 (nI (i + 1)) I J else some (nI i) := by
          show f11_judge_2_b SZ 100 (f11_judge_2 SZ 100 d) 167 (nI i) I J = _
          unfold f11_judge_2_b
          simp only [zr, za]
          rw [b2, if_neg (nI_ge hlt (by omega)), if_pos (inb_nI (by omega) (by omega)), if_pos (inb_nI (by omega) (by omega)), nI_clamp (by omega), d1, d2, d3, mul6, if_pos (inb_nI (by omega) (by omega)), if_pos (inb_nI (by omega) (by omega)), nI_clamp (by omega), nI_one]
        rw [ec, em, q1]
        by_cases he : I 174 (6 * p + t) = nI s
        · rw [if_pos he, if_pos he]
          exact ⟨o, o1, o2⟩
        · rw [if_neg he, if_neg he]
          exact ⟨nI i, rfl, rfl⟩
  obtain ⟨o, o1, o2⟩ := loop 100 0 (by omega) (by omega)
  refine ⟨100, o, o, ?_, ?_, rfl, Inv_mono k I J h0⟩
  · unfold f10_judge f8_firstWrong
    simp only [zr]
    rw [show f8_firstWrong_2 SZ 100 100 133 29 0 I J = some o from o1]
    rfl
  · unfold f11_judge
    exact o2
