/-! ===== part 34: make, write ===== -/
theorem ge12 {M n : Nat} (h : M < n) (hn : n < 2 ^ 31) : ¬ nI n ≤ nI M := nI_ge h hn
theorem ne_nI {a b : Nat} (h : a ≠ b) (ha : a < 2 ^ 31) (hb : b < 2 ^ 31) : ¬ nI a = nI b := fun e => h ((nI_eq ha hb).mp e)
theorem cAdd {M : Nat} {a q : Int32} {I : mm_I} {J : mm_J} (hm : I 133 6 = nI M) (hM : M < 12) : f8_addThing SZ 133 a q I J = some (nI (M + 1), mm_up (mm_up (mm_up I 135 M a) 137 M q) 133 6 (nI (M + 1)), J) := by
  have e1 : (mm_up I 135 M a) 133 6 = nI M := hm
  have e2 : (mm_up (mm_up I 135 M a) 137 M q) 133 6 = nI M := hm
  unfold f8_addThing
  rw [f6_put_eq (by simp only [zr, za]; decide), Option.bind_some]
  simp only [zr, za]
  rw [hm, wr_at hM (by decide)]
  simp only [e1]
  rw [f6_put_eq (by simp only [zr, za]; decide), Option.bind_some]
  simp only [zr, za]
  rw [wr_at hM (by decide), e2, nI_one, up_s2]
theorem mMake {T P M t q : Nat} {Ic Im : mm_I} {J : mm_J} (h : rT T P Ic Im) (ht : t < T) (hq : (decide (nI 1 ≤ nI q) && decide (nI q ≤ nI 100)) = true) (hm : Im 167 48 = nI M) (hM : M < 12) : f11_make SZ 167 (nI t) (nI q) Im J = some (nI (M + 1), mm_up (mm_up (mm_up Im 194 M (nI t)) 195 M (nI q)) 167 48 (nI (M + 1)), J) := by
  have e1 : (mm_up Im 194 M (nI t)) 167 48 = nI M := hm
  have e2 : (mm_up (mm_up Im 194 M (nI t)) 195 M (nI q)) 167 48 = nI M := hm
  have hb : mm_inb (nI M) 12 = true := inb_nI hM (by omega)
  have hc : (nI M).toNatClampNeg = M := nI_clamp (by omega)
  unfold f11_make
  simp only [zr, za]
  rw [mTr_in h ht, Option.bind_some, if_neg (by decide), show f11_in SZ (nI q).toInt64 1 100 Im J = _ from mWi (lo := 1) (hi := 100) (by decide) (by decide), hq, Option.bind_some, if_neg (by decide)]
  simp only [hm, hc]
  rw [if_neg (show ¬ nI M = 12 from ne_nI (b := 12) (by omega) (by omega) (by decide)), if_pos hb]
  simp only [e1, hc, hb, if_true]
  simp only [e2, nI_one, up_s2]
theorem st_make : St_make Inv := by
  intro k hk a b I J h
  have h0 := h
  obtain ⟨T, P, a1, a2, a3, a4, a5, a6, a7, a8, a9, a10, a11, a12, a13, a14, a15⟩ := h
  have hT := a1.1
  rcases in_cases T (by omega) a with ha | ⟨t, ht, rfl⟩
  · refine ⟨0, (-1000000001, I, J), (-1000000001, I, J), ?_, ?_, rfl, Inv_mono k I J h0⟩
    · unfold f10_make
      simp only [zr]
      rw [cTr_out a1 ha]; rfl
    · unfold f11_make
      rw [mTr_out a1 ha]; rfl
  · rcases bnd_cases 1 100 (by decide) (by decide) b with hb | ⟨q, hq1, hq2, rfl, hb⟩
    · refine ⟨0, (-1000000002, I, J), (-1000000002, I, J), ?_, ?_, rfl, Inv_mono k I J h0⟩
      · unfold f10_make
        simp only [zr]
        rw [cTr_in a1 ht, Option.bind_some, if_neg (by decide), show f10_within SZ b 1 100 I J = _ from cWi (lo := 1) (hi := 100), hb]; rfl
      · unfold f11_make
        rw [mTr_in a1 ht, Option.bind_some, if_neg (by decide), show f11_in SZ b.toInt64 1 100 I J = _ from mWi (lo := 1) (hi := 100) (by decide) (by decide), hb]; rfl
    · obtain ⟨M, hM, m1, m2, m3⟩ := a12
      by_cases hf : M = 12
      · subst hf
        refine ⟨0, (-1000000004, I, J), (-1000000004, I, J), ?_, ?_, rfl, Inv_mono k I J h0⟩
        · unfold f10_make f10_make_53
          simp only [zr]
          rw [cTr_in a1 ht, Option.bind_some, if_neg (by decide), show f10_within SZ (nI q) 1 100 I J = _ from cWi (lo := 1) (hi := 100), hb, Option.bind_some, if_neg (by decide), m1, if_pos (show (12 : Int32) ≤ nI 12 from nI_le (Nat.le_refl 12) (by decide))]
        · show f11_make SZ 167 (nI t) (nI q) I J = some (-1000000004, I, J)
          unfold f11_make
          rw [mTr_in a1 ht, Option.bind_some, if_neg (by decide), show f11_in SZ (nI q).toInt64 1 100 I J = _ from mWi (lo := 1) (hi := 100) (by decide) (by decide), hb, Option.bind_some, if_neg (by decide), m2, if_pos (show nI 12 = (12 : Int32) from rfl)]
      · have hM : M < 12 := by omega
        have hA : rAll T P (100 * k) (mm_up (mm_up (mm_up (mm_up (mm_up (mm_up I 135 M (nI t)) 137 M (nI q)) 133 6 (nI (M + 1))) 194 M (nI t)) 195 M (nI q)) 167 48 (nI (M + 1))) (mm_up (mm_up (mm_up (mm_up (mm_up (mm_up I 135 M (nI t)) 137 M (nI q)) 133 6 (nI (M + 1))) 194 M (nI t)) 195 M (nI q)) 167 48 (nI (M + 1))) := ⟨a1.c rfl rfl rfl rfl, a2.c rfl rfl rfl rfl rfl, a3.c rfl rfl, a4.c (fun k hk => by rw [up_o2 (by omega), up_o2 (by omega), up_o2 (by omega), up_o2 (by omega), up_o2 (by omega), up_o2 (by omega)]) (fun k h1 h2 => by rw [up_o2 (by omega), up_o2 (by omega), up_o2 (by omega), up_o2 (by omega), up_o2 (by omega), up_o2 (by omega)]), a5.c (fun k hk => by rw [mm_up_o (by omega), mm_up_o (by omega), mm_up_o (by omega), mm_up_o (by omega), mm_up_o (by omega), mm_up_o (by omega)]) (vCur_c (fun r h1 h2 => by rw [mm_up_o (by omega), mm_up_o (by omega), mm_up_o (by omega), mm_up_o (by omega), mm_up_o (by omega), mm_up_o (by omega)]) rfl), a6.c rfl rfl, a7.c (fun k hk => by rw [mm_up_o (by omega), mm_up_o (by omega), mm_up_o (by omega), mm_up_o (by omega), mm_up_o (by omega), mm_up_o (by omega)]) (vTold_c rfl rfl), a8.c (fun k hk => by rw [mm_up_o (by omega), mm_up_o (by omega), mm_up_o (by omega), mm_up_o (by omega), mm_up_o (by omega), mm_up_o (by omega)]) rfl rfl, a9.c (fun k hk => by rw [mm_up_o (by omega), mm_up_o (by omega), mm_up_o (by omega), mm_up_o (by omega), mm_up_o (by omega), mm_up_o (by omega)]) rfl rfl, a10.c rfl rfl, a11.c rfl rfl, ⟨M + 1, by omega, rfl, rfl, fun i hi => by
          by_cases e : i = M
          · subst e
            exact ⟨t, q, ht, hq1, hq2, by rw [up_o2 (by omega), up_o2 (by omega), up_o2 (by omega), up_o2 (by omega), up_o2 (by omega), up_s2], by rw [up_o2 (by omega), up_o2 (by omega), up_s2], by rw [up_o2 (by omega), up_o2 (by omega), up_o2 (by omega), up_o2 (by omega), up_s2], by rw [up_o2 (by omega), up_s2]⟩
          · obtain ⟨t', q', f1, f2, f3, f4, f5, f6, f7⟩ := m3 i (by omega)
            refine ⟨t', q', f1, f2, f3, ?_, ?_, ?_, ?_⟩ <;> rw [up_o2 (by omega), up_o2 (by omega), up_o2 (by omega), up_o2 (by omega), up_o2 (by omega), up_o2 (by omega)] <;> assumption⟩, a13.c rfl rfl rfl rfl rfl rfl rfl rfl, a14.c rfl rfl rfl rfl, a15.c rfl rfl⟩
        refine ⟨0, (nI (M + 1), (mm_up (mm_up (mm_up I 135 M (nI t)) 137 M (nI q)) 133 6 (nI (M + 1))), J), (nI (M + 1), (mm_up (mm_up (mm_up (mm_up (mm_up (mm_up I 135 M (nI t)) 137 M (nI q)) 133 6 (nI (M + 1))) 194 M (nI t)) 195 M (nI q)) 167 48 (nI (M + 1))), J), ?_, ?_, rfl, T, P, hA.mono (by omega)⟩
        · unfold f10_make f10_make_53
          simp only [zr]
          rw [cTr_in a1 ht, Option.bind_some, if_neg (by decide), show f10_within SZ (nI q) 1 100 I J = _ from cWi (lo := 1) (hi := 100), hb, Option.bind_some, if_neg (by decide), m1, if_neg (show ¬ (12 : Int32) ≤ nI M from nI_ge (b := 12) hM (by decide)), cAdd m1 hM, Option.bind_some]
        · exact mMake (Ic := (mm_up (mm_up (mm_up I 135 M (nI t)) 137 M (nI q)) 133 6 (nI (M + 1)))) (a1.c rfl rfl rfl rfl) ht hb m2 hM
theorem cAddE {M : Nat} {a b q : Int32} {I : mm_I} {J : mm_J} (hm : I 133 7 = nI M) (hM : M < 40) : f8_addEntry SZ 133 a b q I J = some (nI (M + 1), mm_up (mm_up (mm_up (mm_up I 141 M a) 143 M b) 145 M q) 133 7 (nI (M + 1)), J) := by
  have e1 : (mm_up I 141 M a) 133 7 = nI M := hm
  have e2 : (mm_up (mm_up I 141 M a) 143 M b) 133 7 = nI M := hm
  have e3 : (mm_up (mm_up (mm_up I 141 M a) 143 M b) 145 M q) 133 7 = nI M := hm
  unfold f8_addEntry
  rw [f6_put_eq (by simp only [zr, za]; decide), Option.bind_some]
  simp only [zr, za]
  rw [hm, wr_at hM (by decide)]
  simp only [e1]
  rw [f6_put_eq (by simp only [zr, za]; decide), Option.bind_some]
  simp only [zr, za]
  rw [wr_at hM (by decide)]
  simp only [e2]
  rw [f6_put_eq (by simp only [zr, za]; decide), Option.bind_some]
  simp only [zr, za]
  rw [wr_at hM (by decide), e3, nI_one, up_s2]
theorem mWrite {T P M p t q : Nat} {Ic Im : mm_I} {J : mm_J} (h : rT T P Ic Im) (hp : p < P) (ht : t < T) (hq : (decide (nI 0 ≤ nI q) && decide (nI q ≤ nI 100)) = true) (hm : Im 167 51 = nI M) (hM : M < 40) : f11_write SZ 167 (nI p) (nI t) (nI q) Im J = some (nI (M + 1), mm_up (mm_up (mm_up (mm_up Im 196 M (nI p)) 197 M (nI t)) 198 M (nI q)) 167 51 (nI (M + 1)), J) := by
  have e1 : (mm_up Im 196 M (nI p)) 167 51 = nI M := hm
  have e2 : (mm_up (mm_up Im 196 M (nI p)) 197 M (nI t)) 167 51 = nI M := hm
  have e3 : (mm_up (mm_up (mm_up Im 196 M (nI p)) 197 M (nI t)) 198 M (nI q)) 167 51 = nI M := hm
  have hb : mm_inb (nI M) 40 = true := inb_nI hM (by omega)
  have hc : (nI M).toNatClampNeg = M := nI_clamp (by omega)
  unfold f11_write
  simp only [zr, za]
  rw [mPe_in h hp, Option.bind_some, if_neg (by decide), mTr_in h ht, Option.bind_some, if_neg (by decide), show f11_in SZ (nI q).toInt64 0 100 Im J = _ from mWi (lo := 0) (hi := 100) (by decide) (by decide), hq, Option.bind_some, if_neg (by decide)]
  simp only [hm, hc]
  rw [if_neg (show ¬ nI M = 40 from ne_nI (b := 40) (by omega) (by omega) (by decide)), if_pos hb]
  simp only [e1, hc, hb, if_true]
  simp only [e2, hc, hb, if_true]
  simp only [e3, nI_one, up_s2]
theorem st_write : St_write Inv := by
  intro k hk a b c I J h
  have h0 := h
  obtain ⟨T, P, a1, a2, a3, a4, a5, a6, a7, a8, a9, a10, a11, a12, a13, a14, a15⟩ := h
  have hT := a1.1
  have hP := a1.2.1
  rcases in_cases P (by omega) a with ha | ⟨p, hp, rfl⟩
  · refine ⟨0, (-1000000001, I, J), (-1000000001, I, J), ?_, ?_, rfl, Inv_mono k I J h0⟩
    · unfold f10_write
      rw [cKp_outP a1 ha]; rfl
    · unfold f11_write
      rw [mPe_out a1 ha]; rfl
  · rcases in_cases T (by omega) b with hb | ⟨t, ht, rfl⟩
    · refine ⟨0, (-1000000001, I, J), (-1000000001, I, J), ?_, ?_, rfl, Inv_mono k I J h0⟩
      · unfold f10_write
        rw [cKp_outT a1 hp hb]; rfl
      · unfold f11_write
        rw [mPe_in a1 hp, Option.bind_some, if_neg (by decide), mTr_out a1 hb]; rfl
    · rcases bnd_cases 0 100 (by decide) (by decide) c with hb | ⟨q, hq1, hq2, rfl, hb⟩
      · refine ⟨0, (-1000000002, I, J), (-1000000002, I, J), ?_, ?_, rfl, Inv_mono k I J h0⟩
        · unfold f10_write
          rw [cKp_in a1 hp ht, Option.bind_some, if_neg (by decide), show f10_within SZ c 0 100 I J = _ from cWi (lo := 0) (hi := 100), hb]; rfl
        · unfold f11_write
          rw [mPe_in a1 hp, Option.bind_some, if_neg (by decide), mTr_in a1 ht, Option.bind_some, if_neg (by decide), show f11_in SZ c.toInt64 0 100 I J = _ from mWi (lo := 0) (hi := 100) (by decide) (by decide), hb]; rfl
      · obtain ⟨M, hM, m1, m2, m3⟩ := a13
        by_cases hf : M = 40
        · subst hf
          refine ⟨0, (-1000000004, I, J), (-1000000004, I, J), ?_, ?_, rfl, Inv_mono k I J h0⟩
          · unfold f10_write f10_write_52
            simp only [zr]
            rw [cKp_in a1 hp ht, Option.bind_some, if_neg (by decide), show f10_within SZ (nI q) 0 100 I J = _ from cWi (lo := 0) (hi := 100), hb, Option.bind_some, if_neg (by decide), m1, if_pos (show (40 : Int32) ≤ nI 40 from nI_le (Nat.le_refl 40) (by decide))]
          · show f11_write SZ 167 (nI p) (nI t) (nI q) I J = some (-1000000004, I, J)
            unfold f11_write
            rw [mPe_in a1 hp, Option.bind_some, if_neg (by decide), mTr_in a1 ht, Option.bind_some, if_neg (by decide), show f11_in SZ (nI q).toInt64 0 100 I J = _ from mWi (lo := 0) (hi := 100) (by decide) (by decide), hb, Option.bind_some, if_neg (by decide), m2, if_pos (show nI 40 = (40 : Int32) from rfl)]
        · have hM : M < 40 := by omega
          have hA : rAll T P (100 * k) (mm_up (mm_up (mm_up (mm_up (mm_up (mm_up (mm_up (mm_up I 141 M (nI p)) 143 M (nI t)) 145 M (nI q)) 133 7 (nI (M + 1))) 196 M (nI p)) 197 M (nI t)) 198 M (nI q)) 167 51 (nI (M + 1))) (mm_up (mm_up (mm_up (mm_up (mm_up (mm_up (mm_up (mm_up I 141 M (nI p)) 143 M (nI t)) 145 M (nI q)) 133 7 (nI (M + 1))) 196 M (nI p)) 197 M (nI t)) 198 M (nI q)) 167 51 (nI (M + 1))) := ⟨a1.c rfl rfl rfl rfl, a2.c rfl rfl rfl rfl rfl, a3.c rfl rfl, a4.c (fun k hk => by rw [up_o2 (by omega), up_o2 (by omega), up_o2 (by omega), up_o2 (by omega), up_o2 (by omega), up_o2 (by omega), up_o2 (by omega), up_o2 (by omega)]) (fun k h1 h2 => by rw [up_o2 (by omega), up_o2 (by omega), up_o2 (by omega), up_o2 (by omega), up_o2 (by omega), up_o2 (by omega), up_o2 (by omega), up_o2 (by omega)]), a5.c (fun k hk => by rw [mm_up_o (by omega), mm_up_o (by omega), mm_up_o (by omega), mm_up_o (by omega), mm_up_o (by omega), mm_up_o (by omega), mm_up_o (by omega), mm_up_o (by omega)]) (vCur_c (fun r h1 h2 => by rw [mm_up_o (by omega), mm_up_o (by omega), mm_up_o (by omega), mm_up_o (by omega), mm_up_o (by omega), mm_up_o (by omega), mm_up_o (by omega), mm_up_o (by omega)]) rfl), a6.c rfl rfl, a7.c (fun k hk => by rw [mm_up_o (by omega), mm_up_o (by omega), mm_up_o (by omega), mm_up_o (by omega), mm_up_o (by omega), mm_up_o (by omega), mm_up_o (by omega), mm_up_o (by omega)]) (vTold_c rfl rfl), a8.c (fun k hk => by rw [mm_up_o (by omega), mm_up_o (by omega), mm_up_o (by omega), mm_up_o (by omega), mm_up_o (by omega), mm_up_o (by omega), mm_up_o (by omega), mm_up_o (by omega)]) rfl rfl, a9.c (fun k hk => by rw [mm_up_o (by omega), mm_up_o (by omega), mm_up_o (by omega), mm_up_o (by omega), mm_up_o (by omega), mm_up_o (by omega), mm_up_o (by omega), mm_up_o (by omega)]) rfl rfl, a10.c rfl rfl, a11.c rfl rfl, a12.c rfl rfl rfl rfl rfl rfl, ⟨M + 1, by omega, rfl, rfl, fun i hi => by
            by_cases e : i = M
            · subst e
              exact ⟨p, t, q, hp, ht, hq2, by simp [mm_up, upd], by simp [mm_up, upd], by simp [mm_up, upd], by simp [mm_up, upd], by simp [mm_up, upd], by simp [mm_up, upd]⟩
            · obtain ⟨p', t', q', f1, f2, f3, f4, f5, f6, f7, f8, f9⟩ := m3 i (by omega)
              refine ⟨p', t', q', f1, f2, f3, ?_, ?_, ?_, ?_, ?_, ?_⟩ <;> rw [up_o2 (by omega), up_o2 (by omega), up_o2 (by omega), up_o2 (by omega), up_o2 (by omega), up_o2 (by omega), up_o2 (by omega), up_o2 (by omega)] <;> assumption⟩, a14.c rfl rfl rfl rfl, a15.c rfl rfl⟩
          refine ⟨0, (nI (M + 1), (mm_up (mm_up (mm_up (mm_up I 141 M (nI p)) 143 M (nI t)) 145 M (nI q)) 133 7 (nI (M + 1))), J), (nI (M + 1), (mm_up (mm_up (mm_up (mm_up (mm_up (mm_up (mm_up (mm_up I 141 M (nI p)) 143 M (nI t)) 145 M (nI q)) 133 7 (nI (M + 1))) 196 M (nI p)) 197 M (nI t)) 198 M (nI q)) 167 51 (nI (M + 1))), J), ?_, ?_, rfl, T, P, hA.mono (by omega)⟩
          · unfold f10_write f10_write_52
            simp only [zr]
            rw [cKp_in a1 hp ht, Option.bind_some, if_neg (by decide), show f10_within SZ (nI q) 0 100 I J = _ from cWi (lo := 0) (hi := 100), hb, Option.bind_some, if_neg (by decide), m1, if_neg (show ¬ (40 : Int32) ≤ nI M from nI_ge (b := 40) hM (by decide)), cAddE m1 hM, Option.bind_some]
          · exact mWrite (Ic := (mm_up (mm_up (mm_up (mm_up I 141 M (nI p)) 143 M (nI t)) 145 M (nI q)) 133 7 (nI (M + 1)))) (a1.c rfl rfl rfl rfl) hp ht hb m2 hM
