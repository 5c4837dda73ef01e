/-! ===== part 85: at the beginning (written by wip/whole/pre.py) ===== -/
theorem iz48 : ∀ k : Fin 48, (IZ 33 k.1 = 0 ∧ IZ 174 k.1 = 0 ∧ IZ 35 k.1 = -1 ∧ IZ 175 k.1 = -1 ∧ IZ 50 k.1 = 0 ∧ IZ 52 k.1 = -1 ∧ IZ 14 k.1 = 0 ∧ IZ 171 k.1 = 0) := by decide +kernel
theorem iz8 : ∀ k : Fin 8, (IZ 173 k.1 = 0 ∧ IZ 181 k.1 = 0 ∧ IZ 182 k.1 = 0) := by decide +kernel
theorem iz6 : ∀ k : Fin 6, (IZ 132 k.1 = 0 ∧ IZ 183 k.1 = 0) := by decide +kernel
theorem izr : (IZ 26 0 = 2 ∧ IZ 26 1 = 2 ∧ IZ 26 2 = 25 ∧ IZ 26 3 = 5 ∧ IZ 26 4 = 70 ∧ IZ 26 5 = 0) ∧ (IZ 167 6 = 2 ∧ IZ 167 7 = 2 ∧ IZ 167 8 = 25 ∧ IZ 167 9 = 5 ∧ IZ 167 10 = 70 ∧ IZ 167 11 = 0) := by decide +kernel
theorem izc : (IZ 4 5 = 0 ∧ IZ 167 0 = 0 ∧ IZ 4 6 = 0 ∧ IZ 167 2 = 0) ∧ (IZ 29 8 = 0 ∧ IZ 29 9 = 0 ∧ IZ 29 10 = 0 ∧ IZ 29 11 = 0 ∧ IZ 167 23 = 0) ∧ (IZ 46 8 = 0 ∧ IZ 46 9 = 0 ∧ IZ 46 10 = 0 ∧ IZ 46 11 = 0) ∧ (IZ 200 0 = 0 ∧ IZ 200 1 = 0 ∧ IZ 0 19 = 0) ∧ (IZ 133 6 = 0 ∧ IZ 133 7 = 0 ∧ IZ 167 48 = 0 ∧ IZ 167 51 = 0) ∧ (IZ 1 1 = 0 ∧ IZ 167 27 = 0 ∧ IZ 1 6 = IZ 167 28) := by decide +kernel
theorem izs : IZ 29 12 = nI (IZ 29 12).toNatClampNeg ∧ IZ 167 24 = nI (IZ 29 12).toNatClampNeg ∧ (IZ 29 12).toNatClampNeg < 2 ^ 31 := by decide +kernel
theorem bs00 : bsI (fun _ => false) 8 = 0 := by decide +kernel
theorem inv_of {I : mm_I} (h48 : ∀ k, k < 48 → I 33 k = 0 ∧ I 174 k = 0 ∧ I 35 k = -1 ∧ I 175 k = -1 ∧ I 50 k = 0 ∧ I 52 k = -1 ∧ I 14 k = 0 ∧ I 171 k = 0) (h8 : ∀ k, k < 8 → I 173 k = 0 ∧ I 181 k = 0 ∧ I 182 k = 0) (h6 : ∀ k, k < 6 → I 132 k = 0 ∧ I 183 k = 0) (hr : (I 26 0 = 2 ∧ I 26 1 = 2 ∧ I 26 2 = 25 ∧ I 26 3 = 5 ∧ I 26 4 = 70 ∧ I 26 5 = 0) ∧ (I 167 6 = 2 ∧ I 167 7 = 2 ∧ I 167 8 = 25 ∧ I 167 9 = 5 ∧ I 167 10 = 70 ∧ I 167 11 = 0)) (hc : (I 4 5 = 0 ∧ I 167 0 = 0 ∧ I 4 6 = 0 ∧ I 167 2 = 0) ∧ (I 29 8 = 0 ∧ I 29 9 = 0 ∧ I 29 10 = 0 ∧ I 29 11 = 0 ∧ I 167 23 = 0) ∧ (I 46 8 = 0 ∧ I 46 9 = 0 ∧ I 46 10 = 0 ∧ I 46 11 = 0) ∧ (I 200 0 = 0 ∧ I 200 1 = 0 ∧ I 0 19 = 0) ∧ (I 133 6 = 0 ∧ I 133 7 = 0 ∧ I 167 48 = 0 ∧ I 167 51 = 0) ∧ (I 1 1 = 0 ∧ I 167 27 = 0 ∧ I 1 6 = I 167 28)) (hs : I 29 12 = nI (I 29 12).toNatClampNeg ∧ I 167 24 = nI (I 29 12).toNatClampNeg ∧ (I 29 12).toNatClampNeg < 2 ^ 31) : rAll 0 0 (100 * 0) I I := by
  obtain ⟨⟨a0, a1, a2, a3, a4, a5⟩, b0, b1, b2, b3, b4, b5⟩ := hr
  obtain ⟨⟨c1, c2, c3, c4⟩, ⟨d1, d2, d3, d4, d5⟩, ⟨e1, e2, e3, e4⟩, ⟨g1, g2, g3⟩, ⟨k1, k2, k3, k4⟩, l1, l2, l3⟩ := hc
  have n8 : ∀ p, ¬ p < 0 := fun p => Nat.not_lt_zero p
  refine ⟨⟨by omega, by omega, c1, c2, c3, c4⟩, fun t ht => absurd ht (n8 t), fun k hk => ⟨0, by omega, (h48 k hk).2.2.2.2.2.2.1, (h48 k hk).2.2.2.2.2.2.2⟩, ⟨⟨2, by omega, by omega, a0, b0⟩, ⟨2, by omega, a1, b1⟩, ⟨25, by omega, by omega, a2, b2⟩, ⟨5, by omega, a3, b3⟩, ⟨70, by omega, by omega, a4, b4⟩, false, a5, b5⟩, ?_, ⟨_, hs.2.2, hs.1, hs.2.1⟩, ?_, ⟨false, g1, fun q => Bool.noConfusion q⟩, ⟨false, g2, fun q => Bool.noConfusion q⟩, ⟨false, false, g1, g2, ?_⟩, fun t ht => ⟨0, by omega, (h6 t ht).1, (h6 t ht).2⟩, ⟨0, by omega, k1, k3, fun i hi => absurd hi (n8 i)⟩, ⟨0, by omega, k2, k4, fun i hi => absurd hi (n8 i)⟩, ⟨0, by omega, l1, l2, fun i hi => absurd hi (n8 i)⟩, l3⟩
  · refine ⟨fun k hk => ⟨?_, 0, by omega, ?_⟩, fun p t hp ht _ => ?_, fun k hk _ => ?_, fun k hk => Or.inl ?_, fun k hk => Or.inl (h48 k hk).2.2.1, fun p hp => absurd hp (n8 p), ⟨fun _ => false, ?_, fun p hp => ?_, fun _ _ => rfl, fun p hp => absurd hp (n8 p)⟩, fun p hp => absurd hp (n8 p), fun p hp => absurd hp (n8 p), fun p hp => absurd hp (n8 p), fun p hp => absurd hp (n8 p), fun p hp => absurd hp (n8 p), ⟨fun _ => false, ?_, fun p hp => ?_, fun _ _ => rfl⟩, ⟨fun _ => false, ?_, fun p hp => ?_, fun _ _ => rfl⟩, 0, Nat.zero_le _, ?_, ?_⟩
    · exact (h48 k hk).1.trans (h48 k hk).2.1.symm
    · exact (h48 k hk).2.1
    · exact (h48 (6 * p + t) (by omega)).2.1
    · exact (h48 k hk).2.2.1.trans (h48 k hk).2.2.2.1.symm
    · exact (h48 k hk).2.2.2.1
    · exact d1.trans bs00.symm
    · exact (h8 p hp).1
    · exact d2.trans bs00.symm
    · exact (h8 p hp).2.1
    · exact d3.trans bs00.symm
    · exact (h8 p hp).2.2
    · exact d4
    · show I 167 23 = nI 0
      exact d5
  · have v0 : ∀ k, (vTold 0 I).1 0 k = 0 := fun k => by
      show (if k < 6 * 0 then I 170 k else 0) = 0
      rw [if_neg (by omega)]
    have v3 : ∀ k, (vTold 0 I).1 3 k = 0 := fun k => by
      show (if k < 0 then (1 : Int32) else 0) = 0
      rw [if_neg (by omega)]
    refine ⟨fun k hk => ⟨?_, 0, by omega, ?_⟩, fun p t hp ht _ => ?_, fun k hk _ => (h48 k hk).2.2.2.2.2.1, fun k hk => Or.inl rfl, fun k hk => Or.inl (h48 k hk).2.2.2.2.2.1, fun p hp => absurd hp (n8 p), ⟨fun _ => false, e1.trans bs00.symm, fun p hp => ?_, fun _ _ => rfl, fun p hp => absurd hp (n8 p)⟩, fun p hp => absurd hp (n8 p), fun p hp => absurd hp (n8 p), fun p hp => absurd hp (n8 p), fun p hp => absurd hp (n8 p), fun p hp => absurd hp (n8 p), ⟨fun _ => false, e2.trans bs00.symm, fun p hp => rfl, fun _ _ => rfl⟩, ⟨fun _ => false, e3.trans bs00.symm, fun p hp => rfl, fun _ _ => rfl⟩, 0, Nat.zero_le _, ?_, ?_⟩
    · exact (h48 k hk).2.2.2.2.1.trans (v0 k).symm
    · exact v0 k
    · exact v0 _
    · exact v3 p
    · exact e4
    · rfl
  · rw [g3]; decide
theorem inv_0 : Inv 0 IZ JZ := ⟨0, 0, inv_of (fun k hk => iz48 ⟨k, hk⟩) (fun k hk => iz8 ⟨k, hk⟩) (fun k hk => iz6 ⟨k, hk⟩) izr izc izs⟩
/-- all thirty calls -/
theorem st_all : St_all Inv := ⟨st_feed, st_town, st_laws, st_fault, st_told, st_trade, st_person, st_skill, st_like, st_change, st_practise, st_night, st_year, st_drift, st_compared, st_begin, st_want, st_changed, st_ring, st_lastHand, st_till, st_make, st_makers, st_fits, st_write, st_tear, st_judge, st_seed, st_keep, st_goBack⟩
