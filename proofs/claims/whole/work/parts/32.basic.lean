/-! ===== part 32: who is a trade, a person; numbers in bounds ===== -/
theorem f11_in_eq {S : mm_Sh} {x y z : Int64} {I : mm_I} {J : mm_J} : f11_in S x y z I J = some (b01 (decide (y ≤ x) && decide (x ≤ z))) := by
  unfold f11_in f11_in_17 f11_in_18
  by_cases h1 : y ≤ x
  · have a1 : ¬ lg_cmp x y < 0 := by
      rw [Int32.not_lt]
      exact (lg_cmp_ge x y).mpr h1
    rw [if_neg a1]
    by_cases h2 : x ≤ z
    · have a2 : ¬ 0 < lg_cmp x z := by
        rw [Int32.not_lt]
        exact (lg_cmp_le x z).mpr h2
      rw [if_neg a2]
      simp [h1, h2, b01, mm_bit]
    · have a2 : 0 < lg_cmp x z := by
        rw [← Int32.not_le]
        exact fun q => h2 ((lg_cmp_le x z).mp q)
      rw [if_pos a2]
      simp [h1, h2, b01, mm_bit]
  · have a1 : lg_cmp x y < 0 := by
      rw [← Int32.not_le]
      exact fun q => h1 ((lg_cmp_ge x y).mp q)
    rw [if_pos a1]
    simp [h1, b01, mm_bit]
theorem wide_le (a b : Int32) : a.toInt64 ≤ b.toInt64 ↔ a ≤ b := by
  rw [Int64.le_iff_toInt_le, Int32.le_iff_toInt_le, Int32.toInt_toInt64, Int32.toInt_toInt64]
theorem f11_in_32 {S : mm_Sh} {a b c : Int32} {y z : Int64} {I : mm_I} {J : mm_J} (hy : b.toInt64 = y) (hz : c.toInt64 = z) : f11_in S a.toInt64 y z I J = some (b01 (decide (b ≤ a) && decide (a ≤ c))) := by
  rw [f11_in_eq, ← hy, ← hz]
  simp only [wide_le]
theorem f10_within_eq {S : mm_Sh} {a b c : Int32} {I : mm_I} {J : mm_J} : f10_within S a b c I J = some (b01 (decide (b ≤ a) && decide (a ≤ c))) := by
  unfold f10_within f10_within_14 f10_within_15
  by_cases h1 : b ≤ a
  · rw [if_neg (Int32.not_lt.mpr h1)]
    by_cases h2 : a ≤ c
    · rw [if_neg (Int32.not_lt.mpr h2)]
      simp [h1, h2, b01, mm_bit]
    · rw [if_pos (Int32.not_le.mp h2)]
      simp [h1, h2, b01, mm_bit]
  · rw [if_pos (Int32.not_le.mp h1)]
    simp [h1, b01, mm_bit]
theorem b01_0 {b : Bool} : b01 b = 0 ↔ b = false := by cases b <;> simp [b01]
/-- inside 0 .. n-1, or out -/
theorem in_cases (n : Nat) (hn : n < 2 ^ 31) (a : Int32) : (a < 0 ∨ nI n ≤ a) ∨ ∃ j : Nat, j < n ∧ a = nI j := by
  rcases pk_ix a hn with h | h | h
  · exact Or.inl (Or.inl h)
  · exact Or.inl (Or.inr h)
  · exact Or.inr h
theorem has_in {n t : Nat} (h : t < n) (hn : n < 2 ^ 31) : (if nI t < 0 then (0 : Int32) else if nI n ≤ nI t then 0 else 1) = 1 := by
  rw [if_neg (nI_pos (by omega)), if_neg (nI_ge h hn)]
theorem has_out {n : Nat} {a : Int32} (h : a < 0 ∨ nI n ≤ a) : (if a < 0 then (0 : Int32) else if nI n ≤ a then 0 else 1) = 0 := by
  rcases h with h | h
  · rw [if_pos h]
  · rw [if_pos h]
    split <;> rfl
theorem sub1 {n : Nat} (hn : n < 2 ^ 30) : (nI n - 1).toInt = (n : Int) - 1 := pk_sub_toInt (a := n) (b := 1) hn (by decide)
theorem inm_in {n t : Nat} (h : t < n) (hn : n < 2 ^ 30) : (decide ((0 : Int32) ≤ nI t) && decide (nI t ≤ nI n - 1)) = true := by
  have h1 : (0 : Int32) ≤ nI t := nI_pos' (by omega)
  have h2 : nI t ≤ nI n - 1 := by
    rw [Int32.le_iff_toInt_le, sub1 hn, nI_toInt (by omega)]
    omega
  simp [h1, h2]
theorem inm_out {n : Nat} {a : Int32} (hn : n < 2 ^ 30) (h : a < 0 ∨ nI n ≤ a) : (decide ((0 : Int32) ≤ a) && decide (a ≤ nI n - 1)) = false := by
  rcases h with h | h
  · have : ¬ (0 : Int32) ≤ a := Int32.not_le.mpr h
    simp [this]
  · have : ¬ a ≤ nI n - 1 := by
      rw [Int32.le_iff_toInt_le, sub1 hn]
      rw [Int32.le_iff_toInt_le, nI_toInt (by omega)] at h
      omega
    simp [this]
theorem z64 : (0 : Int32).toInt64 = 0 := by decide +kernel
section RT
variable {T P : Nat} {Ic Im : mm_I} {J : mm_J}
theorem cTr_in (h : rT T P Ic Im) {t : Nat} (ht : t < T) : f0_hasTrade SZ 4 (nI t) Ic J = some 1 := by
  rw [f0_hasTrade_eq, h.2.2.1, has_in ht (by have := h.1; omega)]
theorem cTr_out (h : rT T P Ic Im) {a : Int32} (ha : a < 0 ∨ nI T ≤ a) : f0_hasTrade SZ 4 a Ic J = some 0 := by
  rw [f0_hasTrade_eq, h.2.2.1, has_out ha]
theorem cPe_in (h : rT T P Ic Im) {p : Nat} (hp : p < P) : f0_hasPerson SZ 4 (nI p) Ic J = some 1 := by
  rw [f0_hasPerson_eq, h.2.2.2.2.1, has_in hp (by have := h.2.1; omega)]
theorem cPe_out (h : rT T P Ic Im) {a : Int32} (ha : a < 0 ∨ nI P ≤ a) : f0_hasPerson SZ 4 a Ic J = some 0 := by
  rw [f0_hasPerson_eq, h.2.2.2.2.1, has_out ha]
theorem mTr (h : rT T P Ic Im) {a : Int32} : f11_isTrade SZ 167 a Im J = some (b01 (decide ((0 : Int32) ≤ a) && decide (a ≤ nI T - 1))) := by
  unfold f11_isTrade
  rw [h.2.2.2.1, f11_in_32 z64 rfl, Option.bind_some]
  cases (decide ((0 : Int32) ≤ a) && decide (a ≤ nI T - 1)) <;> rfl
theorem mPe (h : rT T P Ic Im) {a : Int32} : f11_isPerson SZ 167 a Im J = some (b01 (decide ((0 : Int32) ≤ a) && decide (a ≤ nI P - 1))) := by
  unfold f11_isPerson
  rw [h.2.2.2.2.2, f11_in_32 z64 rfl, Option.bind_some]
  cases (decide ((0 : Int32) ≤ a) && decide (a ≤ nI P - 1)) <;> rfl
theorem mTr_in (h : rT T P Ic Im) {t : Nat} (ht : t < T) : f11_isTrade SZ 167 (nI t) Im J = some 1 := by
  rw [mTr h, inm_in ht (by have := h.1; omega)]; rfl
theorem mTr_out (h : rT T P Ic Im) {a : Int32} (ha : a < 0 ∨ nI T ≤ a) : f11_isTrade SZ 167 a Im J = some 0 := by
  rw [mTr h, inm_out (by have := h.1; omega) ha]; rfl
theorem mPe_in (h : rT T P Ic Im) {p : Nat} (hp : p < P) : f11_isPerson SZ 167 (nI p) Im J = some 1 := by
  rw [mPe h, inm_in hp (by have := h.2.1; omega)]; rfl
theorem mPe_out (h : rT T P Ic Im) {a : Int32} (ha : a < 0 ∨ nI P ≤ a) : f11_isPerson SZ 167 a Im J = some 0 := by
  rw [mPe h, inm_out (by have := h.2.1; omega) ha]; rfl
theorem cKp_in (h : rT T P Ic Im) {p t : Nat} (hp : p < P) (ht : t < T) : f10_isKnownPair SZ 0 (nI p) (nI t) Ic J = some 1 := by
  unfold f10_isKnownPair f10_isKnownPair_26 f10_isKnownPair_27
  simp only [zr]
  rw [cPe_in h hp, Option.bind_some, if_neg (by decide), cTr_in h ht, Option.bind_some, if_neg (by decide)]
  rfl
theorem cKp_outT (h : rT T P Ic Im) {p : Nat} {a : Int32} (hp : p < P) (ha : a < 0 ∨ nI T ≤ a) : f10_isKnownPair SZ 0 (nI p) a Ic J = some 0 := by
  unfold f10_isKnownPair f10_isKnownPair_26 f10_isKnownPair_27
  simp only [zr]
  rw [cPe_in h hp, Option.bind_some, if_neg (by decide), cTr_out h ha, Option.bind_some, if_pos rfl]
  rfl
theorem cKp_outP (h : rT T P Ic Im) {a t : Int32} (ha : a < 0 ∨ nI P ≤ a) : f10_isKnownPair SZ 0 a t Ic J = some 0 := by
  unfold f10_isKnownPair f10_isKnownPair_26 f10_isKnownPair_27
  simp only [zr]
  rw [cPe_out h ha, Option.bind_some, if_pos rfl]
  rfl
end RT
theorem mul6 (p t : Nat) : (6 : Int32) * nI p + nI t = nI (6 * p + t) := by
  show nI 6 * nI p + nI t = _
  rw [pk_mul, nI_add]
/-- the places of Folk F's arrays -/
def isF (F : Nat) : Prop := F = 29 ∨ F = 46 ∨ F = 63 ∨ F = 80 ∨ F = 97 ∨ F = 114
theorem rfF {F : Nat} (h : isF F) (k : Nat) (hk : k < 8) : mm_rf SZ F k = F + 1 + 2 * k ∧ mm_rf SZ (F + 1 + 2 * k) 0 = F + 2 + 2 * k ∧ mm_al SZ (F + 2 + 2 * k) = if k = 1 ∨ k = 2 then 48 else 8 := by
  have hk8 : k = 0 ∨ k = 1 ∨ k = 2 ∨ k = 3 ∨ k = 4 ∨ k = 5 ∨ k = 6 ∨ k = 7 := by omega
  rcases h with rfl | rfl | rfl | rfl | rfl | rfl <;> rcases hk8 with rfl | rfl | rfl | rfl | rfl | rfl | rfl | rfl <;> decide +kernel
theorem skillOf_eq {F : Nat} (hF : isF F) {p t : Nat} (hp : p < 8) (ht : t < 6) {I : mm_I} {J : mm_J} : f1_skillOf SZ F (nI p) (nI t) I J = some (I (F + 4) (6 * p + t)) := by
  obtain ⟨e1, e2, e3⟩ := rfF hF 1 (by omega)
  unfold f1_skillOf
  rw [f10_cell_eq hp ht, Option.bind_some, f6_at_eq (by rw [e1, e2, e3]; decide), Option.bind_some, e1, e2, e3]
  rw [rd_at (by simp; omega) (by decide)]
theorem skillOf_neg {F : Nat} (hF : isF F) {p t : Int32} (ht : t < 0) {I : mm_I} {J : mm_J} : f1_skillOf SZ F p t I J = some 0 := by
  obtain ⟨e1, e2, e3⟩ := rfF hF 1 (by omega)
  unfold f1_skillOf
  rw [f10_cell_neg ht, Option.bind_some, f6_at_eq (by rw [e1, e2, e3]; decide), Option.bind_some, e1, e2, e3]
  rw [rd_neg (by decide)]
