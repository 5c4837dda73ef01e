/-! ===== part 31: the relation between the class's numbers (Ic) and the reference's (Im) ===== -/
/-- bits below n of those that have P -/
def bsI (P : Nat → Bool) : Nat → Int32
  | 0 => 0
  | n + 1 => bsI P n ||| (if P n = true then (1 : Int32) <<< (nI n &&& 31) else 0)
/-- the best of n skills, of like ones the least; -1 without any -/
def bestS (s : Nat → Int32) : Nat → Int32
  | 0 => -1
  | t + 1 => if 0 < s t ∧ (bestS s t < 0 ∨ s (bestS s t).toNatClampNeg < s t) then nI t else bestS s t
/-- the reference's people: arrays by number (0 skills, 1 gone at, 2 ages, 3 lives, 4 practises, 5 learns, 6 learnt, 7 forgets, 8 earned, 9 witness, 10 by night), the year -/
abbrev vw : Type := (Nat → Nat → Int32) × Int32
def vCur (Im : mm_I) : vw := (fun j k => Im (match j with
  | 0 => 174 | 1 => 175 | 2 => 172 | 3 => 173 | 4 => 176 | 5 => 177 | 6 => 178 | 7 => 179 | 8 => 180 | 9 => 181 | _ => 182) k, Im 167 23)
def vImg (Im : mm_I) (i : Nat) : vw := (fun j k => Im 199 (180 * i + k + (match j with
  | 0 => 0 | 1 => 48 | 2 => 96 | 3 => 104 | 4 => 112 | 5 => 120 | 6 => 128 | 7 => 136 | 8 => 144 | 9 => 152 | _ => 160)), Im 199 (180 * i + 168))
def vTold (P : Nat) (Im : mm_I) : vw := (fun j k => match j with
  | 0 => if k < 6 * P then Im 170 k else 0
  | 1 => -1
  | 2 => Im 169 k
  | 3 => if k < P then 1 else 0
  | 4 => bestS (fun t => Im 170 (6 * k + t)) 6
  | 5 => -1
  | 6 => 0
  | 7 => -1
  | _ => 0, 0)
/-- a trade's number below T, or none -/
def orT (T : Nat) (x : Int32) : Prop := x = -1 ∨ ∃ t, t < T ∧ x = nI t
def b01 (b : Bool) : Int32 := if b = true then 1 else 0
/-- the class's Folk at F tells of the same people as v; years at most N -/
def rF (T P N F : Nat) (Ic : mm_I) (v : vw) : Prop :=
  (∀ k, k < 48 → Ic (F + 4) k = v.1 0 k ∧ ∃ s, s ≤ 100 ∧ v.1 0 k = nI s) ∧
  (∀ p t, p < 8 → t < 6 → (P ≤ p ∨ T ≤ t) → v.1 0 (6 * p + t) = 0) ∧
  (∀ k, k < 48 → v.1 0 k = 0 → Ic (F + 6) k = v.1 1 k) ∧
  (∀ k, k < 48 → v.1 1 k = -1 ∨ ∃ y, y ≤ N ∧ v.1 1 k = nI y) ∧
  (∀ k, k < 48 → Ic (F + 6) k = -1 ∨ ∃ y, y ≤ N ∧ Ic (F + 6) k = nI y) ∧
  (∀ p, p < P → Ic (F + 2) p = v.1 2 p) ∧
  (∃ Lv : Nat → Bool, Ic F 8 = bsI Lv 8 ∧ (∀ p, p < 8 → v.1 3 p = b01 (Lv p)) ∧ (∀ p, P ≤ p → Lv p = false) ∧
    (∀ p, p < P → Lv p = false → (∀ t, t < 6 → v.1 0 (6 * p + t) = 0) ∧ v.1 4 p = -1 ∧ v.1 5 p = -1 ∧ v.1 7 p = -1)) ∧
  (∀ p, p < P → Ic (F + 8) p = v.1 4 p ∧ orT T (v.1 4 p)) ∧
  (∀ p, p < P → Ic (F + 10) p = v.1 5 p ∧ orT T (v.1 5 p)) ∧
  (∀ p, p < P → v.1 5 p ≠ -1 → Ic (F + 12) p = v.1 6 p) ∧
  (∀ p, p < P → Ic (F + 14) p = v.1 7 p ∧ orT T (v.1 7 p)) ∧
  (∀ p, p < P → Ic (F + 16) p = v.1 8 p) ∧
  (∃ Wt : Nat → Bool, Ic F 9 = bsI Wt 8 ∧ (∀ p, p < 8 → v.1 9 p = b01 (Wt p)) ∧ ∀ p, P ≤ p → Wt p = false) ∧
  (∃ Nt : Nat → Bool, Ic F 10 = bsI Nt 8 ∧ (∀ p, p < 8 → v.1 10 p = b01 (Nt p)) ∧ ∀ p, P ≤ p → Nt p = false) ∧
  (∃ y, y ≤ N ∧ Ic F 11 = nI y ∧ v.2 = nI y)
def rT (T P : Nat) (Ic Im : mm_I) : Prop := T ≤ 6 ∧ P ≤ 8 ∧ Ic 4 5 = nI T ∧ Im 167 0 = nI T ∧ Ic 4 6 = nI P ∧ Im 167 2 = nI P
def rC (T : Nat) (Ic Im : mm_I) : Prop := ∀ t, t < T → (∃ k, k ≤ 3 ∧ Ic 6 t = nI k ∧ Im 168 (4 * t) = nI k) ∧ (∃ y, 1 ≤ y ∧ y ≤ 9 ∧ Ic 8 t = nI y ∧ Im 168 (4 * t + 1) = nI y) ∧ (∃ w, w ≤ 99 ∧ Ic 10 t = nI w ∧ Im 168 (4 * t + 2) = nI w) ∧ (Ic 12 t = Im 168 (4 * t + 3) ∧ orT t (Ic 12 t))
def rL (Ic Im : mm_I) : Prop := ∀ k, k < 48 → ∃ x, x ≤ 99 ∧ Ic 14 k = nI x ∧ Im 171 k = nI x
def rR (Ic Im : mm_I) : Prop := (∃ h, 1 ≤ h ∧ h ≤ 6 ∧ Ic 26 0 = nI h ∧ Im 167 6 = nI h) ∧ (∃ h, h ≤ 3 ∧ Ic 26 1 = nI h ∧ Im 167 7 = nI h) ∧ (∃ h, 1 ≤ h ∧ h ≤ 100 ∧ Ic 26 2 = nI h ∧ Im 167 8 = nI h) ∧ (∃ h, h ≤ 100 ∧ Ic 26 3 = nI h ∧ Im 167 9 = nI h) ∧ (∃ h, 1 ≤ h ∧ h ≤ 120 ∧ Ic 26 4 = nI h ∧ Im 167 10 = nI h) ∧ ∃ b : Bool, Ic 26 5 = b01 b ∧ Im 167 11 = b01 b
def rW (Ic Im : mm_I) : Prop := ∀ t, t < 6 → ∃ w, w ≤ 8 ∧ Ic 132 t = nI w ∧ Im 183 t = nI w
def rM (T : Nat) (Ic Im : mm_I) : Prop := ∃ M, M ≤ 12 ∧ Ic 133 6 = nI M ∧ Im 167 48 = nI M ∧ ∀ i, i < M → ∃ t q, t < T ∧ 1 ≤ q ∧ q ≤ 100 ∧ Ic 135 i = nI t ∧ Im 194 i = nI t ∧ Ic 137 i = nI q ∧ Im 195 i = nI q
def rB (T P : Nat) (Ic Im : mm_I) : Prop := ∃ M, M ≤ 40 ∧ Ic 133 7 = nI M ∧ Im 167 51 = nI M ∧ ∀ i, i < M → ∃ p t s, p < P ∧ t < T ∧ s ≤ 100 ∧ Ic 141 i = nI p ∧ Im 196 i = nI p ∧ Ic 143 i = nI t ∧ Im 197 i = nI t ∧ Ic 145 i = nI s ∧ Im 198 i = nI s
def rX (Ic Im : mm_I) : Prop := ∃ L, L ≤ 500 ∧ Ic 1 1 = nI L ∧ Im 167 27 = nI L ∧ ∀ k, k < L → ∃ c, c < 256 ∧ Ic 3 k = nI c ∧ Im 184 k = nI c
def rQ (Ic Im : mm_I) : Prop := Ic 1 6 = Im 167 28
def rS (Ic Im : mm_I) : Prop := ∃ s, s < 2 ^ 31 ∧ Ic 29 12 = nI s ∧ Im 167 24 = nI s
/-- image i, kept in the class's Folk at F -/
def rI (T P N i F : Nat) (Ic Im : mm_I) : Prop := ∃ b : Bool, Im 200 i = b01 b ∧ (b = true → rF T P N F Ic (vImg Im i) ∧ ∃ s, s < 2 ^ 31 ∧ Ic F 12 = nI s ∧ Im 199 (180 * i + 169) = nI s)
def rK (Ic Im : mm_I) : Prop := ∃ a b : Bool, Im 200 0 = b01 a ∧ Im 200 1 = b01 b ∧ Ic 0 19 = b01 a ||| (if b = true then 2 else 0)
def rAll (T P N : Nat) (Ic Im : mm_I) : Prop := rT T P Ic Im ∧ rC T Ic Im ∧ rL Ic Im ∧ rR Ic Im ∧ rF T P N 29 Ic (vCur Im) ∧ rS Ic Im ∧ rF T P N 46 Ic (vTold P Im) ∧ rI T P N 0 97 Ic Im ∧ rI T P N 1 114 Ic Im ∧ rK Ic Im ∧ rW Ic Im ∧ rM T Ic Im ∧ rB T P Ic Im ∧ rX Ic Im ∧ rQ Ic Im
def Inv (k : Nat) (I : mm_I) (J : mm_J) : Prop := ∃ T P, rAll T P (100 * k) I I
theorem rF.mono {T P N N2 F : Nat} {Ic : mm_I} {v : vw} (hN : N ≤ N2) (h : rF T P N F Ic v) : rF T P N2 F Ic v := by
  obtain ⟨h1, h2, h3, h4, h5, h6, h7, h8, h9, h10, h11, h12, h13, h14, y, hy, h15⟩ := h
  refine ⟨h1, h2, h3, fun k hk => (h4 k hk).imp id (fun ⟨y, q, e⟩ => ⟨y, by omega, e⟩), fun k hk => (h5 k hk).imp id (fun ⟨y, q, e⟩ => ⟨y, by omega, e⟩), h6, h7, h8, h9, h10, h11, h12, h13, h14, y, by omega, h15⟩
theorem rI.mono {T P N N2 i F : Nat} {Ic Im : mm_I} (hN : N ≤ N2) (h : rI T P N i F Ic Im) : rI T P N2 i F Ic Im := by
  obtain ⟨b, h1, h2⟩ := h
  exact ⟨b, h1, fun hb => ⟨(h2 hb).1.mono hN, (h2 hb).2⟩⟩
theorem rAll.mono {T P N N2 : Nat} {Ic Im : mm_I} (hN : N ≤ N2) (h : rAll T P N Ic Im) : rAll T P N2 Ic Im := by
  obtain ⟨a1, a2, a3, a4, a5, a6, a7, a8, a9, a10⟩ := h
  exact ⟨a1, a2, a3, a4, a5.mono hN, a6, a7.mono hN, a8.mono hN, a9.mono hN, a10⟩
theorem Inv_mono (k : Nat) (I : mm_I) (J : mm_J) (h : Inv k I J) : Inv (k + 1) I J := by
  obtain ⟨T, P, h⟩ := h
  exact ⟨T, P, h.mono (by omega)⟩
/-! what a relation asks of which cells -/
theorem rF.c {T P N F : Nat} {Ic Ic' : mm_I} {v v' : vw} (h : rF T P N F Ic v) (hc : ∀ k, k ≤ 16 → Ic' (F + k) = Ic (F + k)) (hv : v' = v) : rF T P N F Ic' v' := by
  subst hv
  have e := hc 0 (by omega)
  rw [Nat.add_zero] at e
  unfold rF at h ⊢
  rw [hc 4 (by omega), hc 6 (by omega), hc 2 (by omega), hc 8 (by omega), hc 10 (by omega), hc 12 (by omega), hc 14 (by omega), hc 16 (by omega), e]
  exact h
theorem rT.c {T P : Nat} {Ic Ic' Im Im' : mm_I} (h : rT T P Ic Im) (c1 : Ic' 4 5 = Ic 4 5) (c2 : Ic' 4 6 = Ic 4 6) (m1 : Im' 167 0 = Im 167 0) (m2 : Im' 167 2 = Im 167 2) : rT T P Ic' Im' := by
  unfold rT at h ⊢
  rw [c1, c2, m1, m2]; exact h
theorem rC.c {T : Nat} {Ic Ic' Im Im' : mm_I} (h : rC T Ic Im) (c1 : Ic' 6 = Ic 6) (c2 : Ic' 8 = Ic 8) (c3 : Ic' 10 = Ic 10) (c4 : Ic' 12 = Ic 12) (m1 : Im' 168 = Im 168) : rC T Ic' Im' := by
  unfold rC at h ⊢
  rw [c1, c2, c3, c4, m1]; exact h
theorem rL.c {Ic Ic' Im Im' : mm_I} (h : rL Ic Im) (c1 : Ic' 14 = Ic 14) (m1 : Im' 171 = Im 171) : rL Ic' Im' := by
  unfold rL at h ⊢
  rw [c1, m1]; exact h
theorem rR.c {Ic Ic' Im Im' : mm_I} (h : rR Ic Im) (c1 : ∀ k, k ≤ 5 → Ic' 26 k = Ic 26 k) (m1 : ∀ k, 6 ≤ k → k ≤ 11 → Im' 167 k = Im 167 k) : rR Ic' Im' := by
  unfold rR at h ⊢
  rw [c1 0 (by omega), c1 1 (by omega), c1 2 (by omega), c1 3 (by omega), c1 4 (by omega), c1 5 (by omega), m1 6 (by omega) (by omega), m1 7 (by omega) (by omega), m1 8 (by omega) (by omega), m1 9 (by omega) (by omega), m1 10 (by omega) (by omega), m1 11 (by omega) (by omega)]
  exact h
theorem rW.c {Ic Ic' Im Im' : mm_I} (h : rW Ic Im) (c1 : Ic' 132 = Ic 132) (m1 : Im' 183 = Im 183) : rW Ic' Im' := by
  unfold rW at h ⊢
  rw [c1, m1]; exact h
theorem rM.c {T : Nat} {Ic Ic' Im Im' : mm_I} (h : rM T Ic Im) (c1 : Ic' 133 6 = Ic 133 6) (c2 : Ic' 135 = Ic 135) (c3 : Ic' 137 = Ic 137) (m1 : Im' 167 48 = Im 167 48) (m2 : Im' 194 = Im 194) (m3 : Im' 195 = Im 195) : rM T Ic' Im' := by
  unfold rM at h ⊢
  rw [c1, c2, c3, m1, m2, m3]; exact h
theorem rB.c {T P : Nat} {Ic Ic' Im Im' : mm_I} (h : rB T P Ic Im) (c1 : Ic' 133 7 = Ic 133 7) (c2 : Ic' 141 = Ic 141) (c3 : Ic' 143 = Ic 143) (c4 : Ic' 145 = Ic 145) (m1 : Im' 167 51 = Im 167 51) (m2 : Im' 196 = Im 196) (m3 : Im' 197 = Im 197) (m4 : Im' 198 = Im 198) : rB T P Ic' Im' := by
  unfold rB at h ⊢
  rw [c1, c2, c3, c4, m1, m2, m3, m4]; exact h
theorem rX.c {Ic Ic' Im Im' : mm_I} (h : rX Ic Im) (c1 : Ic' 1 1 = Ic 1 1) (c2 : Ic' 3 = Ic 3) (m1 : Im' 167 27 = Im 167 27) (m2 : Im' 184 = Im 184) : rX Ic' Im' := by
  unfold rX at h ⊢
  rw [c1, c2, m1, m2]; exact h
theorem rQ.c {Ic Ic' Im Im' : mm_I} (h : rQ Ic Im) (c1 : Ic' 1 6 = Ic 1 6) (m1 : Im' 167 28 = Im 167 28) : rQ Ic' Im' := by
  unfold rQ at h ⊢
  rw [c1, m1]; exact h
theorem rS.c {Ic Ic' Im Im' : mm_I} (h : rS Ic Im) (c1 : Ic' 29 12 = Ic 29 12) (m1 : Im' 167 24 = Im 167 24) : rS Ic' Im' := by
  unfold rS at h ⊢
  rw [c1, m1]; exact h
theorem rI.c {T P N i F : Nat} {Ic Ic' Im Im' : mm_I} (h : rI T P N i F Ic Im) (hc : ∀ k, k ≤ 16 → Ic' (F + k) = Ic (F + k)) (m1 : Im' 199 = Im 199) (m2 : Im' 200 = Im 200) : rI T P N i F Ic' Im' := by
  obtain ⟨b, h1, h2⟩ := h
  have e := hc 0 (by omega)
  rw [Nat.add_zero] at e
  refine ⟨b, by rw [m2]; exact h1, fun hb => ⟨(h2 hb).1.c hc (by unfold vImg; rw [m1]), ?_⟩⟩
  rw [e, m1]
  exact (h2 hb).2
theorem rK.c {Ic Ic' Im Im' : mm_I} (h : rK Ic Im) (c1 : Ic' 0 19 = Ic 0 19) (m1 : Im' 200 = Im 200) : rK Ic' Im' := by
  unfold rK at h ⊢
  rw [c1, m1]; exact h
theorem vCur_c {Im Im' : mm_I} (h : ∀ r, 172 ≤ r → r ≤ 182 → Im' r = Im r) (hy : Im' 167 23 = Im 167 23) : vCur Im' = vCur Im := by
  unfold vCur
  rw [hy]
  congr 1
  funext j k
  split <;> rw [h _ (by omega) (by omega)]
theorem vTold_c {P : Nat} {Im Im' : mm_I} (h1 : Im' 170 = Im 170) (h2 : Im' 169 = Im 169) : vTold P Im' = vTold P Im := by
  unfold vTold
  rw [h1, h2]
