/-! ===== part 76: a town told: bits, the draft, the class's run after a fault (written by wip/whole/pre.py) ===== -/
def hb (x : Int64) (k : Nat) : Bool := x.toBitVec.getLsbD k
theorem two_pow : ∀ j : Fin 48, ((1 : Int64) <<< (lN j.1 &&& 63)).toBitVec = BitVec.twoPow 64 j.1 := by decide +kernel
theorem hb_and {x : Int64} {j : Nat} (hj : j < 48) : (lg_cmp (x &&& ((1 : Int64) <<< (lN j &&& 63))) 0 = 0) = (hb x j = false) := by
  have h2 := two_pow ⟨j, hj⟩
  refine propext ?_
  rw [cmp_0, ← Int64.toBitVec_inj, Int64.toBitVec_and, h2, BitVec.and_twoPow]
  unfold hb
  cases x.toBitVec.getLsbD j
  · exact ⟨fun _ => rfl, fun _ => rfl⟩
  · refine ⟨fun q => ?_, fun q => Bool.noConfusion q⟩
    rw [if_pos rfl] at q
    have := congrArg (fun b : BitVec 64 => b.getLsbD j) q
    have e : (BitVec.twoPow 64 j).getLsbD j = true := by
      rw [BitVec.getLsbD_twoPow]
      simp only [decide_true, Bool.and_true, decide_eq_true_eq]
      omega
    have z : (0 : Int64).toBitVec.getLsbD j = false := by
      show (0#64).getLsbD j = false
      exact BitVec.getLsbD_zero
    exact absurd (e.symm.trans (this.trans z)) (by decide)
theorem hb_or {x : Int64} {j k : Nat} (hj : j < 48) : hb (x ||| ((1 : Int64) <<< (lN j &&& 63))) k = (hb x k || decide (j = k)) := by
  have h2 := two_pow ⟨j, hj⟩
  unfold hb
  rw [Int64.toBitVec_or, h2, BitVec.getLsbD_or, BitVec.getLsbD_twoPow, decide_eq_true (show j < 64 by omega), Bool.true_and]
theorem hb_0 {k : Nat} : hb 0 k = false := BitVec.getLsbD_zero
section DRA
variable {tx : Nat → Nat} {L : Nat} {I I' Ic Im Ic' Im' : mm_I} {Jc Jm Jc' : mm_J}
def dT (T P l : Nat) (Ic Im : mm_I) : Prop := T ≤ 6 ∧ P ≤ 8 ∧ l ≤ 40 ∧ Ic 15 5 = nI T ∧ Im 167 34 = nI T ∧ Ic 15 6 = nI P ∧ Im 167 36 = nI P ∧ Ic 146 3 = nI l ∧ Im 167 39 = nI l
def dC (T : Nat) (Ic Im : mm_I) : Prop := ∀ t, t < T → (∃ k, k ≤ 3 ∧ Ic 17 t = nI k ∧ Im 185 (4 * t) = nI k) ∧ (∃ y, 1 ≤ y ∧ y ≤ 9 ∧ Ic 19 t = nI y ∧ Im 185 (4 * t + 1) = nI y) ∧ (∃ w, w ≤ 99 ∧ Ic 21 t = nI w ∧ Im 185 (4 * t + 2) = nI w) ∧ (Ic 23 t = Im 185 (4 * t + 3) ∧ orT t (Ic 23 t))
def dS (T P : Nat) (Ic Im : mm_I) : Prop := (∀ k, k < 48 → 6 * P ≤ k → Ic 67 k = nI 0) ∧ ∀ p t, p < P → t < 6 → ∃ s, s ≤ 100 ∧ Ic 67 (6 * p + t) = nI s ∧ Im 187 (6 * p + t) = nI s ∧ (T ≤ t → s = 0)
def dA (P : Nat) (Ic Im : mm_I) : Prop := ∀ p, p < P → ∃ a, a ≤ 99 ∧ Ic 65 p = nI a ∧ Im 186 p = nI a
def dB (P : Nat) (Ic : mm_I) : Prop := ∀ p, p < P → Ic 71 p = bestS (fun t => Ic 67 (6 * p + t)) 6
def dF (P : Nat) (Ic : mm_I) : Prop := Ic 63 8 = bsI (fun p => decide (p < P)) 8 ∧ Ic 63 9 = nI 0 ∧ Ic 63 10 = nI 0 ∧ Ic 63 11 = nI 0 ∧ (∀ k, k < 48 → Ic 69 k = m1) ∧ ∀ p, p < 8 → Ic 73 p = m1 ∧ Ic 77 p = m1 ∧ Ic 79 p = nI 0
def dL (P : Nat) (Ic : mm_I) (Jc : mm_J) (Im : mm_I) : Prop := ∀ k, k < 48 → (k < 6 * P → (Im 188 k = m1 ∧ Ic 25 k = nI 0 ∧ hb (Jc 146 4) k = false) ∨ ∃ x, x ≤ 99 ∧ Im 188 k = nI x ∧ Ic 25 k = nI x ∧ hb (Jc 146 4) k = true) ∧ (6 * P ≤ k → Ic 25 k = nI 0 ∧ hb (Jc 146 4) k = false)
def dR (T P l : Nat) (Ic : mm_I) (Jc : mm_J) (Im : mm_I) : Prop := dT T P l Ic Im ∧ dC T Ic Im ∧ dS T P Ic Im ∧ dA P Ic Im ∧ dB P Ic ∧ dF P Ic ∧ dL P Ic Jc Im
theorem dT.c {T P l : Nat} (h : dT T P l Ic Im) (c5 : Ic' 15 5 = Ic 15 5) (c6 : Ic' 15 6 = Ic 15 6) (c3 : Ic' 146 3 = Ic 146 3) (m4 : Im' 167 34 = Im 167 34) (m6 : Im' 167 36 = Im 167 36) (m9 : Im' 167 39 = Im 167 39) : dT T P l Ic' Im' := by
  unfold dT at h ⊢
  rw [c5, c6, c3, m4, m6, m9]; exact h
theorem dC.c {T : Nat} (h : dC T Ic Im) (c1 : Ic' 17 = Ic 17) (c2 : Ic' 19 = Ic 19) (c3 : Ic' 21 = Ic 21) (c4 : Ic' 23 = Ic 23) (m : Im' 185 = Im 185) : dC T Ic' Im' := by
  unfold dC at h ⊢
  rw [c1, c2, c3, c4, m]; exact h
theorem dS.c {T P : Nat} (h : dS T P Ic Im) (c : Ic' 67 = Ic 67) (m : Im' 187 = Im 187) : dS T P Ic' Im' := by
  unfold dS at h ⊢
  rw [c, m]; exact h
theorem dA.c {P : Nat} (h : dA P Ic Im) (c : Ic' 65 = Ic 65) (m : Im' 186 = Im 186) : dA P Ic' Im' := by
  unfold dA at h ⊢
  rw [c, m]; exact h
theorem dB.c {P : Nat} (h : dB P Ic) (c : Ic' 67 = Ic 67) (c2 : Ic' 71 = Ic 71) : dB P Ic' := by
  unfold dB at h ⊢
  rw [c, c2]; exact h
theorem dF.c {P : Nat} (h : dF P Ic) (c : ∀ k, k < 12 → Ic' 63 k = Ic 63 k) (c1 : Ic' 69 = Ic 69) (c2 : Ic' 73 = Ic 73) (c3 : Ic' 77 = Ic 77) (c4 : Ic' 79 = Ic 79) : dF P Ic' := by
  unfold dF at h ⊢
  rw [c 8 (by omega), c 9 (by omega), c 10 (by omega), c 11 (by omega), c1, c2, c3, c4]; exact h
theorem dL.c {P : Nat} (h : dL P Ic Jc Im) (c : Ic' 25 = Ic 25) (j : Jc' 146 4 = Jc 146 4) (m : Im' 188 = Im 188) : dL P Ic' Jc' Im' := by
  unfold dL at h ⊢
  rw [c, j, m]; exact h
/-- what the telling changes -/
def fD (I I' : mm_I) : Prop := (∀ r, r ≠ 1 → (r < 15 ∨ 25 < r) → (r < 63 ∨ 79 < r) → r ≠ 146 → I' r = I r) ∧ ∀ k, (k < 2 ∨ 6 < k) → I' 1 k = I 1 k
theorem fD.refl : fD I I := ⟨fun _ _ _ _ _ => rfl, fun _ _ => rfl⟩
theorem fD.trans {I1 I2 : mm_I} (h : fD I I1) (g : fD I1 I2) : fD I I2 := ⟨fun r h1 h2 h3 h4 => (g.1 r h1 h2 h3 h4).trans (h.1 r h1 h2 h3 h4), fun k hk => (g.2 k hk).trans (h.2 k hk)⟩
theorem fR.d (h : fR I I') : fD I I' := ⟨fun r h1 _ _ _ => h.1 r h1, h.2⟩
theorem fD.up {r k : Nat} {x : Int32} (h : (15 ≤ r ∧ r ≤ 25) ∨ (63 ≤ r ∧ r ≤ 79) ∨ r = 146) : fD I (mm_up I r k x) := ⟨fun q h1 h2 h3 h4 => mm_up_o (by omega), fun k _ => by rw [mm_up_o (by omega)]⟩
theorem cT.d (h : cT tx L I) (f : fD I I') : cT tx L I' := h.c (f.2 1 (by omega)) (f.1 3 (by omega) (by omega) (by omega) (by omega))
theorem cA.o {s : Nat} (h : cA tx L s I) (e : I' 1 = I 1) : cA tx L s I' := by
  unfold cA at h ⊢
  rw [e]; exact h
def fMt (I I' : mm_I) : Prop := (∀ r, r ≠ 167 → (r < 185 ∨ 188 < r) → I' r = I r) ∧ ∀ k, k ≠ 28 → k ≠ 29 → k ≠ 31 → k ≠ 32 → k ≠ 33 → k ≠ 34 → k ≠ 36 → k ≠ 39 → I' 167 k = I 167 k
theorem fMt.refl : fMt I I := ⟨fun _ _ _ => rfl, fun _ _ _ _ _ _ _ _ _ => rfl⟩
theorem fMt.trans {I1 I2 : mm_I} (h : fMt I I1) (g : fMt I1 I2) : fMt I I2 := ⟨fun r h1 h2 => (g.1 r h1 h2).trans (h.1 r h1 h2), fun k h1 h2 h3 h4 h5 h6 h7 h8 => (g.2 k h1 h2 h3 h4 h5 h6 h7 h8).trans (h.2 k h1 h2 h3 h4 h5 h6 h7 h8)⟩
theorem fT.t (h : fT I I') : fMt I I' := ⟨fun r h1 _ => h.1 r h1, fun k h1 h2 h3 h4 h5 _ _ _ => h.2 k h1 h2 h3 h4 h5⟩
theorem fMt.up {r k : Nat} {x : Int32} (h : (185 ≤ r ∧ r ≤ 188) ∨ (r = 167 ∧ (k = 28 ∨ k = 29 ∨ k = 34 ∨ k = 36 ∨ k = 39))) : fMt I (mm_up I r k x) := ⟨fun q h1 h2 => mm_up_o (by omega), fun k _ _ _ _ _ _ _ _ => up_o2 (by omega)⟩
theorem mT.t (h : mT tx L I) (f : fMt I I') : mT tx L I' := h.c (f.2 27 (by omega) (by omega) (by omega) (by omega) (by omega) (by omega) (by omega) (by omega)) (f.1 184 (by omega) (by omega))
/-- a fault stands: kind and place stay -/
def XF (tx : Nat → Nat) (L f pl : Nat) (I : mm_I) : Prop := cT tx L I ∧ (∃ s, s ≤ L ∧ cA tx L s I) ∧ (1 ≤ f ∧ f ≤ 4) ∧ I 1 5 = nI f ∧ I 1 6 = nI pl
theorem XF.ne {f pl : Nat} (h : XF tx L f pl I) : ¬ I 1 5 = nI 0 := by
  rw [h.2.2.2.1]
  intro q
  have h3 := h.2.2.1
  have := (nI_eq (by omega) (by omega)).mp q
  omega
theorem XF.o {f pl : Nat} (h : XF tx L f pl I) (e : I' 1 = I 1) (e3 : I' 3 = I 3) : XF tx L f pl I' := by
  obtain ⟨h1, ⟨s, h2, h3⟩, h4, h5, h6⟩ := h
  exact ⟨h1.c (by rw [e]) e3, ⟨s, h2, h3.o e⟩, h4, by rw [e]; exact h5, by rw [e]; exact h6⟩
theorem XF.up {f pl r k : Nat} {x : Int32} (h : XF tx L f pl I) (hr : r ≠ 1 ∧ r ≠ 3) : XF tx L f pl (mm_up I r k x) := h.o (mm_up_o (by omega)) (mm_up_o (by omega))
theorem x_adv {n f pl : Nat} (hn : 501 ≤ n) (h : XF tx L f pl I) : ∃ I', f4_advance SZ n 1 I Jc = some (I', Jc) ∧ fR I I' ∧ XF tx L f pl I' := by
  obtain ⟨h1, ⟨s, h2, h3⟩, h4, h5, h6⟩ := h
  obtain ⟨I', k1, k2, k3, k4, k5⟩ := adv_c (Jc := Jc) hn h1 (ten_le tx L s) h3.2.2
  exact ⟨I', k1, k2, h1.f k2, ⟨_, sk_le tx L _, k3⟩, h4, k4.trans h5, k5.trans h6⟩
theorem x_num {n f pl : Nat} {lo hi : Int32} (hn : 501 ≤ n) (h : XF tx L f pl I) : f4_number SZ n 1 lo hi I Jc = some (m1, I, Jc) := by
  obtain ⟨s, h2, h3⟩ := h.2.1
  exact num_x hn h.1 h2 h3 h.ne
theorem x_blame {n f pl : Nat} {a b : Int32} (h : XF tx L f pl I) : f4_blame SZ 1 a b I Jc = some (I, Jc) := blame_f h.ne
theorem x_sees {n f pl r : Nat} {l : List Nat} (hn : 501 ≤ n) (h : XF tx L f pl I) (hr : isC r l) (hl : 0 < l.length ∧ l.length ≤ 9) (h256 : ∀ k, k < l.length → l.getD k 0 < 256) : ∃ b : Bool, f4_sees SZ n 1 r I Jc = some (b01 b) := by
  obtain ⟨s, h2, h3⟩ := h.2.1
  exact ⟨_, sees_c hn h.1 h2 h3 hr hl h256⟩
/-- a cell written, or none -/
theorem put_any {r a m : Nat} {i x : Int32} (e1 : mm_rf SZ r 0 = a) (e2 : mm_al SZ a = m) (hm : m < 2 ^ 31) (ha : (15 ≤ a ∧ a ≤ 25) ∨ (63 ≤ a ∧ a ≤ 79)) {f pl : Nat} (h : XF tx L f pl I) : ∃ I', f6_put SZ r i x I Jc = some (I', Jc) ∧ fD I I' ∧ XF tx L f pl I' := by
  refine ⟨_, f6_put_eq (by rw [e1, e2]; exact hm), ?_, ?_⟩
  · rw [e1]
    unfold wr
    split
    · exact fD.up (by omega)
    · exact fD.refl
  · rw [e1]
    unfold wr
    split
    · exact h.up (by omega)
    · exact h
theorem ok_dv {s : Nat} {lo hi : Int32} (h : okN tx L s lo hi) : dv tx s (ten tx L s - s) < 1000 ∧ s < ten tx L s ∧ s < L := by
  have hsl : s < L := by
    have := h.1
    unfold tok at this
    split at this
    · assumption
    · omega
  have g3 := ten_run hsl h.1 (Or.inr rfl)
  have := dv_le (tx := tx) (s := s) (i := ten tx L s - s) (fun j hj => tkn_2.mp (g3.2.2.1 _ (by omega) (by omega)))
  have h10 := Nat.pow_le_pow_right (n := 10) (by decide) h.2.1
  exact ⟨by omega, g3.2.1, hsl⟩
theorem ok_le {s lo hi : Nat} (hl : lo < 1000 ∧ hi < 1000) (h : okN tx L s (nI lo) (nI hi)) : lo ≤ dv tx s (ten tx L s - s) ∧ dv tx s (ten tx L s - s) ≤ hi := by
  have := (ok_dv h).1
  exact ⟨(nI_leI (by omega) (by omega)).mp h.2.2.1, (nI_leI (by omega) (by omega)).mp h.2.2.2⟩
theorem ok_lt {s P : Nat} (hP : P < 1000) (h : okN tx L s 0 (nI P - 1)) : dv tx s (ten tx L s - s) < P := by
  have := (ok_dv h).1
  have h4 := h.2.2.2
  by_cases e : P = 0
  · subst e
    exfalso
    have : nI 0 - 1 = m1 := by decide
    rw [this] at h4
    exact absurd h4 (by
      intro q
      have := Int32.le_trans (nI_pos' (n := dv tx s (ten tx L s - s)) (by omega)) q
      exact absurd this (by decide))
  · rw [show nI P - 1 = nI (P - 1) from pk_sub (b := 1) (by omega)] at h4
    have := (nI_leI (by omega) (by omega)).mp h4
    omega
theorem bad_le (s : Nat) : 1 ≤ bad tx L s ∧ bad tx L s ≤ 4 := by
  unfold bad
  split <;> omega
theorem x_bad {s : Nat} (h : cT tx L I) (hs : s ≤ L) (h5 : I 1 5 = nI (bad tx L s)) (h6 : I 1 6 = nI s) (ha : cA tx L s I) : XF tx L (bad tx L s) s I := ⟨h, ⟨s, hs, ha⟩, bad_le s, h5, h6⟩
theorem x_blamed {s f : Nat} (h : cT tx L I) (hs : s ≤ L) (ha : cA tx L s I) (hf : 1 ≤ f ∧ f ≤ 4) (pl : Nat) : XF tx L f pl (mm_up (mm_up I 1 5 (nI f)) 1 6 (nI pl)) := ⟨h.f ((fR.up (by omega)).trans (fR.up (by omega))), ⟨s, hs, by rw [up_o2 (by omega), up_o2 (by omega)]; exact ha.1, by rw [up_o2 (by omega), up_o2 (by omega)]; exact ha.2.1, by rw [up_o2 (by omega), up_o2 (by omega)]; exact ha.2.2⟩, hf, by rw [up_o2 (by omega), up_s2], up_s2⟩
end DRA
