/-! ===== part 64: paths as codes; the best of all codes (written by wip/whole/pre.py) ===== -/
def dt8 (c j k : Nat) : Nat := c / 8 ^ (j - 1 - k) % 8
theorem dt8_lt (c j k : Nat) : dt8 c j k < 8 := Nat.mod_lt _ (by decide)
theorem dt8_ext {c x j k : Nat} (hx : x < 8) (hk : k < j) : dt8 (8 * c + x) (j + 1) k = dt8 c j k := by
  unfold dt8
  rw [show j + 1 - 1 - k = (j - 1 - k) + 1 by omega, Nat.pow_succ, Nat.mul_comm (8 ^ (j - 1 - k)) 8, ← Nat.div_div_eq_div_mul, show (8 * c + x) / 8 = c by omega]
theorem dt8_last {c x j : Nat} (hx : x < 8) : dt8 (8 * c + x) (j + 1) j = x := by
  unfold dt8
  rw [show j + 1 - 1 - j = 0 by omega, Nat.pow_zero, Nat.div_one]
  omega
def sG (f : Nat → Nat) : Nat → Nat
  | 0 => 0
  | n + 1 => sG f n + f n
theorem sG_congr {f g : Nat → Nat} : ∀ {n : Nat}, (∀ k, k < n → f k = g k) → sG f n = sG g n
  | 0, _ => rfl
  | n + 1, h => by
    show sG f n + f n = sG g n + g n
    rw [sG_congr (fun k hk => h k (by omega)), h n (by omega)]
section COD
variable (G : Nat → Nat → Nat) (P : Nat)
def Gd (c j : Nat) : Prop := dt8 c j 0 < P ∧ (∀ k, k < j → 1 ≤ k → dt8 c j 0 < dt8 c j k) ∧ (∀ k, k < j - 1 → 0 < G (dt8 c j k) (dt8 c j (k + 1))) ∧ ∀ k, k < j → ∀ i, i < k → dt8 c j i ≠ dt8 c j k
def Sm (c j : Nat) : Nat := sG (fun k => G (dt8 c j k) (dt8 c j (k + 1))) (j - 1)
theorem Gd_ext {c x j : Nat} (hj : 1 ≤ j) (hx : x < 8) : Gd G P (8 * c + x) (j + 1) ↔ Gd G P c j ∧ dt8 c j 0 < x ∧ 0 < G (dt8 c j (j - 1)) x ∧ ∀ i, i < j → dt8 c j i ≠ x := by
  have e : ∀ k, k < j → dt8 (8 * c + x) (j + 1) k = dt8 c j k := fun k hk => dt8_ext hx hk
  have el : dt8 (8 * c + x) (j + 1) j = x := dt8_last hx
  constructor
  · intro ⟨h1, h2, h3, h4⟩
    refine ⟨⟨?_, fun k hk h => ?_, fun k hk => ?_, fun k hk i hi => ?_⟩, ?_, ?_, fun i hi => ?_⟩
    · rw [← e 0 (by omega)]; exact h1
    · rw [← e 0 (by omega), ← e k hk]; exact h2 k (by omega) h
    · rw [← e k (by omega), ← e (k + 1) (by omega)]; exact h3 k (by omega)
    · rw [← e i (by omega), ← e k hk]; exact h4 k (by omega) i hi
    · have := h2 j (by omega) hj
      rw [e 0 (by omega), el] at this
      exact this
    · have := h3 (j - 1) (by omega)
      rw [e (j - 1) (by omega), show j - 1 + 1 = j by omega, el] at this
      exact this
    · have := h4 j (by omega) i hi
      rw [e i hi, el] at this
      exact this
  · intro ⟨⟨h1, h2, h3, h4⟩, g1, g2, g3⟩
    refine ⟨?_, fun k hk h => ?_, fun k hk => ?_, fun k hk i hi => ?_⟩
    · rw [e 0 (by omega)]; exact h1
    · rw [e 0 (by omega)]
      by_cases q : k = j
      · rw [q, el]; exact g1
      · rw [e k (by omega)]; exact h2 k (by omega) h
    · by_cases q : k = j - 1
      · rw [q, e (j - 1) (by omega), show j - 1 + 1 = j by omega, el]; exact g2
      · rw [e k (by omega), e (k + 1) (by omega)]; exact h3 k (by omega)
    · by_cases q : k = j
      · rw [q] at hi ⊢
        rw [e i hi, el]; exact g3 i hi
      · rw [e i (by omega), e k (by omega)]; exact h4 k (by omega) i hi
theorem Sm_ext {c x j : Nat} (hj : 1 ≤ j) (hx : x < 8) : Sm G (8 * c + x) (j + 1) = Sm G c j + G (dt8 c j (j - 1)) x := by
  unfold Sm
  rw [show j + 1 - 1 = (j - 1) + 1 by omega]
  show sG _ (j - 1) + G (dt8 (8 * c + x) (j + 1) (j - 1)) (dt8 (8 * c + x) (j + 1) (j - 1 + 1)) = _
  rw [show j - 1 + 1 = j by omega, dt8_ext hx (show j - 1 < j by omega), dt8_last hx]
  refine congrArg (· + _) (sG_congr fun k hk => ?_)
  show G (dt8 (8 * c + x) (j + 1) k) (dt8 (8 * c + x) (j + 1) (k + 1)) = _
  rw [dt8_ext hx (by omega), dt8_ext hx (by omega)]
theorem bad_ext {c j : Nat} (hj : 1 ≤ j) (h : ¬ Gd G P c j) : ∀ (e c' : Nat), c * 8 ^ e ≤ c' → c' < (c + 1) * 8 ^ e → ¬ Gd G P c' (j + e)
  | 0, c', h1, h2 => by
    rw [Nat.pow_zero, Nat.mul_one] at h1 h2
    have : c' = c := by omega
    rw [this]; exact h
  | e + 1, c', h1, h2 => by
    intro g
    have ec : c' = 8 * (c' / 8) + c' % 8 := by omega
    rw [ec, show j + (e + 1) = (j + e) + 1 by omega, Gd_ext G P (by omega) (by omega)] at g
    rw [Nat.pow_succ, ← Nat.mul_assoc] at h1 h2
    exact bad_ext hj h e (c' / 8) (by omega) (by omega) g.1
def decGd (c j : Nat) : Decidable (Gd G P c j) := by
  unfold Gd
  infer_instance
/-- what a full code gains; 0, if it is no ring -/
def Vr (m c : Nat) : Nat := @ite Nat (Gd G P c m) (decGd G P c m) (if 0 < G (dt8 c m (m - 1)) (dt8 c m 0) then Sm G c m + G (dt8 c m (m - 1)) (dt8 c m 0) else 0) 0
theorem Vr_f {m c : Nat} (h : ¬ Gd G P c m) : Vr G P m c = 0 := if_neg h
theorem Vr_t {m c : Nat} (h : Gd G P c m) : Vr G P m c = if 0 < G (dt8 c m (m - 1)) (dt8 c m 0) then Sm G c m + G (dt8 c m (m - 1)) (dt8 c m 0) else 0 := if_pos h
def upR (m c : Nat) (b : Nat × Nat × Nat) : Nat × Nat × Nat := if b.1 < Vr G P m c then (Vr G P m c, m, c) else b
def foR (m a : Nat) : Nat → Nat × Nat × Nat → Nat × Nat × Nat
  | 0, b => b
  | l + 1, b => upR G P m (a + l) (foR m a l b)
theorem foR_add (m a l1 : Nat) (b : Nat × Nat × Nat) : ∀ l2, foR G P m a (l1 + l2) b = foR G P m (a + l1) l2 (foR G P m a l1 b)
  | 0 => rfl
  | l2 + 1 => by
    show upR G P m (a + (l1 + l2)) (foR G P m a (l1 + l2) b) = upR G P m (a + l1 + l2) (foR G P m (a + l1) l2 (foR G P m a l1 b))
    rw [foR_add m a l1 b l2, Nat.add_assoc]
theorem foR_id (m a : Nat) (b : Nat × Nat × Nat) : ∀ l, (∀ c, a ≤ c → c < a + l → Vr G P m c = 0) → foR G P m a l b = b
  | 0, _ => rfl
  | l + 1, h => by
    show upR G P m (a + l) (foR G P m a l b) = b
    rw [foR_id m a b l (fun c h1 h2 => h c h1 (by omega))]
    unfold upR
    rw [h (a + l) (by omega) (by omega), if_neg (Nat.not_lt_zero _)]
/-- a prefix that leads nowhere -/
theorem foR_bad {m c j : Nat} (hj : 1 ≤ j) (hm : j ≤ m) (h : ¬ Gd G P c j) (b : Nat × Nat × Nat) : foR G P m (c * 8 ^ (m - j)) (8 ^ (m - j)) b = b := by
  refine foR_id G P m _ b _ fun c' h1 h2 => Vr_f G P ?_
  have := bad_ext G P hj h (m - j) c' h1 (by rw [Nat.succ_mul]; exact h2)
  rw [show j + (m - j) = m by omega] at this
  exact this
end COD
