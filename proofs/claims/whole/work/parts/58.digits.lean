/-! ===== part 58: states as digits, the least sums (written by wip/whole/pre.py) ===== -/
section DG
variable (w : Nat → Nat)
def stp : Nat → Nat
  | 0 => 1
  | t + 1 => stp t * (w t + 1)
def sw : Nat → Nat
  | 0 => 0
  | t + 1 => sw t + w t
theorem stp_pos : ∀ t, 0 < stp w t
  | 0 => Nat.one_pos
  | t + 1 => Nat.mul_pos (stp_pos t) (Nat.succ_pos _)
def mxr (f : Nat → Nat) (n : Nat) : Nat → Nat
  | 0 => f n
  | j + 1 => max (mxr f n j) ((j + 2) * f (n - (j + 1)))
theorem mxr_le {f : Nat → Nat} {n : Nat} : ∀ {j i : Nat}, i ≤ j → (i + 1) * f (n - i) ≤ mxr f n j
  | 0, i, h => by
    have : i = 0 := by omega
    subst this
    show (0 + 1) * f (n - 0) ≤ f n
    rw [Nat.sub_zero, Nat.zero_add, Nat.one_mul]
    exact Nat.le_refl _
  | j + 1, i, h => by
    by_cases e : i = j + 1
    · subst e
      exact Nat.le_max_right _ _
    · exact Nat.le_trans (mxr_le (by omega)) (Nat.le_max_left _ _)
def mx : Nat → Nat → Nat
  | 0, _ => 1
  | k + 1, n => mxr (mx k) n n
theorem stp_le : ∀ k n, sw w k ≤ n → stp w k ≤ mx k n
  | 0, _, _ => Nat.le_refl 1
  | k + 1, n, h => by
    have h : sw w k + w k ≤ n := h
    have h1 := stp_le k (n - w k) (by omega)
    have h2 : (w k + 1) * mx k (n - w k) ≤ mxr (mx k) n n := mxr_le (f := mx k) (by omega)
    show stp w k * (w k + 1) ≤ mxr (mx k) n n
    refine Nat.le_trans ?_ h2
    rw [Nat.mul_comm]
    exact Nat.mul_le_mul_left _ h1
theorem mx_144 : ∀ T : Fin 7, mx T.1 8 ≤ 144 := by decide +kernel
theorem stp_144 {T : Nat} (hT : T ≤ 6) (h : sw w T ≤ 8) : stp w T ≤ 144 := Nat.le_trans (stp_le w T 8 h) (mx_144 ⟨T, by omega⟩)
theorem sw_mono {k m : Nat} (h : k ≤ m) : sw w k ≤ sw w m := by
  induction m with
  | zero =>
    have : k = 0 := by omega
    subst this; exact Nat.le_refl _
  | succ m ih =>
    by_cases e : k = m + 1
    · rw [e]; exact Nat.le_refl _
    · have := ih (by omega)
      show sw w k ≤ sw w m + w m
      omega
theorem stp_dvd {u t : Nat} (h : u ≤ t) : ∃ m, stp w t = stp w u * m := by
  induction t with
  | zero =>
    have : u = 0 := by omega
    subst this; exact ⟨1, rfl⟩
  | succ t ih =>
    by_cases e : u = t + 1
    · subst e; exact ⟨1, (Nat.mul_one _).symm⟩
    · obtain ⟨m, hm⟩ := ih (by omega)
      exact ⟨m * (w t + 1), by show stp w t * (w t + 1) = _; rw [hm, Nat.mul_assoc]⟩
theorem stp_mono {u t : Nat} (h : u ≤ t) : stp w u ≤ stp w t := by
  obtain ⟨m, hm⟩ := stp_dvd w h
  have h1 := stp_pos w t
  rw [hm] at h1 ⊢
  exact Nat.le_mul_of_pos_right _ (Nat.pos_of_mul_pos_left h1)
def dg (s t : Nat) : Nat := s / stp w t % (w t + 1)
def ds (s : Nat) : Nat → Nat
  | 0 => 0
  | t + 1 => ds s t + dg w s t
theorem mod_succ {a R : Nat} (hR : 0 < R) (h : 0 < (a + 1) % R) : a % R + 1 = (a + 1) % R ∧ (a + 1) / R = a / R := by
  have hb := Nat.mod_lt a hR
  have e : a + 1 = (a % R + 1) + R * (a / R) := by have := Nat.mod_add_div a R; omega
  by_cases c : a % R + 1 < R
  · refine ⟨?_, ?_⟩
    · rw [e, Nat.add_mul_mod_self_left, Nat.mod_eq_of_lt c]
    · rw [e, Nat.add_mul_div_left _ _ hR, Nat.div_eq_of_lt c, Nat.zero_add]
  · exfalso
    have : a % R + 1 = R := by omega
    rw [e, Nat.add_mul_mod_self_left, this, Nat.mod_self] at h
    exact absurd h (Nat.lt_irrefl 0)
theorem dg_sub {s t : Nat} (h : 0 < dg w s t) : stp w t ≤ s ∧ dg w (s - stp w t) t + 1 = dg w s t ∧ ∀ u, u ≠ t → dg w (s - stp w t) u = dg w s u := by
  have hp := stp_pos w t
  have hs : stp w t ≤ s := by
    rcases Nat.lt_or_ge s (stp w t) with c | c
    · exfalso
      unfold dg at h
      rw [Nat.div_eq_of_lt c, Nat.zero_mod] at h
      exact absurd h (Nat.lt_irrefl 0)
    · exact c
  obtain ⟨r, hr⟩ : ∃ r, s = r + stp w t := ⟨s - stp w t, by omega⟩
  subst hr
  rw [Nat.add_sub_cancel]
  have q : ∀ u m, stp w t = stp w u * m → (r + stp w t) / stp w u = r / stp w u + m := fun u m e => by
    rw [e, Nat.add_mul_div_left _ _ (stp_pos w u)]
  have qt := q t 1 (Nat.mul_one _).symm
  have hm : 0 < (r / stp w t + 1) % (w t + 1) := by
    unfold dg at h
    rw [qt] at h
    exact h
  obtain ⟨e1, e2⟩ := mod_succ (Nat.succ_pos (w t)) hm
  refine ⟨hs, ?_, fun u hu => ?_⟩
  · unfold dg
    rw [qt]
    exact e1
  · unfold dg
    rcases Nat.lt_or_ge u t with c | c
    · obtain ⟨m, hm'⟩ := stp_dvd w (show u + 1 ≤ t from c)
      have e : stp w t = stp w u * ((w u + 1) * m) := by
        rw [hm']
        show stp w u * (w u + 1) * m = _
        rw [Nat.mul_assoc]
      rw [q u _ e, Nat.add_mul_mod_self_left]
    · obtain ⟨m, hm'⟩ := stp_dvd w (show t + 1 ≤ u by omega)
      have e : stp w u = stp w t * (w t + 1) * m := hm'
      rw [e, ← Nat.div_div_eq_div_mul, ← Nat.div_div_eq_div_mul, ← Nat.div_div_eq_div_mul, ← Nat.div_div_eq_div_mul, qt, e2]
theorem ds_sub {s t : Nat} (h : 0 < dg w s t) : ∀ T, t < T → ds w (s - stp w t) T + 1 = ds w s T
  | 0, ht => absurd ht (Nat.not_lt_zero t)
  | T + 1, ht => by
    obtain ⟨-, h1, h2⟩ := dg_sub w h
    show ds w (s - stp w t) T + dg w (s - stp w t) T + 1 = ds w s T + dg w s T
    by_cases e : t = T
    · subst e
      have : ∀ k, k ≤ t → ds w (s - stp w t) k = ds w s k := fun k => by
        induction k with
        | zero => intro _; rfl
        | succ k ih =>
          intro hk
          show ds w (s - stp w t) k + dg w (s - stp w t) k = ds w s k + dg w s k
          rw [ih (by omega), h2 k (by omega)]
      rw [this t (Nat.le_refl t)]
      omega
    · have := ds_sub h T (by omega)
      rw [h2 T (by omega)]
      omega
theorem ds_0 : ∀ T, ds w 0 T = 0
  | 0 => rfl
  | T + 1 => by
    show ds w 0 T + dg w 0 T = 0
    unfold dg
    rw [ds_0 T, Nat.zero_div, Nat.zero_mod]
theorem dg_full {t T : Nat} (h : t < T) : dg w (stp w T - 1) t = w t := by
  obtain ⟨m, hm⟩ := stp_dvd w (show t + 1 ≤ T from h)
  have e : stp w T = stp w t * ((w t + 1) * m) := by
    rw [hm]
    show stp w t * (w t + 1) * m = _
    rw [Nat.mul_assoc]
  have hp := stp_pos w t
  have hB : 0 < (w t + 1) * m := by
    have h1 := stp_pos w T
    rw [e] at h1
    exact Nat.pos_of_mul_pos_left h1
  have hm0 : 0 < m := Nat.pos_of_mul_pos_left hB
  obtain ⟨B, hB'⟩ : ∃ B, (w t + 1) * m = B + 1 := ⟨(w t + 1) * m - 1, by omega⟩
  unfold dg
  rw [e, hB', show stp w t * (B + 1) - 1 = (stp w t - 1) + stp w t * B from by
    rw [Nat.mul_succ]; omega, Nat.add_mul_div_left _ _ hp, Nat.div_eq_of_lt (by omega), Nat.zero_add]
  obtain ⟨m', rfl⟩ : ∃ m', m = m' + 1 := ⟨m - 1, by omega⟩
  have : B = w t + (w t + 1) * m' := by
    rw [Nat.mul_succ] at hB'
    omega
  rw [this, Nat.add_mul_mod_self_left, Nat.mod_eq_of_lt (Nat.lt_succ_self _)]
theorem ds_full (T : Nat) : ∀ k, k ≤ T → ds w (stp w T - 1) k = sw w k
  | 0, _ => rfl
  | k + 1, h => by
    show ds w (stp w T - 1) k + dg w (stp w T - 1) k = sw w k + w k
    rw [ds_full T k (by omega), dg_full w (by omega)]
/-! the least sums -/
def mM : Nat := 1000000
def gv (c : Nat → Nat) (E : Nat → Nat) (s t : Nat) : Nat := if dg w s t = 0 then mM else min mM (c t + E (s - stp w t))
def lst (c : Nat → Nat) (E : Nat → Nat) (s : Nat) : Nat → Nat
  | 0 => E s
  | k + 1 => min (lst c E s k) (gv w c E s k)
def EE (T P : Nat) (c : Nat → Nat → Nat) : Nat → Nat → Nat
  | 0, s => if s = 0 then 0 else mM
  | q + 1, s => lst w (c (P - 1 - q)) (EE T P c q) s T
theorem gv_le (c : Nat → Nat) (E : Nat → Nat) (s t : Nat) : gv w c E s t ≤ mM := by
  unfold gv
  split
  · exact Nat.le_refl _
  · exact Nat.min_le_left _ _
theorem lst_le (c : Nat → Nat) (E : Nat → Nat) (s : Nat) : ∀ k, lst w c E s k ≤ E s
  | 0 => Nat.le_refl _
  | k + 1 => Nat.le_trans (Nat.min_le_left _ _) (lst_le c E s k)
theorem EE_le (T P : Nat) (c : Nat → Nat → Nat) : ∀ q s, EE w T P c q s ≤ mM
  | 0, s => by
    show (if s = 0 then 0 else mM) ≤ mM
    split
    · exact Nat.zero_le _
    · exact Nat.le_refl _
  | q + 1, s => Nat.le_trans (lst_le w _ _ s T) (EE_le T P c q s)
theorem lst_far (c : Nat → Nat) (E : Nat → Nat) (s : Nat) (h0 : E s = mM) : ∀ k, (∀ t, t < k → gv w c E s t = mM) → lst w c E s k = mM
  | 0, _ => h0
  | k + 1, h => by
    show min (lst w c E s k) (gv w c E s k) = mM
    rw [lst_far c E s h0 k (fun t ht => h t (by omega)), h k (by omega)]
    exact Nat.min_self _
theorem EE_far {T P : Nat} {c : Nat → Nat → Nat} {Lv : Nat → Bool} (hd : ∀ p t, p < P → t < T → Lv p = false → c p t = mM) : ∀ q s, q ≤ P → cnt Lv P < ds w s T + cnt Lv (P - q) → EE w T P c q s = mM
  | 0, s, _, h => by
    show (if s = 0 then 0 else mM) = mM
    rw [if_neg ?_]
    intro e
    subst e
    rw [ds_0, Nat.sub_zero] at h
    omega
  | q + 1, s, hq, h => by
    have e : P - q = (P - 1 - q) + 1 := by omega
    have hs : cnt Lv (P - q) = cnt Lv (P - 1 - q) + if Lv (P - 1 - q) = true then 1 else 0 := by rw [e]; rfl
    rw [show P - (q + 1) = P - 1 - q by omega] at h
    have h0 : EE w T P c q s = mM := EE_far hd q s (by omega) (by rw [hs]; split <;> omega)
    refine lst_far w _ _ s h0 T fun t ht => ?_
    unfold gv
    split
    · rfl
    · next hz =>
      cases hl : Lv (P - 1 - q)
      · rw [hd _ t (by omega) ht hl]
        exact Nat.min_eq_left (Nat.le_add_right _ _)
      · have hg : 0 < dg w s t := Nat.pos_of_ne_zero hz
        have hds := ds_sub w hg T ht
        have hz : EE w T P c q (s - stp w t) = mM := EE_far hd q _ (by omega) (by
          rw [hs, hl, if_pos rfl]
          omega)
        rw [hz]
        exact Nat.min_eq_left (Nat.le_add_left _ _)
end DG
