/-! ===== part 84: the call town (written by wip/whole/pre.py) ===== -/
section STT
variable {tx : Nat → Nat} {L : Nat} {I I' Ic Im Im' : mm_I} {Jc Jm : mm_J}
/-- the draft's people are those told -/
theorem dR.told {T P l N : Nat} (h : dR T P l Ic Jc Im) (m0 : ∀ q, q < 48 → Im' 169 (q / 6) = Im 186 (q / 6) ∧ Im' 170 q = Im 187 q) : rF T P N 63 Ic (vTold P Im') := by
  obtain ⟨⟨t1, t2, t3, c5, m4, c6, m6, c3, m9⟩, rC, rS, rA, rB, ⟨f1, f2, f3, f4, f5, f6⟩, rL⟩ := h
  have v0 : ∀ k, (vTold P Im').1 0 k = if k < 6 * P then Im' 170 k else 0 := fun _ => rfl
  have sk' : ∀ k, k < 6 * P → k < 48 → ∃ s, s ≤ 100 ∧ Ic 67 k = nI s ∧ Im' 170 k = nI s ∧ (T ≤ k % 6 → s = 0) := fun k h1 h2 => by
    obtain ⟨s, s1, s2, s3, s4⟩ := rS.2 (k / 6) (k % 6) (by omega) (by omega)
    have e : 6 * (k / 6) + k % 6 = k := by omega
    rw [e] at s2 s3
    exact ⟨s, s1, s2, by rw [(m0 k h2).2]; exact s3, s4⟩
  have bst : ∀ p, p < P → bestS (fun t => Im' 170 (6 * p + t)) 6 = bestS (fun t => Ic 67 (6 * p + t)) 6 := fun p hp => bestS_congr (by omega) (fun t ht => by
    obtain ⟨s, s1, s2, s3, s4⟩ := sk' (6 * p + t) (by omega) (by omega)
    rw [s2, s3])
  refine ⟨fun k hk => ?_, fun p t hp ht hq => ?_, fun k hk _ => f5 k hk, fun k _ => Or.inl rfl, fun k hk => Or.inl (f5 k hk), fun p hp => ?_, ⟨fun p => decide (p < P), f1, fun p hp => ?_, fun p hp => decide_eq_false (by omega), fun p hp hq => absurd hp (of_decide_eq_false hq)⟩, fun p hp => ?_, fun p hp => ⟨(f6 p (by omega)).1, Or.inl rfl⟩, fun p hp hq => absurd rfl hq, fun p hp => ⟨(f6 p (by omega)).2.1, Or.inl rfl⟩, fun p hp => (f6 p (by omega)).2.2, ⟨fun _ => false, ?_, fun _ _ => rfl, fun _ _ => rfl⟩, ⟨fun _ => false, ?_, fun _ _ => rfl, fun _ _ => rfl⟩, 0, Nat.zero_le N, f4, rfl⟩
  · rw [v0]
    by_cases e : k < 6 * P
    · rw [if_pos e]
      obtain ⟨s, s1, s2, s3, s4⟩ := sk' k e hk
      exact ⟨s2.trans s3.symm, s, s1, s3⟩
    · rw [if_neg e]
      exact ⟨rS.1 k hk (by omega), 0, by omega, rfl⟩
  · rw [v0]
    by_cases e : 6 * p + t < 6 * P
    · rw [if_pos e]
      obtain ⟨s, s1, s2, s3, s4⟩ := sk' (6 * p + t) e (by omega)
      have : s = 0 := s4 (by omega)
      rw [s3, this]
      rfl
    · rw [if_neg e]
  · obtain ⟨a, a1, a2, a3⟩ := rA p hp
    have := (m0 (6 * p) (by omega)).1
    rw [show 6 * p / 6 = p by omega] at this
    show Ic 65 p = Im' 169 p
    rw [this, a2, a3]
  · show (if p < P then (1 : Int32) else 0) = b01 (decide (p < P))
    unfold b01
    by_cases e : p < P
    · rw [if_pos e, decide_eq_true e, if_pos rfl]
    · rw [if_neg e, decide_eq_false e, if_neg (by decide)]
  · show Ic 71 p = bestS (fun t => Im' 170 (6 * p + t)) 6 ∧ orT T (bestS (fun t => Im' 170 (6 * p + t)) 6)
    refine ⟨by rw [bst p hp]; exact rB p hp, ?_⟩
    rcases bestS_cases (fun t => Im' 170 (6 * p + t)) 6 with q | ⟨b, q1, q2, q3⟩
    · exact Or.inl q
    · refine Or.inr ⟨b, ?_, q2⟩
      obtain ⟨s, s1, s2, s3, s4⟩ := sk' (6 * p + b) (by omega) (by omega)
      refine Classical.byContradiction fun w => ?_
      have : s = 0 := s4 (by omega)
      rw [s3, this] at q3
      exact absurd q3 (by decide)
  · rw [f2]; decide +kernel
  · rw [f3]; decide +kernel
/-- the crafts become the draft's -/
theorem copyC {n : Nat} (hn : 49 ≤ n) (I : mm_I) (J : mm_J) : ∃ I', f0_copyFrom SZ n 4 15 I J = some (I', J) ∧ (∀ r, (r < 4 ∨ 14 < r) → I' r = I r) ∧ (∀ q, q < 6 → I' 6 q = I 17 q ∧ I' 8 q = I 19 q ∧ I' 10 q = I 21 q ∧ I' 12 q = I 23 q) ∧ (∀ q, q < 48 → I' 14 q = I 25 q) ∧ I' 4 5 = I 15 5 ∧ I' 4 6 = I 15 6 := by
  have e0 : ∀ I : mm_I, f6_copyFrom SZ n 5 16 I J = some (cpA I 6 17 6, J) := fun I => cpX (by decide +kernel) (by decide +kernel) (by decide +kernel) (by decide +kernel) (by omega) (by omega)
  have e1 : ∀ I : mm_I, f6_copyFrom SZ n 7 18 I J = some (cpA I 8 19 6, J) := fun I => cpX (by decide +kernel) (by decide +kernel) (by decide +kernel) (by decide +kernel) (by omega) (by omega)
  have e2 : ∀ I : mm_I, f6_copyFrom SZ n 9 20 I J = some (cpA I 10 21 6, J) := fun I => cpX (by decide +kernel) (by decide +kernel) (by decide +kernel) (by decide +kernel) (by omega) (by omega)
  have e3 : ∀ I : mm_I, f6_copyFrom SZ n 11 22 I J = some (cpA I 12 23 6, J) := fun I => cpX (by decide +kernel) (by decide +kernel) (by decide +kernel) (by decide +kernel) (by omega) (by omega)
  have e4 : ∀ I : mm_I, f6_copyFrom SZ n 13 24 I J = some (cpA I 14 25 48, J) := fun I => cpX (by decide +kernel) (by decide +kernel) (by decide +kernel) (by decide +kernel) (by omega) (by omega)
  refine ⟨mm_up (mm_up (cpA (cpA (cpA (cpA (cpA I 6 17 6) 8 19 6) 10 21 6) 12 23 6) 14 25 48) 4 5 (I 15 5)) 4 6 (I 15 6), ?_, fun r hr => ?_, fun q hq => ⟨?_, ?_, ?_, ?_⟩, fun q hq => ?_, ?_, up_s2⟩
  · unfold f0_copyFrom
    simp only [zr]
    rw [e0, Option.bind_some, e1, Option.bind_some, e2, Option.bind_some, e3, Option.bind_some, e4, Option.bind_some]
    dsimp only
    rw [mm_up_o (show (15 : Nat) ≠ 4 by omega), cpA_o (show (15 : Nat) ≠ 14 by omega), cpA_o (show (15 : Nat) ≠ 12 by omega), cpA_o (show (15 : Nat) ≠ 10 by omega), cpA_o (show (15 : Nat) ≠ 8 by omega), cpA_o (show (15 : Nat) ≠ 6 by omega)]
  · rw [mm_up_o (by omega), mm_up_o (by omega), cpA_o (by omega), cpA_o (by omega), cpA_o (by omega), cpA_o (by omega), cpA_o (by omega)]
  · rw [mm_up_o (by omega), mm_up_o (by omega), cpA_o (by omega), cpA_o (by omega), cpA_o (by omega), cpA_o (by omega), cpA_in hq]
  · rw [mm_up_o (by omega), mm_up_o (by omega), cpA_o (by omega), cpA_o (by omega), cpA_o (by omega), cpA_in hq, cpA_o (by omega)]
  · rw [mm_up_o (by omega), mm_up_o (by omega), cpA_o (by omega), cpA_o (by omega), cpA_in hq, cpA_o (by omega), cpA_o (by omega)]
  · rw [mm_up_o (by omega), mm_up_o (by omega), cpA_o (by omega), cpA_in hq, cpA_o (by omega), cpA_o (by omega), cpA_o (by omega)]
  · rw [mm_up_o (by omega), mm_up_o (by omega), cpA_in hq, cpA_o (by omega), cpA_o (by omega), cpA_o (by omega), cpA_o (by omega)]
  · rw [up_o2 (by omega), up_s2]
/-- after a fault all stays but the text -/
theorem rAll.tdr {T P N N2 : Nat} {Ic' : mm_I} (h : rAll T P N Ic Im) (hN : N ≤ N2) (fc : ∀ r, r ≠ 1 → (r < 15 ∨ 25 < r) → (r < 63 ∨ 79 < r) → r ≠ 146 → Ic' r = Ic r) (f1 : ∀ r, r ≠ 167 → (r < 185 ∨ 188 < r) → Im' r = Im r) (f2 : ∀ k, k ≠ 27 → k ≠ 28 → k ≠ 29 → k ≠ 31 → k ≠ 32 → k ≠ 33 → k ≠ 34 → k ≠ 36 → k ≠ 39 → Im' 167 k = Im 167 k) (hX : rX Ic' Im') (hQ : rQ Ic' Im') : rAll T P N2 Ic' Im' := by
  obtain ⟨a1, a2, a3, a4, a5, a6, a7, a8, a9, a10, a11, a12, a13, a14, a15⟩ := h
  have g : ∀ r k, r ≠ 1 → (r < 15 ∨ 25 < r) → (r < 63 ∨ 79 < r) → r ≠ 146 → Ic' r k = Ic r k := fun r k h1 h2 h3 h4 => by rw [fc r h1 h2 h3 h4]
  have m : ∀ k, (k < 27 ∨ 39 < k) → Im' 167 k = Im 167 k := fun k hk => f2 k (by omega) (by omega) (by omega) (by omega) (by omega) (by omega) (by omega) (by omega) (by omega)
  have c : ∀ r, r ≠ 1 → (r < 15 ∨ 25 < r) → (r < 63 ∨ 79 < r) → r ≠ 146 → Ic' r = Ic r := fc
  have f : ∀ r, r ≠ 167 → (r < 185 ∨ 188 < r) → Im' r = Im r := f1
  refine ⟨a1.c (g 4 5 (by omega) (by omega) (by omega) (by omega)) (g 4 6 (by omega) (by omega) (by omega) (by omega)) (m 0 (by omega)) (m 2 (by omega)), a2.c (c 6 (by omega) (by omega) (by omega) (by omega)) (c 8 (by omega) (by omega) (by omega) (by omega)) (c 10 (by omega) (by omega) (by omega) (by omega)) (c 12 (by omega) (by omega) (by omega) (by omega)) (f 168 (by omega) (by omega)), a3.c (c 14 (by omega) (by omega) (by omega) (by omega)) (f 171 (by omega) (by omega)), a4.c (fun k _ => g 26 k (by omega) (by omega) (by omega) (by omega)) (fun k h1 h2 => m k (by omega)), (a5.c (fun k hk => c _ (by omega) (by omega) (by omega) (by omega)) (vCur_c (fun r h1 h2 => f r (by omega) (by omega)) (m 23 (by omega)))).mono hN, a6.c (g 29 12 (by omega) (by omega) (by omega) (by omega)) (m 24 (by omega)), (a7.c (fun k hk => c _ (by omega) (by omega) (by omega) (by omega)) (vTold_c (f 170 (by omega) (by omega)) (f 169 (by omega) (by omega)))).mono hN, (a8.c (fun k hk => c _ (by omega) (by omega) (by omega) (by omega)) (f 199 (by omega) (by omega)) (f 200 (by omega) (by omega))).mono hN, (a9.c (fun k hk => c _ (by omega) (by omega) (by omega) (by omega)) (f 199 (by omega) (by omega)) (f 200 (by omega) (by omega))).mono hN, a10.c (g 0 19 (by omega) (by omega) (by omega) (by omega)) (f 200 (by omega) (by omega)), a11.c (c 132 (by omega) (by omega) (by omega) (by omega)) (f 183 (by omega) (by omega)), a12.c (g 133 6 (by omega) (by omega) (by omega) (by omega)) (c 135 (by omega) (by omega) (by omega) (by omega)) (c 137 (by omega) (by omega) (by omega) (by omega)) (m 48 (by omega)) (f 194 (by omega) (by omega)) (f 195 (by omega) (by omega)), a13.c (g 133 7 (by omega) (by omega) (by omega) (by omega)) (c 141 (by omega) (by omega) (by omega) (by omega)) (c 143 (by omega) (by omega) (by omega) (by omega)) (c 145 (by omega) (by omega) (by omega) (by omega)) (m 51 (by omega)) (f 196 (by omega) (by omega)) (f 197 (by omega) (by omega)) (f 198 (by omega) (by omega)), hX, hQ⟩
theorem st_town : St_town Inv := by
  intro k hk I J h
  obtain ⟨T0, P0, hA⟩ := h
  refine ⟨1000, ?_⟩
  show ∃ o1 o2, f10_town SZ 1000 0 I J = some o1 ∧ (fun I J => f11_town SZ 1000 167 I J) o1.2.1 o1.2.2 = some o2 ∧ o1.1 = o2.1 ∧ Inv (k + 1) o2.2.1 o2.2.2
  refine two3 (J := J) hA (fun Im Jm hB => ?_)
  obtain ⟨tx, L, hc, hm⟩ := rX.txt hB.2.2.2.2.2.2.2.2.2.2.2.2.2.1
  have hL := hc.1
  obtain ⟨I1, o1, o2, o3, o4, o5⟩ := open_c (Jc := J) (n := 1000) (by omega) hc
  obtain ⟨I2, J2, d1, d2, d3, d4⟩ := told_0 (n := 1000) (Ic := I1) (Jc := J) (by omega)
  have hc1 := hc.f o2
  have hc2 := hc1.d d2
  have b27 : ∀ q, q ≠ 28 → q ≠ 29 → q ≠ 34 → q ≠ 36 → q ≠ 39 → (mm_up (mm_up (mm_up (mm_up (mm_up Im 167 28 (-1)) 167 29 0) 167 34 0) 167 36 0) 167 39 0) 167 q = Im 167 q := fun q h1 h2 h3 h4 h5 => by
    rw [up_o2 (by omega), up_o2 (by omega), up_o2 (by omega), up_o2 (by omega), up_o2 (by omega)]
  have fB : fMt Im (mm_up (mm_up (mm_up (mm_up (mm_up Im 167 28 (-1)) 167 29 0) 167 34 0) 167 36 0) 167 39 0) := (fMt.up (by omega)).trans ((fMt.up (by omega)).trans ((fMt.up (by omega)).trans ((fMt.up (by omega)).trans (fMt.up (by omega)))))
  obtain ⟨f, T, P, l, I3, B3, J3, JB, u1, u2, u3, u4, u5, u6, u7, u8⟩ := town_loop (n := 1000) (by omega) 1000 0 (sk tx L 0) 0 0 0 0 I2 (mm_up (mm_up (mm_up (mm_up (mm_up Im 167 28 (-1)) 167 29 0) 167 34 0) 167 36 0) 167 39 0) J2 Jm (Nat.zero_le _) (sk_le tx L 0) (by omega) hc2 (hm.t fB) (o3.o d3) (by rw [d3]; exact o4) (by rw [d3, o5]; simp (disch := omega) only [up_s2, up_o2]; rfl) (d4 _ (by simp (disch := omega) only [up_s2, up_o2]; rfl) (by simp (disch := omega) only [up_s2, up_o2]; rfl) (by simp (disch := omega) only [up_s2, up_o2]; rfl)) (Nat.zero_le L) rfl (by simp (disch := omega) only [up_s2, up_o2]; rfl)
  have fc3 : fD I I3 := o2.d.trans (d2.trans u3)
  have fm3 : fMt Im B3 := fB.trans u4
  have eM : f11_town SZ 1000 167 Im Jm = f11_town_46 SZ 1000 167 (nI f) B3 JB := by
    unfold f11_town
    exact u2
  have e15' : mm_up I3 1 1 0 1 5 = nI f := by rw [up_o2 (by omega)]; exact u6
  have e16' : mm_up I3 1 1 0 1 6 = B3 167 28 := by rw [up_o2 (by omega)]; exact u7
  by_cases hf : f = 0
  · subst hf
    obtain ⟨⟨t1, t2, t3, c5, m4, c6, m6, c3, m9⟩, rC', rS', rA', rB', rF', rL'⟩ := u8 rfl
    have hD : dR T P l I3 J3 B3 := u8 rfl
    -- the reference's side
    have w167 : ∀ q, q ≠ 27 → q ≠ 0 → q ≠ 2 → (mm_up (mm_up (mm_up B3 167 27 0) 167 0 (nI T)) 167 2 (nI P)) 167 q = B3 167 q := fun q h1 h2 h3 => by
      rw [up_o2 (by omega), up_o2 (by omega), up_o2 (by omega)]
    obtain ⟨M1, p1, p2, p3⟩ := t78_loop (n := 1000) (Im := mm_up (mm_up (mm_up B3 167 27 0) 167 0 (nI T)) 167 2 (nI P)) (Jm := JB) 1000 0 (mm_up (mm_up (mm_up B3 167 27 0) 167 0 (nI T)) 167 2 (nI P)) (by omega) (by omega) (fun _ _ => rfl) (fun q hq => absurd hq (Nat.not_lt_zero q))
    obtain ⟨M2, q1, q2, q3⟩ := t104_loop (n := 1000) (P := P) (Im := M1) (Jm := JB) t2 (by rw [p2 167 (by omega), up_s2]) 1000 0 M1 (by omega) (by omega) (fun _ _ => rfl) (fun q hq => absurd hq (Nat.not_lt_zero q))
    obtain ⟨M3, M4, r1, r2, r3, r4, r5, r6, r7, r8, r9⟩ := t184_loop (n := 1000) (T := T) (P := P) (Im := M2) (Jm := JB) (by omega) t2 t1 (by rw [q2 167 (by omega), p2 167 (by omega), up_o2 (by omega), up_s2]) (by rw [q2 167 (by omega), p2 167 (by omega), up_s2]) 1000 0 M2 (by omega) (by omega) (fun _ _ => rfl) (fun q hq => absurd hq (Nat.not_lt_zero q))
    have eM2 : f11_town SZ 1000 167 Im Jm = some (nI P, M4, JB) := by
      rw [eM]
      unfold f11_town_46
      rw [if_pos (show nI 0 ≤ 0 by decide), up_o2 (show ¬ ((167 : Nat) = 167 ∧ (34 : Nat) = 27) by omega), m4, up_o2 (show ¬ ((167 : Nat) = 167 ∧ (36 : Nat) = 0) by omega), up_o2 (show ¬ ((167 : Nat) = 167 ∧ (36 : Nat) = 27) by omega), m6]
      exact p1.trans (q1.trans r1)
    -- rows of the reference at the end
    have k4 : ∀ q, q ≠ 48 → q ≠ 51 → q ≠ 23 → q ≠ 27 → q ≠ 0 → q ≠ 2 → M4 167 q = B3 167 q := fun q h1 h2 h3 h4 h5 h6 => by
      rw [r9.1.2.1 q h3, r6 q h1 h2 h3, q2 167 (by omega), p2 167 (by omega), w167 q h4 h5 h6]
    have k4' : ∀ q, (q = 27 ∨ q = 0 ∨ q = 2) → M4 167 q = (mm_up (mm_up (mm_up B3 167 27 0) 167 0 (nI T)) 167 2 (nI P)) 167 q := fun q h1 => by
      rw [r9.1.2.1 q (by omega), r6 q (by omega) (by omega) (by omega), q2 167 (by omega), p2 167 (by omega)]
    have g4 : ∀ r, r ≠ 167 → (r < 172 ∨ 182 < r) → M4 r = M3 r := r9.1.1
    have g3 : ∀ r, r ≠ 183 → r ≠ 167 → r ≠ 200 → (r < 172 ∨ 182 < r) → M4 r = M2 r := fun r h1 h2 h3 h4 => by rw [g4 r h2 h4, r2 r h1 h2 h3]
    have g1 : ∀ r, r ≠ 183 → r ≠ 167 → r ≠ 200 → (r < 172 ∨ 182 < r) → (r < 168 ∨ 171 < r) → M4 r = B3 r := fun r h1 h2 h3 h4 h5 => by
      rw [g3 r h1 h2 h3 h4, q2 r (by omega), p2 r (by omega), mm_up_o h2, mm_up_o h2, mm_up_o h2]
    have m168 : ∀ q, q < 24 → M4 168 q = B3 185 q := fun q hq => by
      rw [g3 168 (by omega) (by omega) (by omega) (by omega), q2 168 (by omega), p3 q hq, mm_up_o (by omega), mm_up_o (by omega), mm_up_o (by omega)]
    have M1r : ∀ r, r ≠ 168 → r ≠ 167 → M1 r = B3 r := fun r h1 h2 => by rw [p2 r h1, mm_up_o h2, mm_up_o h2, mm_up_o h2]
    have mtold : ∀ q, q < 48 → M4 169 (q / 6) = B3 186 (q / 6) ∧ M4 170 q = B3 187 q := fun q hq => by
      have g := q3 q hq
      rw [g3 169 (by omega) (by omega) (by omega) (by omega), g3 170 (by omega) (by omega) (by omega) (by omega), g.1, g.2.1, M1r 186 (by omega) (by omega), M1r 187 (by omega) (by omega)]
      exact ⟨rfl, rfl⟩
    have m171 : ∀ q, q < 48 → M4 171 q = lkv P B3 q := fun q hq => by
      rw [g3 171 (by omega) (by omega) (by omega) (by omega), (q3 q hq).2.2]
      unfold lkv
      rw [M1r 188 (by omega) (by omega)]
    -- the class's side
    have hA1 : ∀ r, r ≠ 1 → mm_up I3 1 1 0 r = I3 r := fun r h => mm_up_o h
    obtain ⟨C1, x0, x1, x2, x3, x4, x5⟩ := copyC (n := 1000) (by omega) (mm_up I3 1 1 0) J3
    obtain ⟨C2, y0, yf, y2, y4, y6, y8, y10, y12, y14, y16, yc⟩ := copyF (n := 1000) (by omega) (Or.inr (Or.inl rfl) : isF 46) isF63 (by omega) C1 J3
    obtain ⟨C3, z0, zf, z2, z4, z6, z8, z10, z12, z14, z16, zc⟩ := copyF (n := 1000) (by omega) (Or.inl rfl : isF 29) (Or.inr (Or.inl rfl) : isF 46) (by omega) C2 J3
    have f12 : f6_fill SZ 1000 131 0 (mm_up C3 29 12 (C2 29 12)) J3 = some (fillTo (mm_up C3 29 12 (C2 29 12)) 132 6 (fun _ => 0), J3) := by
      have e1 : mm_rf SZ 131 0 = 132 := by decide +kernel
      have e2 : mm_al SZ 132 = 6 := by decide +kernel
      have := f6_fill_eq (S := SZ) (n := 1000) (r := 131) (v := 0) (I := mm_up C3 29 12 (C2 29 12)) (J := J3) (by rw [e1, e2]; omega) (by rw [e1, e2]; omega)
      rw [e1, e2] at this
      exact this
    -- the end's cells
    obtain ⟨CE, hCE⟩ : ∃ CE, CE = mm_up (mm_up (mm_up (fillTo (mm_up C3 29 12 (C2 29 12)) 132 6 (fun _ => 0)) 133 6 0) 133 7 0) 0 19 0 := ⟨_, rfl⟩
    have ce : ∀ r, r ≠ 132 → r ≠ 133 → r ≠ 0 → r ≠ 29 → CE r = C3 r := fun r h1 h2 h3 h4 => by
      rw [hCE, mm_up_o h3, mm_up_o h2, mm_up_o h2, fillTo_o h1, mm_up_o h4]
    have c1 : ∀ r, (r < 29 ∨ 62 < r) → C3 r = C1 r := fun r h => by rw [zf r (by omega), yf r (by omega)]
    have ceo : ∀ r, r ≠ 1 → (r < 4 ∨ 14 < r) → (r < 29 ∨ 62 < r) → r ≠ 132 → r ≠ 133 → r ≠ 0 → CE r = I3 r := fun r h0 h1 h2 h3 h4 h5 => by
      rw [ce r h3 h4 h5 (by omega), c1 r h2, x1 r h1, hA1 r h0]
    have ceC : ∀ r, 4 ≤ r → r ≤ 14 → CE r = C1 r := fun r h1 h2 => by rw [ce r (by omega) (by omega) (by omega) (by omega), c1 r (by omega)]
    have ce1 : CE 1 = mm_up I3 1 1 0 1 := by rw [ce 1 (by omega) (by omega) (by omega) (by omega), c1 1 (by omega), x1 1 (by omega)]
    have s12 : C2 29 12 = I 29 12 := by
      rw [yf 29 (by omega), x1 29 (by omega), hA1 29 (by omega), fc3.1 29 (by omega) (by omega) (by omega) (by omega)]
    have eC : f10_town SZ 1000 0 I J = some (nI P, CE, J3) := by
      unfold f10_town f4_clear f8_clear f10_startAnew
      simp only [zr]
      rw [o1, Option.bind_some]
      dsimp only
      rw [d1, show f9_tellAll_26 SZ 1000 1000 146 0 I2 J2 = _ from u1, Option.bind_some, Option.bind_some]
      dsimp only
      rw [snd_c e15', Option.bind_some, if_neg n10, x0, Option.bind_some]
      dsimp only
      rw [y0, Option.bind_some]
      dsimp only
      rw [z0, Option.bind_some, Option.bind_some]
      dsimp only
      rw [f12, Option.bind_some, Option.bind_some]
      dsimp only
      rw [← hCE]
      have : CE 4 6 = nI P := by rw [ceC 4 (by omega) (by omega), x5, hA1 15 (by omega)]; exact c6
      rw [this]
    -- the people told
    have h63 : rF T P (100 * (k + 1)) 63 C1 (vTold P M4) := (hD.told mtold).c (fun k _ => by rw [x1 _ (by omega), hA1 _ (by omega)]) rfl
    have h46 : rF T P (100 * (k + 1)) 46 C2 (vTold P M4) := h63.pt t2 y2 y4 y6 y8 y10 y12 y14 y16 yc
    have h29 : rF T P (100 * (k + 1)) 29 (mm_up C3 29 12 (C2 29 12)) (vTold P M4) := (h46.pt t2 z2 z4 z6 z8 z10 z12 z14 z16 zc).seed
    have vT : vTold P M4 = vTold P M3 := vTold_c (g4 170 (by omega) (by omega)) (g4 169 (by omega) (by omega))
    have h29' : rF T P (100 * (k + 1)) 29 (mm_up C3 29 12 (C2 29 12)) (vCur M4) := by
      rw [vT] at h29
      exact h29.r t2 (bg_v t2 t1 h29 r9)
    obtain ⟨sd, sd1, sd2, sd3⟩ := hB.2.2.2.2.2.1
    have k4m : ∀ q, q ≠ 48 → q ≠ 51 → q ≠ 23 → q ≠ 27 → q ≠ 0 → q ≠ 2 → q ≠ 28 → q ≠ 29 → q ≠ 31 → q ≠ 32 → q ≠ 33 → q ≠ 34 → q ≠ 36 → q ≠ 39 → M4 167 q = Im 167 q := fun q h1 h2 h3 h4 h5 h6 h7 h8 h9 h10 h11 h12 h13 h14 => by
      rw [k4 q h1 h2 h3 h4 h5 h6, fm3.2 q h7 h8 h9 h10 h11 h12 h13 h14]
    have m48 : M4 167 48 = nI 0 := by rw [r9.1.2.1 48 (by omega), r4]
    have m51 : M4 167 51 = nI 0 := by rw [r9.1.2.1 51 (by omega), r5]
    have m200 : M4 200 0 = nI 0 ∧ M4 200 1 = nI 0 := by rw [g4 200 (by omega) (by omega)]; exact ⟨r7, r8⟩
    refine ⟨nI P, CE, J3, M4, JB, T, P, eC, eM2, fun r hr => ?_, fun r hr => ?_, ⟨t1, t2, ?_, ?_, ?_, ?_⟩, fun t ht => ?_, fun q hq => ?_, ?_, ?_, ⟨sd, sd1, ?_, ?_⟩, ?_, ⟨false, m200.1, fun q => Bool.noConfusion q⟩, ⟨false, m200.2, fun q => Bool.noConfusion q⟩, ⟨false, false, m200.1, m200.2, ?_⟩, fun t ht => ⟨0, by omega, ?_, ?_⟩, ⟨0, by omega, ?_, m48, fun i hi => absurd hi (Nat.not_lt_zero i)⟩, ⟨0, by omega, ?_, m51, fun i hi => absurd hi (Nat.not_lt_zero i)⟩, ⟨0, by omega, ?_, ?_, fun i hi => absurd hi (Nat.not_lt_zero i)⟩, ?_⟩
    · rw [ceo r (by omega) (by omega) (by omega) (by omega) (by omega) (by omega), fc3.1 r (by omega) (by omega) (by omega) (by omega)]
    · rw [g1 r (by omega) (by omega) (by omega) (by omega) (by omega), fm3.1 r (by omega) (by omega)]
    · rw [ceC 4 (by omega) (by omega), x4, hA1 15 (by omega)]; exact c5
    · rw [k4' 0 (by omega), up_o2 (by omega), up_s2]
    · rw [ceC 4 (by omega) (by omega), x5, hA1 15 (by omega)]; exact c6
    · rw [k4' 2 (by omega), up_s2]
    · have g := rC' t ht
      have xx := x2 t (by omega)
      rw [ceC 6 (by omega) (by omega), ceC 8 (by omega) (by omega), ceC 10 (by omega) (by omega), ceC 12 (by omega) (by omega), xx.1, xx.2.1, xx.2.2.1, xx.2.2.2, hA1 17 (by omega), hA1 19 (by omega), hA1 21 (by omega), hA1 23 (by omega), m168 _ (by omega), m168 _ (by omega), m168 _ (by omega), m168 _ (by omega)]
      exact g
    · rw [ceC 14 (by omega) (by omega), x3 q hq, hA1 25 (by omega), m171 q hq]
      unfold lkv
      have g := rL' q hq
      by_cases e : P ≤ q / 6
      · rw [if_pos e]
        exact ⟨0, by omega, (g.2 (by omega)).1, rfl⟩
      · rw [if_neg e]
        rcases g.1 (by omega) with ⟨w1, w2, w3⟩ | ⟨x, w0, w1, w2, w3⟩
        · rw [w1, if_pos (show m1 ≤ 0 by decide)]
          exact ⟨0, by omega, w2, rfl⟩
        · rw [w1]
          by_cases e0 : x = 0
          · subst e0
            exact ⟨0, by omega, w2, if_pos (by decide)⟩
          · exact ⟨x, w0, w2, if_neg (nI_nle (by omega) (by omega))⟩
    · refine rR.c hB.2.2.2.1 (fun q _ => by rw [ceo 26 (by omega) (by omega) (by omega) (by omega) (by omega) (by omega), fc3.1 26 (by omega) (by omega) (by omega) (by omega)]) (fun q h1 h2 => k4m q (by omega) (by omega) (by omega) (by omega) (by omega) (by omega) (by omega) (by omega) (by omega) (by omega) (by omega) (by omega) (by omega) (by omega))
    · exact h29'.c (fun q hq => by rw [hCE, mm_up_o (by omega), mm_up_o (by omega), mm_up_o (by omega), fillTo_o (by omega)]) rfl
    · rw [hCE, mm_up_o (by omega), mm_up_o (by omega), mm_up_o (by omega), fillTo_o (by omega), up_s2, s12]; exact sd2
    · rw [k4m 24 (by omega) (by omega) (by omega) (by omega) (by omega) (by omega) (by omega) (by omega) (by omega) (by omega) (by omega) (by omega) (by omega) (by omega)]; exact sd3
    · exact h46.c (fun q hq => by rw [ce _ (by omega) (by omega) (by omega) (by omega), zf _ (by omega)]) rfl
    · rw [hCE, up_s2]; decide
    · rw [hCE, mm_up_o (by omega), mm_up_o (by omega), mm_up_o (by omega), fillTo_in ht]; rfl
    · rw [g4 183 (by omega) (by omega)]; exact r3 t ht
    · rw [hCE, mm_up_o (by omega), up_o2 (by omega), up_s2]; rfl
    · rw [hCE, mm_up_o (by omega), up_s2]; rfl
    · rw [ce1, up_s2]; rfl
    · rw [k4' 27 (by omega), up_o2 (by omega), up_o2 (by omega), up_s2]; rfl
    · show CE 1 6 = M4 167 28
      rw [ce1, e16', k4 28 (by omega) (by omega) (by omega) (by omega) (by omega) (by omega)]
  · have ne : ¬ mm_up I3 1 1 0 1 5 = nI 0 := by
      rw [e15']
      intro q
      exact hf ((nI_eq (by omega) (by omega)).mp q)
    refine ⟨(-10) - nI f, mm_up I3 1 1 0, J3, mm_up B3 167 27 0, JB, T0, P0, ?_, ?_, fun r hr => ?_, fun r hr => ?_, hB.tdr (by omega) (fun r h1 h2 h3 h4 => by rw [mm_up_o h1, fc3.1 r h1 h2 h3 h4]) (fun r h1 h2 => by rw [mm_up_o h1]; exact fm3.1 r h1 h2) (fun q h1 h2 h3 h4 h5 h6 h7 h8 h9 => by rw [up_o2 (by omega)]; exact fm3.2 q h2 h3 h4 h5 h6 h7 h8 h9) ⟨0, by omega, by rw [up_s2]; rfl, by rw [up_s2]; rfl, fun q hq => absurd hq (Nat.not_lt_zero q)⟩ ?_⟩
    · unfold f10_town f4_clear
      simp only [zr]
      rw [o1, Option.bind_some]
      dsimp only
      rw [d1, show f9_tellAll_26 SZ 1000 1000 146 0 I2 J2 = _ from u1, Option.bind_some, Option.bind_some]
      dsimp only
      rw [snd_f ne, Option.bind_some, if_pos rfl, e15']
    · show f11_town SZ 1000 167 Im Jm = _
      rw [eM]
      unfold f11_town_46
      rw [if_neg (nI_nle (by omega) (by omega))]
    · rw [mm_up_o (by omega), fc3.1 r (by omega) (by omega) (by omega) (by omega)]
    · rw [mm_up_o (by omega), fm3.1 r (by omega) (by omega)]
    · show mm_up I3 1 1 0 1 6 = _
      rw [e16', up_o2 (by omega)]
end STT
