/-! ===== part 18: the small machine where cells are made (constructors, the law) ===== -/
theorem mm_T.wide {ad : Nat → Nat} {A A' : Nat → Prop} {U : State} {H : Heap} (hA : ∀ q, A' q → A q ∨ H.size ≤ q) (h : mm_T ad A U H) : mm_T ad A' U H := by
  have key : ∀ {t : Nat} {cell : Cell}, H[t]? = some cell → ¬ A t → ¬ A' t := by
    intro t cell h1 h2 h3
    have hl := (Array.getElem?_eq_some_iff.mp h1).1
    rcases hA t h3 with h4 | h4
    · exact h2 h4
    · omega
  have kZ : ∀ {C n d : String} {v : Value}, va_Z C n d v A U H → va_Z C n d v A' U H := by
    intro C n d v hz
    obtain ⟨cf, kf, fi, f, a, cell, h1, h2, h3, h4, h5, h6, h7, h8⟩ := hz
    exact ⟨cf, kf, fi, f, a, cell, h1, h2, h3, h4, h5, h6, h7, key h5 h8⟩
  have kO : ∀ {o n d : String} {v : Value} {t : Nat}, va_OF o n d v t A U H → va_OF o n d v t A' U H := by
    intro o n d v t hz
    obtain ⟨cf, k, i, f, cell, h1, h2, h3, h4, h5, h6⟩ := hz
    exact ⟨cf, k, i, f, cell, h1, h2, h3, h4, h5, key h3 h6⟩
  obtain ⟨⟨h1, h1b⟩, h2, h3, h4⟩ := h
  refine ⟨⟨fun i hi => ?_, h1b⟩, h2, kZ h3, h4.imp kZ kZ⟩
  obtain ⟨⟨cell, a1, a2, a3, a4⟩, b, c, ⟨cell2, d1, d2, d3, d4, d5, d6, d7⟩⟩ := h1 i hi
  exact ⟨⟨cell, a1, a2, a3, key a1 a4⟩, kO b, kO c, ⟨cell2, d1, d2, d3, d4, d5, d6, key d1 d7⟩⟩
theorem mm_T.narrow {ad : Nat → Nat} {A B : Nat → Prop} {U : State} {H : Heap} (h : mm_T ad A U H) (hAB : ∀ q, B q → A q) : mm_T ad B U H := mm_T.wide (fun q hq => Or.inl (hAB q hq)) h
def mm_ext (n : Nat) (ad ad2 : Nat → Nat) : Prop := ∀ r, (r < n ∨ 1000000 ≤ r) → ad2 r = ad r
theorem mm_T.cong {ad ad2 : Nat → Nat} {n : Nat} {A : Nat → Prop} {U : State} {H : Heap} (he : mm_ext n ad ad2) (h : mm_T ad A U H) : mm_T ad2 A U H := by
  obtain ⟨h1, h2, h3, h4⟩ := h
  have e1 : (fun i => ad2 (1000000 + i)) = fun i => ad (1000000 + i) := funext fun i => he _ (Or.inr (by omega))
  have e2 : (fun i => ad2 (2000000 + i)) = fun i => ad (2000000 + i) := funext fun i => he _ (Or.inr (by omega))
  unfold mm_T
  rw [e1, e2, he 3000000 (Or.inr (by omega))]
  refine ⟨h1, fun q hq => ?_, h3, h4⟩
  rw [he _ (Or.inr (by omega))]
  exact h2 q hq
theorem mm_ext.trans {n n2 : Nat} {a b c : Nat → Nat} (h1 : mm_ext n a b) (h2 : mm_ext n2 b c) (hn : n ≤ n2) : mm_ext n a c := fun r hr => (h2 r (hr.imp (fun q => by omega) id)).trans (h1 r hr)
/-- references that were there already -/
def mm_oldv (n : Nat) : Value → Bool
  | .ref r => Nat.blt r n || Nat.ble 1000000 r
  | _ => true
def mm_refs (n : Nat) (lv : List (Nat × Value)) (stk : List Value) : Bool := lv.all (fun q => mm_oldv n q.2) && stk.all (mm_oldv n)
theorem mm_oldv_eq {n : Nat} {ad ad2 : Nat → Nat} (he : mm_ext n ad ad2) {v : Value} (h : mm_oldv n v = true) : mm_v ad2 v = mm_v ad v := by
  cases v with
  | ref r =>
    have h : (Nat.blt r n || Nat.ble 1000000 r) = true := h
    rw [Bool.or_eq_true] at h
    have : ad2 r = ad r := he r (h.imp (fun q => Nat.blt_eq.mp q) (fun q => Nat.le_of_ble_eq_true q))
    show Value.ref (ad2 r) = Value.ref (ad r)
    rw [this]
  | _ => rfl
theorem mm_stk_eq {n : Nat} {ad ad2 : Nat → Nat} (he : mm_ext n ad ad2) {stk : List Value} (h : stk.all (mm_oldv n) = true) : stk.map (mm_v ad2) = stk.map (mm_v ad) := by
  apply List.map_congr_left
  intro v hv
  exact mm_oldv_eq he (List.all_eq_true.mp h v hv)
theorem mm_look_mem {lv : List (Nat × Value)} {i : Nat} {v : Value} (h : mm_look lv i = some v) : ∃ q ∈ lv, q.2 = v := by
  induction lv with
  | nil => cases h
  | cons q t ih =>
    by_cases e : q.1 = i
    · obtain ⟨a, b⟩ := q
      cases e
      rw [mm_look_hit] at h
      cases h
      exact ⟨_, List.mem_cons_self, rfl⟩
    · have e2 : mm_look (q :: t) i = mm_look t i := mm_look_miss e
      rw [e2] at h
      obtain ⟨q2, h2, h3⟩ := ih h
      exact ⟨q2, List.mem_cons_of_mem _ h2, h3⟩
theorem mm_has_ext {n : Nat} {ad ad2 : Nat → Nat} (he : mm_ext n ad ad2) {ls : Array Slot} {nL : Nat} {lv : List (Nat × Value)} (h : lv.all (fun q => mm_oldv n q.2) = true) (hl : mm_has ls nL ad lv) : mm_has ls nL ad2 lv := by
  obtain ⟨l0, h0, h1⟩ := hl
  refine ⟨l0, h0, fun i v hi => ?_⟩
  obtain ⟨q, hq, e⟩ := mm_look_mem hi
  have := List.all_eq_true.mp h q hq
  rw [e] at this
  rw [mm_oldv_eq he this]
  exact h1 i v hi
/-- no field points beyond the shape -/
def mm_closed (n : Nat) (S : mm_Sh) : Bool := S.all (fun sh => match sh with
  | .inl _ => true
  | .inr q => q.2.all (fun f => match f with
    | .inl x => Nat.blt x n
    | .inr _ => true))
theorem mm_e_ext {n : Nat} {ad ad2 : Nat → Nat} (he : mm_ext n ad ad2) {cA : Nat → ClassId} {I : mm_I} {J : mm_J} {r : Nat} {sh : (Nat × Nat) ⊕ (Nat × List (Nat ⊕ Nat))} (h : mm_closed n [sh] = true) : mm_e cA ad2 I J r sh = mm_e cA ad I J r sh := by
  cases sh with
  | inl q => rfl
  | inr q =>
    obtain ⟨ci, fs⟩ := q
    have h : (fs.all (fun f => match f with
      | .inl x => Nat.blt x n
      | .inr _ => true) && true) = true := h
    rw [Bool.and_true] at h
    show Sum.inr (ci, fs.mapIdx (mm_f ad2 (I r) (J r))) = Sum.inr (ci, fs.mapIdx (mm_f ad (I r) (J r)))
    congr 2
    apply List.ext_getElem?
    intro i
    rw [List.getElem?_mapIdx, List.getElem?_mapIdx]
    cases hf : fs[i]? with
    | none => rfl
    | some f =>
      have h2 := List.all_eq_true.mp h f (List.mem_of_getElem? hf)
      rcases f with x | x
      · have : ad2 x = ad x := he x (Or.inl (Nat.blt_eq.mp h2))
        show some (Value.ref (ad2 x)) = some (Value.ref (ad x))
        rw [this]
      · rcases x with _ | _ | x <;> rfl
theorem mm_w_ext {n : Nat} {ad ad2 : Nat → Nat} (he : mm_ext n ad ad2) {cA : Nat → ClassId} {S : mm_Sh} {I : mm_I} {J : mm_J} (hn : S.length ≤ n) (h : mm_closed n S = true) : mm_w cA ad2 S I J = mm_w cA ad S I J := by
  apply List.ext_getElem?
  intro i
  rw [mm_w_get, mm_w_get]
  cases hs : S[i]? with
  | none => rfl
  | some sh =>
    have hi := (List.getElem?_eq_some_iff.mp hs).1
    have h2 := List.all_eq_true.mp h sh (List.mem_of_getElem? hs)
    have h3 : mm_closed n [sh] = true := by
      show (_ && true) = true
      rw [Bool.and_true]
      exact h2
    simp only [Option.map_some]
    rw [mm_e_ext he h3, he i (Or.inl (by omega))]
theorem mm_w_push {cA : Nat → ClassId} {ad : Nat → Nat} {S : mm_Sh} {I : mm_I} {J : mm_J} (sh : (Nat × Nat) ⊕ (Nat × List (Nat ⊕ Nat))) : mm_w cA ad (S ++ [sh]) I J = mm_w cA ad S I J ++ [(ad S.length, mm_e cA ad I J S.length sh)] := by
  simp [mm_w, List.mapIdx_append]
def mm_ad (ad : Nat → Nat) (n q : Nat) : Nat → Nat := fun r => if r = n then q else ad r
theorem mm_ad_ext {ad : Nat → Nat} {n q : Nat} (hn : n < 1000000) : mm_ext n ad (mm_ad ad n q) := by
  intro r hr
  unfold mm_ad
  rw [if_neg (by rcases hr with h | h <;> omega)]
theorem mm_ad_at {ad : Nat → Nat} {n q : Nat} : mm_ad ad n q n = q := by unfold mm_ad; rw [if_pos rfl]
theorem mm_D2 {cA : Nat → ClassId} {ad : Nat → Nat} {S : mm_Sh} {I : mm_I} {J : mm_J} {A : Nat → Prop} (h : mm_inj ad S) (hA : ∀ r, r < S.length → A (ad r)) : va_D A (mm_w cA ad S I J) := (mm_D h).weaken (fun k q hk hq => by
  obtain ⟨r, hr, e⟩ := hq
  rw [e]
  exact hA r hr)
theorem mm_inj_push {ad : Nat → Nat} {S : mm_Sh} {sh : (Nat × Nat) ⊕ (Nat × List (Nat ⊕ Nat))} {q : Nat} (h : mm_inj ad S) (hq : ∀ r, r < S.length → ad r ≠ q) : mm_inj (mm_ad ad S.length q) (S ++ [sh]) := by
  intro i j hi hj e
  rw [List.length_append] at hi hj
  simp only [List.length_singleton] at hi hj
  unfold mm_ad at e
  by_cases a : i = S.length
  · rw [if_pos a] at e
    by_cases b : j = S.length
    · omega
    · rw [if_neg b] at e
      exact absurd e.symm (hq j (by omega))
  · rw [if_neg a] at e
    by_cases b : j = S.length
    · rw [if_pos b] at e
      exact absurd e (hq i (by omega))
    · rw [if_neg b] at e
      exact h i j (by omega) (by omega) e
theorem mm_A_push {ad : Nat → Nat} {S : mm_Sh} {sh : (Nat × Nat) ⊕ (Nat × List (Nat ⊕ Nat))} {q : Nat} {A : Nat → Prop} (hA : ∀ r, r < S.length → A (ad r)) (hq : A q) : ∀ r, r < (S ++ [sh]).length → A (mm_ad ad S.length q r) := by
  intro r hr
  rw [List.length_append] at hr
  simp only [List.length_singleton] at hr
  unfold mm_ad
  by_cases a : r = S.length
  · rw [if_pos a]; exact hq
  · rw [if_neg a]; exact hA r (by omega)
def mm_VX (M : mm_M) (S : mm_Sh) (D : va_G) (cA : Nat → ClassId) (ad : Nat → Nat) (A : Nat → Prop) (p : Program) (s : State) (m : MethodId) (args : Array Value) (meth : Method) (c : Code) : Prop :=
  p.tables.exec = Jvm.exec ∧ c.code = mm_cc M ∧ c.maxLocals = mm_nL M ∧ s.vm.findClass (mm_own M) = some m.cls ∧ (∀ w ∈ mm_GW, w.before args s = true) ∧ (∀ w ∈ mm_NW, va_Nw w s) ∧ va_K D vwCl (mm_ty cA) s ∧ mm_inj ad S ∧ (∀ r, r < S.length → A (ad r)) ∧ mm_T ad A s s.heap ∧ (∀ q, s.heap.size ≤ q → A q) ∧ ((mm_y M).name = "<init>" → meth.name = (mm_y M).name) ∧ meth.sig.returnType = mm_ret M ∧ meth.locks = false
abbrev mm_VE : Type := List Frame → Array Value → State → va_G → (Nat → ClassId) → (Nat → Nat) → (Nat → Prop) → State → Prop
def mm_V (l : Launch) (M : mm_M) (R : Room) (S : mm_Sh) (E : mm_VE) (pc : Nat) (lv : List (Nat × Value)) (stk : List Value) (I : mm_I) (J : mm_J) (cs ss : Nat) : Prop :=
  ∀ (p : Program) (e : Env) (s : State) (m : MethodId) (args : Array Value) (below : List Frame) (meth : Method) (c : Code) (D : va_G) (cA : Nat → ClassId) (ad : Nat → Nat) (A : Nat → Prop) (H : Heap) (locs : List Loc) (ls : Array Slot),
    mm_VX M S D cA ad A p s m args meth c → va_P D vwCl (mm_w cA ad S I J) H → va_S A s.heap H locs → mm_has ls (mm_nL M) ad lv → W p l e R s m args below meth c H locs cs ss (E below args s D cA ad A) (F0 m pc ls (stk.map (mm_v ad)))
def mm_mono (n0 : Nat) (E : mm_VE) : Prop := ∀ below args s D cA ad ad2 A t, mm_ext n0 ad ad2 → E below args s D cA ad2 A t → E below args s D cA ad A t
theorem mm_Wmono {p : Program} {l : Launch} {e : Env} {R : Room} {s : State} {m : MethodId} {args : Array Value} {below : List Frame} {meth : Method} {c : Code} {H : Heap} {locs : List Loc} {cells slots : Nat} {Q Q2 : State → Prop} {g : JFrame} (h : ∀ t, Q2 t → Q t) (k : W p l e R s m args below meth c H locs cells slots Q2 g) : W p l e R s m args below meth c H locs cells slots Q g := by
  intro T hT X
  obtain ⟨t, a, b⟩ := k T hT X
  exact ⟨t, a, h t b⟩
section MMV
variable {l : Launch} {M : mm_M} {R : Room} {cs ss : Nat} {S : mm_Sh} {E : mm_VE} {pc : Nat} {lv : List (Nat × Value)} {stk : List Value} {I : mm_I} {J : mm_J}
theorem mv_sub (lv' : List (Nat × Value)) (h : mm_subP lv lv') (k : mm_V l M R S E pc lv' stk I J cs ss) : mm_V l M R S E pc lv stk I J cs ss := by
  intro p e s m args below meth c D cA ad A H locs ls X hP hS hl
  obtain ⟨l0, h0, h1⟩ := hl
  exact k p e s m args below meth c D cA ad A H locs ls X hP hS ⟨l0, h0, fun i v hi => h1 i v (mm_subP_look h i v hi)⟩
theorem mv_eq {pc' : Nat} (h : pc = pc') (k : mm_V l M R S E pc' lv stk I J cs ss) : mm_V l M R S E pc lv stk I J cs ss := h ▸ k
theorem mv_iconst {n : Int} {v : Int32} (hd : decode (mm_cc M) pc = .ok (.iconst n, 1)) (hv : Int32.ofInt n = v) (k : mm_V l M R S E (pc + 1) lv (.int v :: stk) I J cs ss) : mm_V l M R S E pc lv (stk) I J cs ss := by
  intro p e s m args below meth c D cA ad A H locs ls X hP hS hl
  exact lv_iconst X.1 X.2.1 hd hv (k p e s m args below meth c D cA ad A H locs ls X hP hS hl)
theorem mv_bipush {n : Int} {v : Int32} (hd : decode (mm_cc M) pc = .ok (.bipush n, 2)) (hv : (Int8.ofInt n).toInt32 = v) (k : mm_V l M R S E (pc + 2) lv (.int v :: stk) I J cs ss) : mm_V l M R S E pc lv (stk) I J cs ss := by
  intro p e s m args below meth c D cA ad A H locs ls X hP hS hl
  exact lv_bipush X.1 X.2.1 hd hv (k p e s m args below meth c D cA ad A H locs ls X hP hS hl)
theorem mv_sipush {n : Int} {v : Int32} (hd : decode (mm_cc M) pc = .ok (.sipush n, 3)) (hv : (Int16.ofInt n).toInt32 = v) (k : mm_V l M R S E (pc + 3) lv (.int v :: stk) I J cs ss) : mm_V l M R S E pc lv (stk) I J cs ss := by
  intro p e s m args below meth c D cA ad A H locs ls X hP hS hl
  exact lv_sipush X.1 X.2.1 hd hv (k p e s m args below meth c D cA ad A H locs ls X hP hS hl)
theorem mv_lconst {n : Fin 2} {v : Int64} (hd : decode (mm_cc M) pc = .ok (.lconst n, 1)) (hv : Int64.ofNat (n : Nat) = v) (k : mm_V l M R S E (pc + 1) lv (.long v :: stk) I J cs ss) : mm_V l M R S E pc lv (stk) I J cs ss := by
  intro p e s m args below meth c D cA ad A H locs ls X hP hS hl
  exact lv_lconst X.1 X.2.1 hd hv (k p e s m args below meth c D cA ad A H locs ls X hP hS hl)
theorem mv_iload_n {n : Fin 4} {x : Int32} (hd : decode (mm_cc M) pc = .ok (.iload_n n, 1)) (hx : mm_look lv (n : Nat) = some (.int x)) (k : mm_V l M R S E (pc + 1) lv (.int x :: stk) I J cs ss) : mm_V l M R S E pc lv (stk) I J cs ss := by
  intro p e s m args below meth c D cA ad A H locs ls X hP hS hl
  exact lv_iload_n X.1 X.2.1 hd rfl (hl.at hx) (k p e s m args below meth c D cA ad A H locs ls X hP hS hl)
theorem mv_aload_n {n : Fin 4} {x : Nat} (hd : decode (mm_cc M) pc = .ok (.aload_n n, 1)) (hx : mm_look lv (n : Nat) = some (.ref x)) (k : mm_V l M R S E (pc + 1) lv (.ref x :: stk) I J cs ss) : mm_V l M R S E pc lv (stk) I J cs ss := by
  intro p e s m args below meth c D cA ad A H locs ls X hP hS hl
  exact lv_aload_n X.1 X.2.1 hd rfl (hl.at hx) (k p e s m args below meth c D cA ad A H locs ls X hP hS hl)
theorem mv_iadd {x y : Int32} (hd : decode (mm_cc M) pc = .ok (.iadd, 1)) (k : mm_V l M R S E (pc + 1) lv (.int (x + y) :: stk) I J cs ss) : mm_V l M R S E pc lv (.int y :: .int x :: stk) I J cs ss := by
  intro p e s m args below meth c D cA ad A H locs ls X hP hS hl
  exact lv_iadd X.1 X.2.1 hd (k p e s m args below meth c D cA ad A H locs ls X hP hS hl)
theorem mv_isub {x y : Int32} (hd : decode (mm_cc M) pc = .ok (.isub, 1)) (k : mm_V l M R S E (pc + 1) lv (.int (x - y) :: stk) I J cs ss) : mm_V l M R S E pc lv (.int y :: .int x :: stk) I J cs ss := by
  intro p e s m args below meth c D cA ad A H locs ls X hP hS hl
  exact lv_isub X.1 X.2.1 hd (k p e s m args below meth c D cA ad A H locs ls X hP hS hl)
theorem mv_iand {x y : Int32} (hd : decode (mm_cc M) pc = .ok (.iand, 1)) (k : mm_V l M R S E (pc + 1) lv (.int (x &&& y) :: stk) I J cs ss) : mm_V l M R S E pc lv (.int y :: .int x :: stk) I J cs ss := by
  intro p e s m args below meth c D cA ad A H locs ls X hP hS hl
  exact lv_iand X.1 X.2.1 hd (k p e s m args below meth c D cA ad A H locs ls X hP hS hl)
theorem mv_land {x y : Int64} (hd : decode (mm_cc M) pc = .ok (.land, 1)) (k : mm_V l M R S E (pc + 1) lv (.long (x &&& y) :: stk) I J cs ss) : mm_V l M R S E pc lv (.long y :: .long x :: stk) I J cs ss := by
  intro p e s m args below meth c D cA ad A H locs ls X hP hS hl
  exact lv_land X.1 X.2.1 hd (k p e s m args below meth c D cA ad A H locs ls X hP hS hl)
theorem mv_lor {x y : Int64} (hd : decode (mm_cc M) pc = .ok (.lor, 1)) (k : mm_V l M R S E (pc + 1) lv (.long (x ||| y) :: stk) I J cs ss) : mm_V l M R S E pc lv (.long y :: .long x :: stk) I J cs ss := by
  intro p e s m args below meth c D cA ad A H locs ls X hP hS hl
  exact lv_lor X.1 X.2.1 hd (k p e s m args below meth c D cA ad A H locs ls X hP hS hl)
theorem mv_i2l {x : Int32} (hd : decode (mm_cc M) pc = .ok (.i2l, 1)) (k : mm_V l M R S E (pc + 1) lv (.long (x.toInt64) :: stk) I J cs ss) : mm_V l M R S E pc lv (.int x :: stk) I J cs ss := by
  intro p e s m args below meth c D cA ad A H locs ls X hP hS hl
  exact lv_i2l X.1 X.2.1 hd rfl (k p e s m args below meth c D cA ad A H locs ls X hP hS hl)
theorem mv_lshl {x : Int64} {y : Int32} (hd : decode (mm_cc M) pc = .ok (.lshl, 1)) (k : mm_V l M R S E (pc + 1) lv (.long (x <<< (y.toInt64 &&& 63)) :: stk) I J cs ss) : mm_V l M R S E pc lv (.int y :: .long x :: stk) I J cs ss := by
  intro p e s m args below meth c D cA ad A H locs ls X hP hS hl
  exact lv_lshl X.1 X.2.1 hd rfl (k p e s m args below meth c D cA ad A H locs ls X hP hS hl)
theorem mv_dup {v : Value} (hd : decode (mm_cc M) pc = .ok (.dup, 1)) (hv : v.category = 1) (k : mm_V l M R S E (pc + 1) lv (v :: v :: stk) I J cs ss) : mm_V l M R S E pc lv (v :: stk) I J cs ss := by
  intro p e s m args below meth c D cA ad A H locs ls X hP hS hl
  exact lv_dup X.1 X.2.1 hd ((mm_v_cat ad v).trans hv) (k p e s m args below meth c D cA ad A H locs ls X hP hS hl)
theorem mv_pop {v : Value} (hd : decode (mm_cc M) pc = .ok (.pop, 1)) (hv : v.category = 1) (k : mm_V l M R S E (pc + 1) lv (stk) I J cs ss) : mm_V l M R S E pc lv (v :: stk) I J cs ss := by
  intro p e s m args below meth c D cA ad A H locs ls X hP hS hl
  exact lv_pop X.1 X.2.1 hd ((mm_v_cat ad v).trans hv) (k p e s m args below meth c D cA ad A H locs ls X hP hS hl)
theorem mv_ldc2 {q : Nat} {v : Int64} (hd : decode (mm_cc M) pc = .ok (.ldc2_w q, 3)) (hc : Cond.constantLong (mm_own M) q v ∈ mm_GW) (k : mm_V l M R S E (pc + 3) lv (.long v :: stk) I J cs ss) : mm_V l M R S E pc lv (stk) I J cs ss := by
  intro p e s m args below meth c D cA ad A H locs ls X hP hS hl
  exact lv_ldc2 X.1 X.2.1 X.2.2.2.1 (X.2.2.2.2.1 _ hc) hd (k p e s m args below meth c D cA ad A H locs ls X hP hS hl)
theorem mv_istore_n {n : Fin 4} {x : Int32} (hd : decode (mm_cc M) pc = .ok (.istore_n n, 1)) (hn : Nat.blt (n : Nat) (mm_nL M) = true) (hf : mm_free lv (n : Nat) = true) (k : mm_V l M R S E (pc + 1) (((n : Nat), .int x) :: lv) stk I J cs ss) : mm_V l M R S E pc lv (.int x :: stk) I J cs ss := by
  intro p e s m args below meth c D cA ad A H locs ls X hP hS hl
  obtain ⟨l0, h0, h1⟩ := hl
  exact lv_istore_n X.1 X.2.1 hd rfl h0 (Nat.blt_eq.mp hn) rfl (fun ls' h' => k p e s m args below meth c D cA ad A H locs ls' X hP hS ⟨_, h', mm_has_st1 h1 hf⟩)
theorem mv_astore_n {n : Fin 4} {x : Nat} (hd : decode (mm_cc M) pc = .ok (.astore_n n, 1)) (hn : Nat.blt (n : Nat) (mm_nL M) = true) (hf : mm_free lv (n : Nat) = true) (k : mm_V l M R S E (pc + 1) (((n : Nat), .ref x) :: lv) stk I J cs ss) : mm_V l M R S E pc lv (.ref x :: stk) I J cs ss := by
  intro p e s m args below meth c D cA ad A H locs ls X hP hS hl
  obtain ⟨l0, h0, h1⟩ := hl
  exact lv_astore_n X.1 X.2.1 hd rfl h0 (Nat.blt_eq.mp hn) rfl (fun ls' h' => k p e s m args below meth c D cA ad A H locs ls' X hP hS ⟨_, h', mm_has_st1 h1 hf⟩)
theorem mv_iinc {i : Nat} {n : Int} {x v : Int32} (hd : decode (mm_cc M) pc = .ok (.iinc i n, 3)) (hn : Nat.blt i (mm_nL M) = true) (hx : mm_look lv i = some (.int x)) (hf : mm_free lv i = true) (hv : x + Int32.ofInt n = v) (k : mm_V l M R S E (pc + 3) ((i, .int v) :: lv) stk I J cs ss) : mm_V l M R S E pc lv stk I J cs ss := by
  intro p e s m args below meth c D cA ad A H locs ls X hP hS hl
  obtain ⟨l0, h0, h1⟩ := hl
  obtain ⟨kk, hk⟩ := List.getElem?_of_mem (h1 i _ hx)
  exact lv_iinc X.1 X.2.1 hd h0 hk hv (Nat.blt_eq.mp hn) rfl (fun ls' h' => k p e s m args below meth c D cA ad A H locs ls' X hP hS ⟨_, h', mm_has_st1 h1 hf⟩)
theorem mv_goto {off : Int} {tgt : Nat} (hd : decode (mm_cc M) pc = .ok (.goto off, 3)) (ht : (pc : Int) + off = (tgt : Int)) (k : mm_V l M R S E tgt lv stk I J cs ss) : mm_V l M R S E pc lv stk I J cs ss := by
  intro p e s m args below meth c D cA ad A H locs ls X hP hS hl
  exact lv_goto X.1 X.2.1 hd ht (k p e s m args below meth c D cA ad A H locs ls X hP hS hl)
theorem mv_icmp_eq {x y : Int32} {off : Int} {tgt : Nat} (hd : decode (mm_cc M) pc = .ok (.if_icmp .eq off, 3)) (ht : (pc : Int) + off = (tgt : Int)) (kt : x = y → mm_V l M R S E tgt lv stk I J cs ss) (kf : ¬ x = y → mm_V l M R S E (pc + 3) lv stk I J cs ss) : mm_V l M R S E pc lv (.int y :: .int x :: stk) I J cs ss := by
  intro p e s m args below meth c D cA ad A H locs ls X hP hS hl
  exact lv_icmp_eq X.1 X.2.1 hd ht (fun q => kt q p e s m args below meth c D cA ad A H locs ls X hP hS hl) (fun q => kf q p e s m args below meth c D cA ad A H locs ls X hP hS hl)
theorem mv_icmp_gt {x y : Int32} {off : Int} {tgt : Nat} (hd : decode (mm_cc M) pc = .ok (.if_icmp .gt off, 3)) (ht : (pc : Int) + off = (tgt : Int)) (kt : y < x → mm_V l M R S E tgt lv stk I J cs ss) (kf : ¬ y < x → mm_V l M R S E (pc + 3) lv stk I J cs ss) : mm_V l M R S E pc lv (.int y :: .int x :: stk) I J cs ss := by
  intro p e s m args below meth c D cA ad A H locs ls X hP hS hl
  exact lv_icmp_gt X.1 X.2.1 hd ht (fun q => kt q p e s m args below meth c D cA ad A H locs ls X hP hS hl) (fun q => kf q p e s m args below meth c D cA ad A H locs ls X hP hS hl)
theorem mv_tabOut {dflt lo hi : Int} {offs : Array Int} {len : Nat} {x : Int32} {tgt : Nat} (hd : decode (mm_cc M) pc = .ok (.tableswitch dflt lo hi offs, len)) (h : x.toInt < lo ∨ hi < x.toInt) (ht : (pc : Int) + dflt = (tgt : Int)) (k : mm_V l M R S E tgt lv stk I J cs ss) : mm_V l M R S E pc lv (.int x :: stk) I J cs ss := by
  intro p e s m args below meth c D cA ad A H locs ls X hP hS hl
  exact lv_tableOut X.1 X.2.1 hd h ht (k p e s m args below meth c D cA ad A H locs ls X hP hS hl)
theorem mv_tabIn {dflt lo hi : Int} {offs : Array Int} {len : Nat} {x : Int32} {off : Int} {tgt : Nat} (z : Int) (hd : decode (mm_cc M) pc = .ok (.tableswitch dflt lo hi offs, len)) (hz : x.toInt = z) (h1 : ¬ z < lo) (h2 : ¬ hi < z) (ho : offs[(z - lo).toNat]? = some off) (ht : (pc : Int) + off = (tgt : Int)) (k : mm_V l M R S E tgt lv stk I J cs ss) : mm_V l M R S E pc lv (.int x :: stk) I J cs ss := by
  subst hz
  intro p e s m args below meth c D cA ad A H locs ls X hP hS hl
  exact lv_tableIn X.1 X.2.1 hd h1 h2 ho ht (k p e s m args below meth c D cA ad A H locs ls X hP hS hl)
theorem mv_getA {r ci k idx : Nat} {f : Nat ⊕ Nat} {v : Value} (hF : mm_FL (mm_own M) idx ci k) (hd : decode (mm_cc M) pc = .ok (.getfield idx, 3)) (hr : mm_fld S r ci k f) (hv : ∀ ad, mm_f ad (I r) (J r) k f = mm_v ad v) (kk : mm_V l M R S E (pc + 3) lv (v :: stk) I J cs ss) : mm_V l M R S E pc lv (.ref r :: stk) I J cs ss := by
  intro p e s m args below meth c D cA ad A H locs ls X hP hS hl
  have hk := kk p e s m args below meth c D cA ad A H locs ls X hP hS hl
  obtain ⟨C, T, N, ⟨hc, hw, ty0, hty, hnm⟩, hkN, hlink⟩ := hF
  obtain ⟨fs, hs, hf⟩ := hr
  obtain ⟨hx, hb, hml, hown, hts, hnest, hK, hinj, hT, hret, hlocks⟩ := X
  have he := mm_w_at (cA := cA) (ad := ad) (I := I) (J := J) hs
  have hv' : (fs.mapIdx (mm_f ad (I r) (J r)))[k]? = some (mm_v ad v) := by
    rw [List.getElem?_mapIdx, hf, Option.map_some, hv]
  rcases hlink with hlink | ⟨host, hlink⟩
  · exact va_get (D := D) (C := C) (T := T) (N := N) hx hb hts hw hown hK hP r he hc k hkN (hts _ hlink) (fun _ h9 => h9) hv' hd hk
  · exact va_getN (D := D) (C := C) (T := T) (N := N) (host := host) hx hb hts hw hown hK hP r he hc k hkN (va_Nw.use rfl (hnest _ hlink)) (fun _ h9 => h9) hv' hd hk
/-- .. written by a constructor of its own class, final or not; type ty -/
def mm_FC (M : mm_M) (idx ci k : Nat) (ty : FieldType) : Prop := ∃ C T N, mm_CL ci C T N ∧ k < N ∧ Cond.fieldLink (mm_own M) idx (T k).1 (T k).2.1 (T k).2.2.1 ∈ mm_GW ∧ parseFieldDescriptor (T k).2.2.1 = some ty ∧ ((T k).2.2.2 = true → (mm_y M).name = "<init>" ∧ (T k).1 = mm_own M)
theorem mv_putA {r ci k idx : Nat} {ty : FieldType} {v : Value} {S' : mm_Sh} {I' : mm_I} {J' : mm_J} (hF : mm_FC M idx ci k ty) (hd : decode (mm_cc M) pc = .ok (.putfield idx, 3)) (hr : ∃ fs, S[r]? = some (.inr (ci, fs)) ∧ k < fs.length ∧ ∀ cA ad, (mm_w cA ad S I J).set r (ad r, .inr (ci, (fs.mapIdx (mm_f ad (I r) (J r))).set k (mm_v ad v))) = mm_w cA ad S' I' J') (hlen : S'.length = S.length) (hn : ∀ ad, narrow ty (mm_v ad v) = mm_v ad v) (hfit : ∀ ad, fits ty (mm_v ad v) = true) (kk : mm_V l M R S' E (pc + 3) lv stk I' J' cs ss) : mm_V l M R S E pc lv (v :: .ref r :: stk) I J cs ss := by
  intro p e s m args below meth c D cA ad A H locs ls X hP hS hl
  have hX := X
  obtain ⟨C, T, N, ⟨hc, hw, ty0, hty, hnm⟩, hkN, hlink, hd2, hfin⟩ := hF
  obtain ⟨fs, hs, hkl, hset⟩ := hr
  obtain ⟨hx, hb, hml, hown, hts, hnest, hK, hinj, hAr, hT, hA, hname, hret, hlocks⟩ := X
  have he := mm_w_at (cA := cA) (ad := ad) (I := I) (J := J) hs
  have hD := mm_D2 (cA := cA) (I := I) (J := J) hinj hAr
  have hl2 : k < (fs.mapIdx (mm_f ad (I r) (J r))).length := by simpa using hkl
  have kk2 : ∀ (H1 : Heap) (locs1 : List Loc), va_P D vwCl ((mm_w cA ad S I J).set r (ad r, .inr (ci, (fs.mapIdx (mm_f ad (I r) (J r))).set k (mm_v ad v)))) H1 → va_D A ((mm_w cA ad S I J).set r (ad r, .inr (ci, (fs.mapIdx (mm_f ad (I r) (J r))).set k (mm_v ad v)))) → va_S A s.heap H1 locs1 → W p l e R s m args below meth c H1 locs1 cs ss (E below args s D cA ad A) (F0 m (pc + 3) ls (stk.map (mm_v ad))) := by
    intro H1 locs1 hP1 _ hS1
    rw [hset] at hP1
    refine kk p e s m args below meth c D cA ad A H1 locs1 ls ?_ hP1 hS1 hl
    refine ⟨hx, hb, hml, hown, hts, hnest, hK, ?_, ?_, hT, hA, hname, hret, hlocks⟩
    · intro i j hi hj; exact hinj i j (by omega) (by omega)
    · intro r hr; exact hAr r (by omega)
  cases hf : (T k).2.2.2 with
  | false => exact va_put (D := D) (C := C) (T := T) (N := N) hx hb hts hw ty0 hty hnm hown hK hP hD hS r he hc k hkN (hts _ hlink) (fun _ h9 => h9) hf hd2 (hn ad) (hfit ad) hl2 hd kk2
  | true =>
    obtain ⟨n1, n2⟩ := hfin hf
    exact va_putF (D := D) (C := C) (T := T) (N := N) hx hb hts hw ty0 hty hnm hown hK hP hD hS r he hc k hkN (hts _ hlink) (fun _ h9 => h9) hf ((hname n1).trans n1) n2 hd2 (hn ad) (hfit ad) hl2 hd kk2
theorem mv_putI {r ci k idx : Nat} {x : Int32} (hF : mm_FC M idx ci k .int) (hd : decode (mm_cc M) pc = .ok (.putfield idx, 3)) (hr : mm_fld S r ci k (.inr 0)) (kk : mm_V l M R S E (pc + 3) lv stk (mm_up I r k x) J cs ss) : mm_V l M R S E pc lv (.int x :: .ref r :: stk) I J cs ss := by
  obtain ⟨fs, hs, hf⟩ := hr
  exact mv_putA hF hd ⟨fs, hs, (List.getElem?_eq_some_iff.mp hf).1, fun cA ad => mm_w_setI hs hf⟩ rfl (fun _ => rfl) (fun _ => rfl) kk
theorem mv_putJ {r ci k idx : Nat} {x : Int64} (hF : mm_FC M idx ci k .long) (hd : decode (mm_cc M) pc = .ok (.putfield idx, 3)) (hr : mm_fld S r ci k (.inr 1)) (kk : mm_V l M R S E (pc + 3) lv stk I (mm_upJ J r k x) cs ss) : mm_V l M R S E pc lv (.long x :: .ref r :: stk) I J cs ss := by
  obtain ⟨fs, hs, hf⟩ := hr
  exact mv_putA hF hd ⟨fs, hs, (List.getElem?_eq_some_iff.mp hf).1, fun cA ad => mm_w_setJ hs hf⟩ rfl (fun _ => rfl) (fun _ => rfl) kk
/-- field k of cell r becomes a reference to cell q -/
def mm_setf (S : mm_Sh) (r k q : Nat) : mm_Sh := match S[r]? with
  | some (.inr o) => S.set r (.inr (o.1, o.2.set k (.inl q)))
  | _ => S
theorem mm_setf_len (S : mm_Sh) (r k q : Nat) : (mm_setf S r k q).length = S.length := by
  unfold mm_setf
  split <;> simp
theorem mm_w_setR {cA : Nat → ClassId} {ad : Nat → Nat} {S : mm_Sh} {I : mm_I} {J : mm_J} {r ci k q : Nat} {fs : List (Nat ⊕ Nat)} (h : S[r]? = some (.inr (ci, fs))) (hk : k < fs.length) : (mm_w cA ad S I J).set r (ad r, .inr (ci, (fs.mapIdx (mm_f ad (I r) (J r))).set k (.ref (ad q)))) = mm_w cA ad (mm_setf S r k q) I J := by
  have e0 : mm_setf S r k q = S.set r (.inr (ci, fs.set k (.inl q))) := by
    unfold mm_setf
    rw [h]
  rw [e0]
  have hrl := (List.getElem?_eq_some_iff.mp h).1
  apply List.ext_getElem?
  intro i
  by_cases hi : i = r
  · subst hi
    rw [mm_w_get, List.getElem?_set, List.getElem?_set]
    simp only [if_true]
    have hl : i < (mm_w cA ad S I J).length := by
      simp only [mm_w, List.length_mapIdx]
      exact hrl
    rw [if_pos hl, if_pos hrl, Option.map_some]
    show some (ad i, Sum.inr (ci, _)) = some (ad i, Sum.inr (ci, (fs.set k (.inl q)).mapIdx (mm_f ad (I i) (J i))))
    congr 4
    apply List.ext_getElem?
    intro j
    rw [List.getElem?_mapIdx]
    by_cases hj : j = k
    · subst hj
      rw [List.getElem?_set, if_pos rfl, if_pos (by simpa using hk), List.getElem?_set, if_pos rfl, if_pos hk]
      rfl
    · rw [List.getElem?_set_ne (fun z => hj z.symm), List.getElem?_set_ne (fun z => hj z.symm), List.getElem?_mapIdx]
  · rw [List.getElem?_set_ne (fun z => hi z.symm), mm_w_get, mm_w_get, List.getElem?_set_ne (fun z => hi z.symm)]
theorem mv_putR {r ci k idx q : Nat} {ty : FieldType} (hF : mm_FC M idx ci k ty) (hty : (∃ n, ty = .object n) ∨ ∃ t, ty = .array t) (hd : decode (mm_cc M) pc = .ok (.putfield idx, 3)) (hr : ∃ fs, S[r]? = some (.inr (ci, fs)) ∧ k < fs.length) (kk : mm_V l M R (mm_setf S r k q) E (pc + 3) lv stk I J cs ss) : mm_V l M R S E pc lv (.ref q :: .ref r :: stk) I J cs ss := by
  obtain ⟨fs, hs, hf⟩ := hr
  refine mv_putA hF hd ⟨fs, hs, hf, fun cA ad => mm_w_setR hs hf⟩ (mm_setf_len _ _ _ _) (fun ad => ?_) (fun ad => ?_) kk
  · rcases hty with ⟨n, rfl⟩ | ⟨t, rfl⟩ <;> rfl
  · rcases hty with ⟨n, rfl⟩ | ⟨t, rfl⟩ <;> rfl
theorem mv_objInit {idx r : Nat} (hlink : Cond.methodLink (mm_own M) idx Lib.objectInit ∈ mm_GW) (hinst : Cond.instanceMethod Lib.objectInit ∈ mm_GW) (hcode : Cond.code Lib.objectInit ⟨#[0xb1]⟩ 1 none ∈ mm_GW) (hd : decode (mm_cc M) pc = .ok (.invokespecial idx, 3)) (hR : 1 ≤ R.frames ∧ (stk.map fun v => v.category).sum + 12 ≤ R.locals) (k : mm_V l M R S E (pc + 3) lv stk I J cs ss) : mm_V l M R S E pc lv (.ref r :: stk) I J cs ss := by
  intro p e s m args below meth c D cA ad A H locs ls X hP hS hl
  have hts := X.2.2.2.2.1
  refine W.objInit (a := ad r) (rest := stk.map (mm_v ad)) X.1 X.2.1 X.2.2.2.1 (hts _ hlink) (hts _ hinst) (hts _ hcode) rfl (by rw [X.2.2.1]; exact hl.choose_spec.1.1) rfl hd hR.1 ?_ (k p e s m args below meth c D cA ad A H locs ls X hP hS hl)
  show 2 * 0 + _ + 12 ≤ _
  rw [mm_sum]
  omega
theorem mv_mmax {idx : Nat} {x y : Int32} (hL : mm_LM (mm_own M) idx Lib.Math.max.name Lib.Math.max.code) (hd : decode (mm_cc M) pc = .ok (.invokestatic idx, 3)) (hR : 1 ≤ R.frames ∧ (stk.map fun v => v.category).sum + 13 ≤ R.locals ∧ cs ≤ R.cells ∧ ss ≤ R.slots) (kk : mm_V l M R S E (pc + 3) lv (.int (if x < y then y else x) :: stk) I J cs ss) : mm_V l M R S E pc lv (.int y :: .int x :: stk) I J cs ss := by
  intro p e s m args below meth c D cA ad A H locs ls X hP hS hl
  obtain ⟨h1, h2, h3, h4⟩ := hL
  obtain ⟨r1, r2, r3, r4⟩ := hR
  have hts := X.2.2.2.2.1
  exact va_mmax X.1 X.2.1 (by rw [X.2.2.1, hl.choose_spec.1.1]) X.2.2.2.1 (hts _ h1) (hts _ h2) (hts _ h3) (hts _ h4) r1 (by rw [mm_sum]; exact r2) r3 r4 hd (kk p e s m args below meth c D cA ad A H locs ls X hP hS hl)
/-- the step to a larger shape -/
theorem mv_grow {n0 : Nat} {p : Program} {e : Env} {s : State} {m : MethodId} {args : Array Value} {below : List Frame} {meth : Method} {c : Code} {D : va_G} {cA : Nat → ClassId} {ad ad2 : Nat → Nat} {A : Nat → Prop} {H1 : Heap} {locs1 : List Loc} {ls : Array Slot} {S2 : mm_Sh} {pc2 cs2 ss2 : Nat} {stk2 : List Value} {I2 : mm_I} {J2 : mm_J}
    (hM : mm_mono n0 E) (hn0 : n0 ≤ S.length) (he : mm_ext S.length ad ad2) (hrl : lv.all (fun q => mm_oldv S.length q.2) = true) (X : mm_VX M S D cA ad A p s m args meth c) (hinj : mm_inj ad2 S2) (hAr : ∀ r, r < S2.length → A (ad2 r)) (hP : va_P D vwCl (mm_w cA ad2 S2 I2 J2) H1) (hS : va_S A s.heap H1 locs1) (hl : mm_has ls (mm_nL M) ad lv)
    (k : mm_V l M R S2 E pc2 lv stk2 I2 J2 cs2 ss2) : W p l e R s m args below meth c H1 locs1 cs2 ss2 (E below args s D cA ad A) (F0 m pc2 ls (stk2.map (mm_v ad2))) := by
  obtain ⟨hx, hb, hml, hown, hts, hnest, hK, -, -, hT, hA, hname, hret, hlocks⟩ := X
  refine mm_Wmono (fun t ht => hM below args s D cA ad ad2 A t (fun r hr => he r (hr.imp (fun q => by omega) id)) ht) ?_
  exact k p e s m args below meth c D cA ad2 A H1 locs1 ls ⟨hx, hb, hml, hown, hts, hnest, hK, hinj, hAr, hT.cong he, hA, hname, hret, hlocks⟩ hP hS (mm_has_ext he hrl hl)
/-- fields of a new object -/
def mm_born (ci : Nat) : List (Nat ⊕ Nat) := (mm_kd ci).map (fun c => if c = 0 then .inr 0 else if c = 1 then .inr 1 else .inr 2)
/-- a class that objects are made of: what its fields hold at first -/
def mm_NC (own : String) (idx ci : Nat) (C : String) (N : Nat) : Prop := ∃ T, mm_CL ci C T N ∧ Cond.classLink own idx C ∈ mm_GW ∧ Cond.instantiable C N ∈ mm_GW ∧ Cond.initialized C ∈ mm_GW ∧ ∃ ty0 : Nat → FieldType, (∀ k, k < N → parseFieldDescriptor (T k).2.2.1 = some (ty0 k)) ∧ ∀ j, j < N → defaultValue (ty0 j) = vp_V ((mm_born ci).mapIdx (mm_f id (fun _ => 0) (fun _ => 0))) j
theorem mm_born_id (ad : Nat → Nat) (ci : Nat) : (mm_born ci).mapIdx (mm_f ad (fun _ => 0) (fun _ => 0)) = (mm_born ci).mapIdx (mm_f id (fun _ => 0) (fun _ => 0)) := by
  apply List.ext_getElem?
  intro i
  rw [List.getElem?_mapIdx, List.getElem?_mapIdx]
  cases hf : (mm_born ci)[i]? with
  | none => rfl
  | some f =>
    have hm := List.mem_of_getElem? hf
    unfold mm_born at hm
    obtain ⟨c, -, hc⟩ := List.mem_map.mp hm
    by_cases h0 : c = 0
    · rw [if_pos h0] at hc; subst hc; rfl
    · rw [if_neg h0] at hc
      by_cases h1 : c = 1
      · rw [if_pos h1] at hc; subst hc; rfl
      · rw [if_neg h1] at hc; subst hc; rfl
theorem mv_new {n0 idx ci N : Nat} {C : String} (hM : mm_mono n0 E) (hn0 : Nat.ble n0 S.length = true) (hsm : Nat.blt S.length 1000000 = true) (hcd : mm_closed S.length S = true) (hC : mm_NC (mm_own M) idx ci C N) (hI : I S.length = fun _ => 0) (hJ : J S.length = fun _ => 0) (hd : decode (mm_cc M) pc = .ok (.new idx, 3)) (hcs : cs + 1 ≤ R.cells) (hss : ss + N ≤ R.slots) (hrl : lv.all (fun q => mm_oldv S.length q.2) = true) (hrs : stk.all (mm_oldv S.length) = true) (k : mm_V l M R (S ++ [.inr (ci, mm_born ci)]) E (pc + 3) lv (.ref S.length :: stk) I J (cs + 1) (ss + N)) : mm_V l M R S E pc lv stk I J cs ss := by
  intro p e s m args below meth c D cA ad A H locs ls X hP hS hl
  have hn0 := Nat.le_of_ble_eq_true hn0
  have hsm := Nat.blt_eq.mp hsm
  obtain ⟨T, ⟨hc, hw, -⟩, hcl, hinst, hini, ty0, hty, hdef⟩ := hC
  have hX := X
  obtain ⟨hx, hb, hml, hown, hts, hnest, hK, hinj, hAr, hT, hA, hname, hret, hlocks⟩ := X
  have hD := mm_D2 (cA := cA) (I := I) (J := J) hinj hAr
  refine va_new (D := D) (C := C) (T := T) (N := N) hx hb hts hw ty0 hty hown (hts _ hcl) (hts _ hinst) (hts _ hini) hK hP hD hS hA hc (fs := (mm_born ci).mapIdx (mm_f id (fun _ => 0) (fun _ => 0))) hdef hcs hss hd (fun q H1 hP1 hD1 hS1 => ?_)
  have he : mm_ext S.length ad (mm_ad ad S.length q) := mm_ad_ext hsm
  have hq : ∀ r, r < S.length → ad r ≠ q := by
    intro r hr e
    obtain ⟨sh, hsh⟩ : ∃ sh, S[r]? = some sh := ⟨_, List.getElem?_eq_getElem hr⟩
    have h1 : (mm_w cA ad S I J ++ [(q, Sum.inr (ci, (mm_born ci).mapIdx (mm_f id (fun _ => 0) (fun _ => 0))))])[r]? = some (ad r, mm_e cA ad I J r sh) := by
      rw [List.getElem?_append_left (by simpa [mm_w] using hr)]
      exact mm_w_at hsh
    have h2 : (mm_w cA ad S I J ++ [(q, Sum.inr (ci, (mm_born ci).mapIdx (mm_f id (fun _ => 0) (fun _ => 0))))])[S.length]? = some (q, Sum.inr (ci, (mm_born ci).mapIdx (mm_f id (fun _ => 0) (fun _ => 0)))) := by
      rw [List.getElem?_append_right (by simp [mm_w])]
      simp [mm_w]
    have := hD1.1 r S.length _ _ h1 h2 e
    omega
  have hqA : A q := by
    refine hD1.2 S.length (q, Sum.inr (ci, (mm_born ci).mapIdx (mm_f id (fun _ => 0) (fun _ => 0)))) ?_
    rw [List.getElem?_append_right (by simp [mm_w])]
    simp [mm_w]
  have hP2 : va_P D vwCl (mm_w cA (mm_ad ad S.length q) (S ++ [.inr (ci, mm_born ci)]) I J) H1 := by
    rw [mm_w_push, mm_w_ext he (Nat.le_refl _) hcd, mm_ad_at]
    show va_P D vwCl (mm_w cA ad S I J ++ [(q, Sum.inr (ci, (mm_born ci).mapIdx (mm_f (mm_ad ad S.length q) (I S.length) (J S.length))))]) H1
    rw [hI, hJ, mm_born_id]
    exact hP1
  have := mv_grow (e := e) (below := below) hM hn0 he hrl hX (mm_inj_push hinj hq) (mm_A_push hAr hqA) hP2 hS1 hl k
  rw [List.map_cons, mm_stk_eq he hrs] at this
  have e2 : mm_v (mm_ad ad S.length q) (.ref S.length) = .ref q := by show Value.ref _ = _; rw [mm_ad_at]
  rw [e2] at this
  exact this
/-- arrays: kd 0 int, 1 boolean -/
theorem mv_newa {n0 kd n : Nat} {at0 : ArrayType} {v : Int32} (hM : mm_mono n0 E) (hn0 : Nat.ble n0 S.length = true) (hsm : Nat.blt S.length 1000000 = true) (hcd : mm_closed S.length S = true) (hat : (kd = 0 ∧ at0 = .int) ∨ (kd = 1 ∧ at0 = .boolean)) (harr : Cond.arrayClass (newarray.typeOf at0) ∈ mm_GW) (hI : I S.length = fun _ => 0) (hv0 : ¬ v < 0) (hv : v.toNatClampNeg = n) (hbig : n * 4 ≤ 536870912) (hd : decode (mm_cc M) pc = .ok (.newarray at0, 2)) (hcs : cs + 1 ≤ R.cells) (hss : ss + n ≤ R.slots) (hrl : lv.all (fun q => mm_oldv S.length q.2) = true) (hrs : stk.all (mm_oldv S.length) = true) (k : mm_V l M R (S ++ [.inl (kd, n)]) E (pc + 2) lv (.ref S.length :: stk) I J (cs + 1) (ss + n)) : mm_V l M R S E pc lv (.int v :: stk) I J cs ss := by
  intro p e s m args below meth c D cA ad A H locs ls X hP hS hl
  have hn0 := Nat.le_of_ble_eq_true hn0
  have hsm := Nat.blt_eq.mp hsm
  have hX := X
  obtain ⟨hx, hb, hml, hown, hts, hnest, hK, hinj, hAr, hT, hA, hname, hret, hlocks⟩ := X
  have hD := mm_D2 (cA := cA) (I := I) (J := J) hinj hAr
  have key : ∀ (ty : FieldType), newarray.typeOf at0 = ty → (∀ c1 : ClassId, vp_cell c1 (n, .inl (fun _ => 0)) = arrV c1 n (fun _ => defaultValue ty)) → n * componentBytes ty ≤ 536870912 → (∀ c1 : ClassId, va_RA s c1 ty → c1 = cA kd) → W p l e R s m args below meth c H locs cs ss (E below args s D cA ad A) (F0 m pc ls (.int v :: stk.map (mm_v ad))) := by
    intro ty hty hcell hbytes huniq
    refine va_newa (D := D) hx hb (hts _ harr) hty hK hP hD hS hA (a0 := (n, .inl (fun _ => 0))) hcell hv0 hv hbytes hcs hss hd (fun q c1 H1 hK1 hP1 hD1 hS1 => ?_)
    have hc1 : c1 = cA kd := huniq c1 (hK1.2 2 (c1, ty) rfl).2
    subst hc1
    have he : mm_ext S.length ad (mm_ad ad S.length q) := mm_ad_ext hsm
    have hq : ∀ r, r < S.length → ad r ≠ q := by
      intro r hr e
      obtain ⟨sh, hsh⟩ : ∃ sh, S[r]? = some sh := ⟨_, List.getElem?_eq_getElem hr⟩
      have h1 : (mm_w cA ad S I J ++ [(q, Sum.inl (cA kd, n, Sum.inl (fun _ => (0 : Int32))))])[r]? = some (ad r, mm_e cA ad I J r sh) := by
        rw [List.getElem?_append_left (by simpa [mm_w] using hr)]
        exact mm_w_at hsh
      have h2 : (mm_w cA ad S I J ++ [(q, Sum.inl (cA kd, n, Sum.inl (fun _ => (0 : Int32))))])[S.length]? = some (q, Sum.inl (cA kd, n, Sum.inl (fun _ => (0 : Int32)))) := by
        rw [List.getElem?_append_right (by simp [mm_w])]
        simp [mm_w]
      have := hD1.1 r S.length _ _ h1 h2 e
      omega
    have hqA : A q := by
      refine hD1.2 S.length (q, Sum.inl (cA kd, n, Sum.inl (fun _ => (0 : Int32)))) ?_
      rw [List.getElem?_append_right (by simp [mm_w])]
      simp [mm_w]
    have hP2 : va_P D vwCl (mm_w cA (mm_ad ad S.length q) (S ++ [.inl (kd, n)]) I J) H1 := by
      rw [mm_w_push, mm_w_ext he (Nat.le_refl _) hcd, mm_ad_at]
      show va_P D vwCl (mm_w cA ad S I J ++ [(q, Sum.inl (cA kd, n, Sum.inl (I S.length)))]) H1
      rw [hI]
      exact hP1
    have := mv_grow (e := e) (below := below) hM hn0 he hrl hX (mm_inj_push hinj hq) (mm_A_push hAr hqA) hP2 hS1 hl k
    rw [List.map_cons, mm_stk_eq he hrs] at this
    have e2 : mm_v (mm_ad ad S.length q) (.ref S.length) = .ref q := by show Value.ref _ = _; rw [mm_ad_at]
    rw [e2] at this
    exact this
  have hu : ∀ (k0 : Nat) (ty : FieldType), (mm_ty cA)[k0]? = some (cA kd, ty) → (∀ C, ty ≠ .object C) → ∀ c1 : ClassId, va_RA s c1 ty → c1 = cA kd := by
    intro k0 ty h0 hno c1 h1
    have h2 := (hK.2 k0 _ h0).2
    cases ty <;> first | exact absurd rfl (hno _) | exact Option.some.inj (h1.symm.trans h2)
  rcases hat with ⟨rfl, rfl⟩ | ⟨rfl, rfl⟩
  · exact key .int rfl (fun _ => rfl) hbig (hu 0 .int rfl (fun _ h => by cases h))
  · refine key .boolean rfl (fun _ => rfl) ?_ (hu 1 .boolean rfl (fun _ h => by cases h))
    show n * 1 ≤ _
    omega
/-! contracts of methods that make cells -/
def mm_rmk (d mc ms : Nat) : Room := { frames := d, cells := mc, slots := ms, locals := 40 * d }
def mm_Kc (D : va_G) (cA : Nat → ClassId) (ad : Nat → Nat) (n : Nat) (S' : mm_Sh) (I' : mm_I) (J' : mm_J) (A : Nat → Prop) : Array Value → State → Outcome → State → Prop := fun _ st o t => (∃ ad', mm_ext n ad ad' ∧ o = .returned none ∧ va_P D vwCl (mm_w cA ad' S' I' J') t.heap ∧ mm_inj ad' S' ∧ ∀ r, r < S'.length → A (ad' r)) ∧ va_F A st t
def mm_AK (ad : Nat → Nat) (S : mm_Sh) (sz : Nat) : Nat → Prop := fun q => mm_A ad S q ∨ sz ≤ q
def mm_K (l : Launch) (M : mm_M) (S : mm_Sh) (av : List Value) (I : mm_I) (J : mm_J) (S' : mm_Sh) (I' : mm_I) (J' : mm_J) (mc ms : Nat) : Prop :=
  ∀ (D : va_G) (cA : Nat → ClassId) (ad : Nat → Nat) (sz : Nat), Met l (mm_y M) (mm_ws M) (mm_rmk (mm_rk M) mc ms) (va_Pc (av.map (mm_v ad)) (fun U => U.heap.size = sz ∧ mm_B D cA ad S I J U)) (mm_Kc D cA ad S.length S' I' J' (mm_AK ad S sz)) mc ms (mm_AK ad S sz)
def mm_Kend (n : Nat) (S' : mm_Sh) (I' : mm_I) (J' : mm_J) (mc ms : Nat) : mm_VE := fun below args s D cA ad A t => MQ below (mm_Kc D cA ad n S' I' J' A) args s mc ms A t
theorem mm_Kmono {n : Nat} {S' : mm_Sh} {I' : mm_I} {J' : mm_J} {mc ms : Nat} : mm_mono n (mm_Kend n S' I' J' mc ms) := by
  intro below args s D cA ad ad2 A t he h
  obtain ⟨o, h1, h2, ⟨⟨ad', h3, h4⟩, h5⟩, h6⟩ := h
  exact ⟨o, h1, h2, ⟨⟨ad', he.trans h3 (Nat.le_refl _), h4⟩, h5⟩, h6⟩
theorem mm_Kenter {av : List Value} {S' : mm_Sh} {I' : mm_I} {J' : mm_J} {mc ms : Nat} (hown : mm_own M = (mm_y M).cls) (hpl : plainName (mm_y M).cls = true) (hn : Nat.ble (lg_sl av).length (mm_nL M) = true) (k : mm_V l M (mm_rmk (mm_rk M) mc ms) S (mm_Kend S.length S' I' J' mc ms) 0 (lv_args 0 av) [] I J 0 0) : mm_K l M S av I J S' I' J' mc ms := by
  intro D cA ad sz
  refine Met.ofW (cc := mm_cc M) (maxL := mm_nL M) (ret := mm_ret M) hpl rfl ?_
  intro p e s m args below meth c s₁ B hml hv
  obtain ⟨rfl, hsz, hP, hK, hinj, hN, hT⟩ := hv
  have hts := atoms_spec (ws := mm_ws M) B.pre
  have hfc : s.vm.findClass (mm_own M) = some m.cls := by rw [hown]; exact findClass_of_methodNamed B.named
  have hl := lv_entry (av.map (mm_v ad)) (n := mm_nL M) (by rw [mm_lgsl_len]; exact Nat.le_of_ble_eq_true hn)
  rw [lg_entry_eq]
  subst hsz
  refine k p e s m _ below meth c D cA ad (mm_AK ad S s.heap.size) s.heap [] _ ⟨B.exec, B.bytes, hml, hfc, fun w hw => hts w (List.mem_cons_of_mem _ hw), hN, hK, hinj, fun r hr => Or.inl ⟨r, hr, rfl⟩, hT.wide (fun q hq => hq), fun q hq => Or.inr hq, fun _ => (name_of_methodNamed B.named B.method).1, B.returns, B.notSynchronized⟩ hP va_S.rf ⟨_, hl, fun i v hi => mm_args_look av 0 i v hi⟩
theorem mv_vret {n : Nat} {S' : mm_Sh} {I' : mm_I} {J' : mm_J} {mc ms : Nat} (hr : mm_ret M = none) (hd : decode (mm_cc M) pc = .ok (.return_, 1)) (hS' : S = S') (hI' : I = I') (hJ' : J = J') (hcs : cs = mc) (hss : ss = ms) : mm_V l M R S (mm_Kend n S' I' J' mc ms) pc lv [] I J cs ss := by
  subst hS'; subst hI'; subst hJ'; subst hcs; subst hss
  intro p e s m args below meth c D cA ad A H locs ls X hP hS hl
  obtain ⟨hx, hb, hml, hown, hts, hnest, hK, hinj, hAr, hT, hA, hname, hret, hlocks⟩ := X
  exact W.vret hx hb (hret.trans hr) (fun t ht hW => ⟨⟨ad, fun _ _ => rfl, rfl, by rw [ht]; exact hP, hinj, hAr⟩, hS.F ht⟩) hS.2.2 hd hlocks
/-- a call of a constructor that makes cells -/
def mm_LI (own : String) (idx : Nat) (z : mm_M) (n : Nat) : Prop :=
  (Cond.methodLink own idx (mm_y z) ∈ mm_GW ∨ ∃ host, Cond.methodLinkNest own idx (mm_y z) host ∈ mm_NW) ∧ (mm_y z).name = "<init>" ∧ mm_ret z = none ∧ Cond.instanceMethod (mm_y z) ∈ mm_GW ∧ Cond.initialized (mm_y z).cls ∈ mm_GW ∧ Cond.code (mm_y z) (mm_cc z) (mm_nL z) (mm_ret z) ∈ mm_GW ∧ ((mm_y z).cls ≠ "java/lang/invoke/MethodHandle" ∧ (mm_y z).cls ≠ "java/lang/invoke/VarHandle") ∧ (parseMethodDescriptor (mm_y z).desc).map (fun d => d.parameters.length) = some n
theorem mv_callK {n0 : Nat} {z : mm_M} {idx n b mc ms : Nat} {As : List Value} {st0 : List Value} {S' : mm_Sh} {I' : mm_I} {J' : mm_J} (hM : mm_mono n0 E) (hn0 : Nat.ble n0 S.length = true) (hz : mm_K l z S (.ref b :: As) I J S' I' J' mc ms) (hL : mm_LI (mm_own M) idx z n) (hn : As.length = n) (hd : decode (mm_cc M) pc = .ok (.invokespecial idx, 3)) (hR : mm_rk z + 1 ≤ R.frames ∧ 8 + (mm_nL z + 11) + 40 * mm_rk z ≤ R.locals ∧ cs + mc ≤ R.cells ∧ ss + ms ≤ R.slots) (hst : st0 = As.reverse ++ .ref b :: stk) (hsm : Nat.ble (stk.map fun v => v.category).sum 8 = true) (hrl : lv.all (fun q => mm_oldv S.length q.2) = true) (hrs : stk.all (mm_oldv S.length) = true)
    (kk : mm_V l M R S' E (pc + 3) lv stk I' J' (cs + mc) (ss + ms)) : mm_V l M R S E pc lv st0 I J cs ss := by
  intro p e s m args below meth c D cA ad A H locs ls X hP hS hl
  have hn0 := Nat.le_of_ble_eq_true hn0
  have hX := X
  obtain ⟨hx, hb2, hml, hown, hts, hnest, hK, hinj, hAr, hT, hA, hname, hret, hlocks⟩ := X
  obtain ⟨hlink, hin1, hrz, hinst, hini, hcode, hne, hlen⟩ := hL
  obtain ⟨hf1, hf2, hf3, hf4⟩ := hR
  have hcode' := hcode
  rw [hrz] at hcode'
  have hst2 : st0.map (mm_v ad) = (As.map (mm_v ad)).reverse ++ .ref (ad b) :: stk.map (mm_v ad) := by
    rw [hst]; simp [mm_v]
  have hlen2 : ∀ sig, parseMethodDescriptor (mm_y z).desc = some sig → n = sig.parameters.length := by
    intro sig h
    rw [h] at hlen
    exact (Option.some.inj hlen).symm
  have hTn : ∀ U : State, U.heap = H → s.WarmedH U.vm → mm_T ad (mm_A ad S) U U.heap := by
    intro U hU hW
    rw [hU]
    exact (hT.to hW hS).narrow (fun q hq => by obtain ⟨r, hr, e⟩ := hq; rw [e]; exact hAr r hr)
  have hp : PreS s H (va_Pc ((Value.ref b :: As).map (mm_v ad)) (fun U => U.heap.size = H.size ∧ mm_B D cA ad S I J U)) (.ref (ad b) :: As.map (mm_v ad)) := by
    refine ⟨?_, fun U hU hW => ⟨rfl, by rw [hU], by rw [hU]; exact hP, hK.moved hW.alike, hinj, mm_nest hW hnest, hTn U hU hW⟩⟩
    intro a U g mk h
    exact ⟨h.1, h.2.1, (mm_blind (av := (Value.ref b :: As).map (mm_v ad)) a U g mk ⟨h.1, h.2.2⟩).2⟩
  have hsum : 2 * (F0 m pc ls (st0.map (mm_v ad))).monitorRoom + ((stk.map (mm_v ad)).map fun v => v.category).sum ≤ 8 := by
    rw [mm_sum]
    exact lv_room (Nat.le_of_ble_eq_true hsm)
  have hfree : ∀ q, mm_AK ad S H.size q → A q := by
    intro q hq
    rcases hq with ⟨r, hr, e⟩ | hq
    · rw [e]; exact hAr r hr
    · exact hA q (Nat.le_trans hS.1 hq)
  have hrun : va_Run p l e R s m args below meth c H locs cs ss mc ms (F0 m pc ls (st0.map (mm_v ad))) (stk.map (mm_v ad)) (mm_Kc D cA ad S.length S' I' J' (mm_AK ad S H.size) (Value.ref (ad b) :: As.map (mm_v ad)).toArray) (mm_AK ad S H.size) := by
    have hz' := hz D cA ad H.size
    unfold mm_ws at hz'
    rw [hrz] at hz'
    have hg : GoodIn mm_GW (Cond.code (mm_y z) (mm_cc z) (mm_nL z) none :: mm_GW) := by
      have := mm_good hcode
      unfold mm_ws at this
      rw [hrz] at this
      exact this
    rcases hlink with hlink | ⟨host, hlink⟩
    · exact va_runI (As := As.map (mm_v ad)) (rest := stk.map (mm_v ad)) ⟨hx, hb2, hml, hown, hts⟩ hz' ⟨⟨rfl, rfl, hf1, hf2, pay_in hts hg, List.mem_cons_self, hts _ hcode', hts _ hini, hne, hlen2, hts _ hlink⟩, hin1, hts _ hinst⟩ hp rfl (by simpa using hn) hl.choose_spec.1.1 hst2 hsum hd ⟨hf3, hf4⟩
    · exact va_runIN (host := host) (As := As.map (mm_v ad)) (rest := stk.map (mm_v ad)) ⟨hx, hb2, hml, hown, hts⟩ hz' ⟨⟨⟨rfl, rfl, hf1, hf2, pay_in hts hg, List.mem_cons_self⟩, hts _ hcode', hts _ hini, hne, hlen2, va_Nw.use rfl (hnest _ hlink)⟩, hin1, hts _ hinst⟩ hp rfl (by simpa using hn) hl.choose_spec.1.1 hst2 hsum hd ⟨hf3, hf4⟩
  intro T hT0 X0
  obtain ⟨v, st₀, t, T', L, h0, X', hL, e1, e2, ⟨⟨ad', he, ho, hP', hinj', hAr'⟩, hz1, hk⟩, st⟩ := hrun T hT0 X0
  cases ho
  rw [h0] at hz1 hk
  have hS' : va_S A s.heap T'.heap (locs ++ L) := ⟨Nat.le_trans hS.1 (by rw [e1]; exact hz1), fun q h1 h2 => by rw [e1, hk q (Nat.lt_of_lt_of_le h1 hS.1) (fun w => h2 (hfree q w))]; exact hS.2.1 q h1 h2, fun q hq => by
    rcases List.mem_append.mp hq with h | h
    · exact hS.2.2 q h
    · exact hfree _ (hL q h)⟩
  have := mv_grow (e := e) (below := below) hM hn0 he hrl hX hinj' (fun r hr => hfree _ (hAr' r hr)) (by rw [e1]; exact hP') hS' hl kk
  rw [mm_stk_eq he hrs] at this
  obtain ⟨t2, a1, b1⟩ := this T' rfl X'
  exact ⟨t2, st t2 a1, b1⟩
/-- a call of a method that makes none -/
theorem mv_callV {z : mm_M} {idx n b ci : Nat} {As : List Value} {st0 : List Value} {Qz : mm_QQ} {T : u_T} {N : Nat} {fs : List (Nat ⊕ Nat)} (hz : mm_C l z S (.ref b :: As) I J Qz) (hL : mm_LV (mm_own M) idx z n) (hn : As.length = n) (hd : decode (mm_cc M) pc = .ok (.invokevirtual idx, 3)) (hR : mm_roomy R cs ss z) (hcl : vwCl[ci]? = some (mm_own z, T, N)) (hb : S[b]? = some (.inr (ci, fs))) (hst : st0 = As.reverse ++ .ref b :: stk) (hsm : Nat.ble (stk.map fun v => v.category).sum 8 = true)
    (kk : ∀ r I' J', Qz r I' J' → mm_V l M R S E (pc + 3) lv (r.toList ++ stk) I' J' cs ss) : mm_V l M R S E pc lv st0 I J cs ss := by
  intro p e s m args below meth c D cA ad A H locs ls X hP hS hl
  have hX := X
  obtain ⟨hx, hb2, hml, hown, hts, hnest, hK, hinj, hAr, hT, hA, hname, hret, hlocks⟩ := X
  obtain ⟨hlink, hinst, hsel, hini, hcode, hne, hlen⟩ := hL
  obtain ⟨hf1, hf2, hf3, hf4⟩ := hR
  have hst2 : st0.map (mm_v ad) = (As.map (mm_v ad)).reverse ++ .ref (ad b) :: stk.map (mm_v ad) := by
    rw [hst]; simp [mm_v]
  have hlen2 : ∀ sig, parseMethodDescriptor (mm_y z).desc = some sig → n = sig.parameters.length := by
    intro sig h
    rw [h] at hlen
    exact (Option.some.inj hlen).symm
  have hsub : ∀ q, mm_A ad S q → A q := fun q hq => by obtain ⟨r, hr, e⟩ := hq; rw [e]; exact hAr r hr
  have hp : PreV s H (mm_own z) (ad b) (va_Pc ((Value.ref b :: As).map (mm_v ad)) (mm_B D cA ad S I J)) (As.map (mm_v ad)) := by
    refine ⟨mm_blind, va_recv hK hP hcl (mm_w_at hb), fun U hU hW => ⟨rfl, by rw [hU]; exact hP, hK.moved hW.alike, hinj, mm_nest hW hnest, by rw [hU]; exact (hT.to hW hS).narrow hsub⟩⟩
  have hsum : 2 * (F0 m pc ls (st0.map (mm_v ad))).monitorRoom + ((stk.map (mm_v ad)).map fun v => v.category).sum ≤ 8 := by
    rw [mm_sum]
    exact lv_room (Nat.le_of_ble_eq_true hsm)
  have hrun : va_Run p l e R s m args below meth c H locs cs ss 0 0 (F0 m pc ls (st0.map (mm_v ad))) (stk.map (mm_v ad)) (mm_Qc D cA ad S Qz (Value.ref (ad b) :: As.map (mm_v ad)).toArray) (mm_A ad S) := by
    rcases hlink with hlink | ⟨host, hlink⟩
    · exact va_runV (As := As.map (mm_v ad)) (rest := stk.map (mm_v ad)) ⟨hx, hb2, hml, hown, hts⟩ (hz D cA ad) ⟨⟨rfl, rfl, hf1, hf2, pay_in hts (mm_good hcode), List.mem_cons_self, hts _ hcode, hts _ hini, hne, hlen2, hts _ hlink⟩, hts _ hinst, hts _ hsel⟩ hp rfl (by simpa using hn) hl.choose_spec.1.1 hst2 hsum hd ⟨hf3, hf4⟩
    · exact va_runVN (host := host) (As := As.map (mm_v ad)) (rest := stk.map (mm_v ad)) ⟨hx, hb2, hml, hown, hts⟩ (hz D cA ad) ⟨⟨⟨rfl, rfl, hf1, hf2, pay_in hts (mm_good hcode), List.mem_cons_self⟩, hts _ hcode, hts _ hini, hne, hlen2, va_Nw.use rfl (hnest _ hlink)⟩, hts _ hinst, hts _ hsel⟩ hp rfl (by simpa using hn) hl.choose_spec.1.1 hst2 hsum hd ⟨hf3, hf4⟩
  intro T hT0 X0
  obtain ⟨v, st₀, t, T', L, h0, X', hL, e1, e2, ⟨⟨r, I', J', ho, hq, hp2⟩, hz1, hk⟩, st⟩ := hrun T hT0 X0
  cases ho
  rw [h0] at hz1 hk
  have hS' : va_S A s.heap T'.heap (locs ++ L) := ⟨Nat.le_trans hS.1 (by rw [e1]; exact hz1), fun q h1 h2 => by rw [e1, hk q (Nat.lt_of_lt_of_le h1 hS.1) (fun w => h2 (hsub q w))]; exact hS.2.1 q h1 h2, fun q hq => by
    rcases List.mem_append.mp hq with h | h
    · exact hS.2.2 q h
    · exact hsub _ (hL q h)⟩
  obtain ⟨t2, a1, b1⟩ := kk r I' J' hq p e s m args below meth c D cA ad A T'.heap (locs ++ L) ls hX (by rw [e1]; exact hp2) hS' hl T' rfl X'
  refine ⟨t2, st t2 ?_, b1⟩
  have es : (r.toList ++ stk).map (mm_v ad) = (r.map (mm_v ad)).toList ++ stk.map (mm_v ad) := by cases r <;> simp
  rw [es] at a1
  exact a1
end MMV
