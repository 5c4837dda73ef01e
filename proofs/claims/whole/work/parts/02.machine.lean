/-! ===== part 02: a small machine over numbered cells (no cell is made): its words ===== -/
/-- all good words of the tables; all nest-mate words -/
def mm_GW : List Cond := lw_tbl.filter goodWord
def mm_isN : Cond → Bool
  | .fieldLinkNest .. => true
  | .methodLinkNest .. => true
  | _ => false
def mm_NW : List Cond := lw_tbl.filter mm_isN
theorem mm_g {w : Cond} (i : Nat) (h : lw_tbl[i]? = some w) (hg : goodWord w = true) : w ∈ mm_GW := List.mem_filter.mpr ⟨List.mem_of_getElem? h, hg⟩
theorem mm_n {w : Cond} (i : Nat) (h : lw_tbl[i]? = some w) (hg : mm_isN w = true) : w ∈ mm_NW := List.mem_filter.mpr ⟨List.mem_of_getElem? h, hg⟩
/-- a shape: array (0 int, 1 boolean; length) or object (class; each field a cell's number, or 0 int, 1 long) -/
abbrev mm_Sh : Type := List ((Nat × Nat) ⊕ (Nat × List (Nat ⊕ Nat)))
abbrev mm_I : Type := Nat → Nat → Int32
abbrev mm_J : Type := Nat → Nat → Int64
def mm_up (I : mm_I) (r k : Nat) (x : Int32) : mm_I := fun a => if a = r then upd (I a) k x else I a
def mm_upJ (J : mm_J) (r k : Nat) (x : Int64) : mm_J := fun a b => if a = r ∧ b = k then x else J a b
def mm_v (ad : Nat → Nat) : Value → Value
  | .ref q => .ref (ad q)
  | v => v
def mm_f (ad : Nat → Nat) (Ir : Nat → Int32) (Jr : Nat → Int64) (k : Nat) : Nat ⊕ Nat → Value
  | .inl q => .ref (ad q)
  | .inr 0 => .int (Ir k)
  | .inr 1 => .long (Jr k)
  | .inr _ => .null
def mm_e (cA : Nat → ClassId) (ad : Nat → Nat) (I : mm_I) (J : mm_J) (r : Nat) : (Nat × Nat) ⊕ (Nat × List (Nat ⊕ Nat)) → va_E
  | .inl q => .inl (cA q.1, q.2, .inl (I r))
  | .inr q => .inr (q.1, q.2.mapIdx (mm_f ad (I r) (J r)))
def mm_w (cA : Nat → ClassId) (ad : Nat → Nat) (S : mm_Sh) (I : mm_I) (J : mm_J) : va_W := S.mapIdx (fun r sh => (ad r, mm_e cA ad I J r sh))
def mm_A (ad : Nat → Nat) (S : mm_Sh) : Nat → Prop := fun q => ∃ r, r < S.length ∧ q = ad r
def mm_inj (ad : Nat → Nat) (S : mm_Sh) : Prop := ∀ i j, i < S.length → j < S.length → ad i = ad j → i = j
theorem mm_w_at {cA : Nat → ClassId} {ad : Nat → Nat} {S : mm_Sh} {I : mm_I} {J : mm_J} {r : Nat} {sh : (Nat × Nat) ⊕ (Nat × List (Nat ⊕ Nat))} (h : S[r]? = some sh) : (mm_w cA ad S I J)[r]? = some (ad r, mm_e cA ad I J r sh) := by
  simp [mm_w, h]
theorem mm_w_get {cA : Nat → ClassId} {ad : Nat → Nat} {S : mm_Sh} {I : mm_I} {J : mm_J} (r : Nat) : (mm_w cA ad S I J)[r]? = (S[r]?).map (fun sh => (ad r, mm_e cA ad I J r sh)) := by
  simp [mm_w]
theorem mm_D {cA : Nat → ClassId} {ad : Nat → Nat} {S : mm_Sh} {I : mm_I} {J : mm_J} (h : mm_inj ad S) : va_D (mm_A ad S) (mm_w cA ad S I J) := by
  have key : ∀ (k : Nat) (q : Nat × va_E), (mm_w cA ad S I J)[k]? = some q → k < S.length ∧ q.1 = ad k := by
    intro k q hk
    rw [mm_w_get] at hk
    cases hs : S[k]? with
    | none => rw [hs] at hk; cases hk
    | some sh =>
      rw [hs] at hk
      cases hk
      exact ⟨(List.getElem?_eq_some_iff.mp hs).1, rfl⟩
  refine ⟨fun i j p q hi hj e => ?_, fun k q hk => ?_⟩
  · obtain ⟨a1, a2⟩ := key i p hi
    obtain ⟨b1, b2⟩ := key j q hj
    exact h i j a1 b1 (by rw [← a2, ← b2]; exact e)
  · obtain ⟨a1, a2⟩ := key k q hk
    exact ⟨k, a1, a2⟩
theorem mm_up_o {I : mm_I} {r k : Nat} {x : Int32} {a : Nat} (h : a ≠ r) : mm_up I r k x a = I a := by
  unfold mm_up; rw [if_neg h]
theorem mm_up_s {I : mm_I} {r k : Nat} {x : Int32} : mm_up I r k x r = upd (I r) k x := by
  unfold mm_up; rw [if_pos rfl]
theorem mm_upJ_o {J : mm_J} {r k : Nat} {x : Int64} {a : Nat} (h : a ≠ r) : mm_upJ J r k x a = J a := by
  funext b; unfold mm_upJ; rw [if_neg (fun q => h q.1)]
theorem mm_w_other {cA : Nat → ClassId} {ad : Nat → Nat} {S : mm_Sh} {I I' : mm_I} {J J' : mm_J} {r : Nat} {e : Nat × va_E} (hI : ∀ a, a ≠ r → I' a = I a) (hJ : ∀ a, a ≠ r → J' a = J a) (he : ∀ sh, S[r]? = some sh → e = (ad r, mm_e cA ad I' J' r sh)) : (mm_w cA ad S I J).set r e = mm_w cA ad S I' J' := by
  apply List.ext_getElem?
  intro i
  by_cases hi : i = r
  · subst hi
    rw [List.getElem?_set]
    simp only [if_true]
    rw [mm_w_get]
    cases hs : S[i]? with
    | none =>
      have hl : ¬ i < (mm_w cA ad S I J).length := by
        simp only [mm_w, List.length_mapIdx]
        simpa using hs
      rw [if_neg hl]; rfl
    | some sh =>
      have hl : i < (mm_w cA ad S I J).length := by
        simp only [mm_w, List.length_mapIdx]
        exact (List.getElem?_eq_some_iff.mp hs).1
      rw [if_pos hl, he sh hs]; rfl
  · rw [List.getElem?_set_ne (fun h => hi h.symm), mm_w_get, mm_w_get]
    cases S[i]? with
    | none => rfl
    | some sh =>
      have : mm_e cA ad I J i sh = mm_e cA ad I' J' i sh := by
        cases sh <;> simp [mm_e, hI i hi, hJ i hi]
      simp [this]
theorem mm_fs_setI {ad : Nat → Nat} {Ir : Nat → Int32} {Jr : Nat → Int64} {fs : List (Nat ⊕ Nat)} {k : Nat} {x : Int32} (h : fs[k]? = some (.inr 0)) : (fs.mapIdx (mm_f ad Ir Jr)).set k (.int x) = fs.mapIdx (mm_f ad (upd Ir k x) Jr) := by
  apply List.ext_getElem?
  intro i
  by_cases hi : i = k
  · subst hi
    have hl : i < fs.length := (List.getElem?_eq_some_iff.mp h).1
    rw [List.getElem?_set, if_pos rfl, if_pos (by simpa using hl), List.getElem?_mapIdx, h]
    simp [mm_f, upd]
  · rw [List.getElem?_set_ne (fun q => hi q.symm), List.getElem?_mapIdx, List.getElem?_mapIdx]
    cases fs[i]? with
    | none => rfl
    | some f =>
      rcases f with q | q
      · rfl
      · rcases q with _ | _ | n
        · simp [mm_f, upd, hi]
        · rfl
        · rfl
theorem mm_fs_setJ {ad : Nat → Nat} {Ir : Nat → Int32} {J : mm_J} {r : Nat} {fs : List (Nat ⊕ Nat)} {k : Nat} {x : Int64} (h : fs[k]? = some (.inr 1)) : (fs.mapIdx (mm_f ad Ir (J r))).set k (.long x) = fs.mapIdx (mm_f ad Ir (mm_upJ J r k x r)) := by
  apply List.ext_getElem?
  intro i
  by_cases hi : i = k
  · subst hi
    have hl : i < fs.length := (List.getElem?_eq_some_iff.mp h).1
    rw [List.getElem?_set, if_pos rfl, if_pos (by simpa using hl), List.getElem?_mapIdx, h]
    simp [mm_f, mm_upJ]
  · rw [List.getElem?_set_ne (fun q => hi q.symm), List.getElem?_mapIdx, List.getElem?_mapIdx]
    cases fs[i]? with
    | none => rfl
    | some f =>
      rcases f with q | q
      · rfl
      · rcases q with _ | _ | n
        · rfl
        · simp [mm_f, mm_upJ, hi]
        · rfl
theorem mm_w_setI {cA : Nat → ClassId} {ad : Nat → Nat} {S : mm_Sh} {I : mm_I} {J : mm_J} {r ci k : Nat} {fs : List (Nat ⊕ Nat)} {x : Int32} (h : S[r]? = some (.inr (ci, fs))) (hk : fs[k]? = some (.inr 0)) : (mm_w cA ad S I J).set r (ad r, .inr (ci, (fs.mapIdx (mm_f ad (I r) (J r))).set k (.int x))) = mm_w cA ad S (mm_up I r k x) J := by
  refine mm_w_other (fun a ha => mm_up_o ha) (fun _ _ => rfl) (fun sh hs => ?_)
  cases h.symm.trans hs
  show _ = (ad r, Sum.inr (ci, fs.mapIdx (mm_f ad (mm_up I r k x r) (J r))))
  rw [mm_up_s, mm_fs_setI hk]
theorem mm_w_setJ {cA : Nat → ClassId} {ad : Nat → Nat} {S : mm_Sh} {I : mm_I} {J : mm_J} {r ci k : Nat} {fs : List (Nat ⊕ Nat)} {x : Int64} (h : S[r]? = some (.inr (ci, fs))) (hk : fs[k]? = some (.inr 1)) : (mm_w cA ad S I J).set r (ad r, .inr (ci, (fs.mapIdx (mm_f ad (I r) (J r))).set k (.long x))) = mm_w cA ad S I (mm_upJ J r k x) := by
  refine mm_w_other (fun _ _ => rfl) (fun a ha => mm_upJ_o ha) (fun sh hs => ?_)
  cases h.symm.trans hs
  show _ = (ad r, Sum.inr (ci, fs.mapIdx (mm_f ad (I r) (mm_upJ J r k x r))))
  rw [mm_fs_setJ hk]
theorem mm_w_setA {cA : Nat → ClassId} {ad : Nat → Nat} {S : mm_Sh} {I : mm_I} {J : mm_J} {r kd n k : Nat} {x : Int32} (h : S[r]? = some (.inl (kd, n))) : (mm_w cA ad S I J).set r (ad r, .inl (cA kd, n, .inl (upd (I r) k x))) = mm_w cA ad S (mm_up I r k x) J := by
  refine mm_w_other (fun a ha => mm_up_o ha) (fun _ _ => rfl) (fun sh hs => ?_)
  cases h.symm.trans hs
  show _ = (ad r, Sum.inl (cA kd, n, Sum.inl (mm_up I r k x r)))
  rw [mm_up_s]
/-! the locals: the first entry of a place counts -/
def mm_look : List (Nat × Value) → Nat → Option Value
  | [], _ => none
  | q :: t, i => bif Nat.beq q.1 i then some q.2 else mm_look t i
def mm_has (ls : Array Slot) (nL : Nat) (ad : Nat → Nat) (lv : List (Nat × Value)) : Prop := ∃ l0, lv_has ls nL l0 ∧ ∀ i v, mm_look lv i = some v → (i, mm_v ad v) ∈ l0
theorem mm_has.at {ls : Array Slot} {nL : Nat} {ad : Nat → Nat} {lv : List (Nat × Value)} (h : mm_has ls nL ad lv) {i : Nat} {v : Value} (hi : mm_look lv i = some v) : ls[i]? = some (.val (mm_v ad v)) := by
  obtain ⟨l0, h0, h1⟩ := h
  exact h0.2.2 _ (h1 i v hi)
theorem mm_v_cat (ad : Nat → Nat) (v : Value) : (mm_v ad v).category = v.category := by cases v <;> rfl
def mm_free (lv : List (Nat × Value)) : Nat → Bool
  | 0 => true
  | i + 1 => match mm_look lv i with
    | some (.long _) => false
    | some (.double _) => false
    | _ => true
theorem mm_look_hit {i : Nat} {x : Value} {lv : List (Nat × Value)} : mm_look ((i, x) :: lv) i = some x := by
  show (bif Nat.beq i i then some x else _) = _
  rw [Nat.beq_refl]; rfl
theorem mm_look_miss {i j : Nat} {x : Value} {lv : List (Nat × Value)} (h : i ≠ j) : mm_look ((i, x) :: lv) j = mm_look lv j := by
  show (bif Nat.beq i j then some x else _) = _
  have : Nat.beq i j = false := by
    cases hb : Nat.beq i j with
    | false => rfl
    | true => exact absurd (Nat.eq_of_beq_eq_true hb) h
  rw [this]; rfl
theorem mm_has_st1 {ad : Nat → Nat} {lv l0 : List (Nat × Value)} {i : Nat} {x : Value} (h1 : ∀ i v, mm_look lv i = some v → (i, mm_v ad v) ∈ l0) (hf : mm_free lv i = true) : ∀ j v, mm_look ((i, x) :: lv) j = some v → (j, mm_v ad v) ∈ (i, mm_v ad x) :: l0.filter (fun q => !(q.1 == i) && !(q.1 + 1 == i && q.2.category == 2)) := by
  intro j v hj
  by_cases e : i = j
  · subst e
    rw [mm_look_hit] at hj
    cases hj
    exact List.mem_cons_self
  · rw [mm_look_miss e] at hj
    refine List.mem_cons_of_mem _ (List.mem_filter.mpr ⟨h1 j v hj, ?_⟩)
    have e1 : (j == i) = false := by simpa using fun q : j = i => e q.symm
    by_cases e2 : j + 1 = i
    · subst e2
      have hf' : (match mm_look lv j with | some (.long _) => false | some (.double _) => false | _ => true) = true := hf
      rw [hj] at hf'
      have : (mm_v ad v).category = 1 := by
        rw [mm_v_cat]
        cases v <;> first | rfl | cases hf'
      simp [this]
    · have e3 : (j + 1 == i) = false := by simpa using e2
      simp [e1, e3]
def mm_subP (lv : List (Nat × Value)) : List (Nat × Value) → Prop
  | [] => True
  | q :: t => mm_look lv q.1 = some q.2 ∧ mm_subP lv t
theorem mm_subP_look {lv : List (Nat × Value)} : ∀ {l : List (Nat × Value)}, mm_subP lv l → ∀ i v, mm_look l i = some v → mm_look lv i = some v
  | [], _, _, _, h => by cases h
  | q :: t, hs, i, v, h => by
    by_cases e : q.1 = i
    · subst e
      have : mm_look (q :: t) q.1 = some q.2 := mm_look_hit
      rw [this] at h
      cases h
      exact hs.1
    · have e2 : mm_look (q :: t) i = mm_look t i := mm_look_miss e
      rw [e2] at h
      exact mm_subP_look hs.2 i v h
/-! strings: nothing is said of them here but what they are (part 05 reads them) -/
def mm_sR : List (String × Nat × String × Nat) := [("ForgottenCrafts$TownTeller", 48, "trade", 0), ("ForgottenCrafts$TownTeller", 117, "plain", 1), ("ForgottenCrafts$TownTeller", 119, "back", 2), ("ForgottenCrafts$TownTeller", 121, "half", 3), ("ForgottenCrafts$TownTeller", 123, "forbidden", 4), ("ForgottenCrafts$TownTeller", 116, "needs", 5), ("ForgottenCrafts$TownTeller", 60, "person", 6), ("ForgottenCrafts$TownTeller", 65, "likes", 7), ("ForgottenCrafts$Rules", 56, "holds", 8), ("ForgottenCrafts$Rules", 65, "witnesses", 9), ("ForgottenCrafts$Rules", 66, "fades", 10), ("ForgottenCrafts$Rules", 67, "rusts", 11), ("ForgottenCrafts$Rules", 68, "dies", 12), ("ForgottenCrafts$Rules", 69, "lent", 13)]
def mm_sL : List Nat := [5, 5, 4, 4, 9, 5, 6, 5, 5, 9, 5, 5, 4, 4]
def mm_sB : List (List Int32) := [[116, 114, 97, 100, 101], [112, 108, 97, 105, 110], [98, 97, 99, 107], [104, 97, 108, 102], [102, 111, 114, 98, 105, 100, 100, 101, 110], [110, 101, 101, 100, 115], [112, 101, 114, 115, 111, 110], [108, 105, 107, 101, 115], [104, 111, 108, 100, 115], [119, 105, 116, 110, 101, 115, 115, 101, 115], [102, 97, 100, 101, 115], [114, 117, 115, 116, 115], [100, 105, 101, 115], [108, 101, 110, 116]]
def mm_T (ad : Nat → Nat) (A : Nat → Prop) (U : State) (H : Heap) : Prop :=
  (vk_S 14 mm_sL mm_sB (fun i => ad (1000000 + i)) (fun i => ad (2000000 + i)) A U H) ∧ (∀ q ∈ mm_sR, vk_R q.1 q.2.1 q.2.2.1 (ad (1000000 + q.2.2.2)) U) ∧ va_Z "java/lang/String" "COMPACT_STRINGS" "Z" (.int 1) A U H ∧ (va_Z "jdk/internal/util/Preconditions" "SIOOBE_FORMATTER" "Ljava/util/function/BiFunction;" .null A U H ∨ va_Z "jdk/internal/util/Preconditions" "SIOOBE_FORMATTER" "Ljava/util/function/BiFunction;" (.ref (ad 3000000)) A U H)
/-! methods, states, ends -/
abbrev mm_M : Type := String × MethodName × ByteArray × Nat × Option FieldType × Nat
def mm_own (M : mm_M) : String := M.1
def mm_y (M : mm_M) : MethodName := M.2.1
def mm_cc (M : mm_M) : ByteArray := M.2.2.1
def mm_nL (M : mm_M) : Nat := M.2.2.2.1
def mm_ret (M : mm_M) : Option FieldType := M.2.2.2.2.1
def mm_rk (M : mm_M) : Nat := M.2.2.2.2.2
def mm_rm (d : Nat) : Room := { frames := d, cells := 0, slots := 0, locals := 40 * d }
def mm_ws (M : mm_M) : List Cond := Cond.code (mm_y M) (mm_cc M) (mm_nL M) (mm_ret M) :: mm_GW
abbrev mm_ty (cA : Nat → ClassId) : List (ClassId × FieldType) := [(cA 0, .int), (cA 1, .boolean)]
def mm_X (M : mm_M) (S : mm_Sh) (D : va_G) (cA : Nat → ClassId) (ad : Nat → Nat) (p : Program) (s : State) (m : MethodId) (args : Array Value) (meth : Method) (c : Code) : Prop :=
  p.tables.exec = Jvm.exec ∧ c.code = mm_cc M ∧ c.maxLocals = mm_nL M ∧ s.vm.findClass (mm_own M) = some m.cls ∧ (∀ w ∈ mm_GW, w.before args s = true) ∧ (∀ w ∈ mm_NW, va_Nw w s) ∧ va_K D vwCl (mm_ty cA) s ∧ mm_inj ad S ∧ mm_T ad (mm_A ad S) s s.heap ∧ meth.sig.returnType = mm_ret M ∧ meth.locks = false
abbrev mm_E : Type := List Frame → Array Value → State → va_G → (Nat → ClassId) → (Nat → Nat) → State → Prop
def mm_W (l : Launch) (M : mm_M) (R : Room) (cs ss : Nat) (S : mm_Sh) (E : mm_E) (pc : Nat) (lv : List (Nat × Value)) (stk : List Value) (I : mm_I) (J : mm_J) : Prop :=
  ∀ (p : Program) (e : Env) (s : State) (m : MethodId) (args : Array Value) (below : List Frame) (meth : Method) (c : Code) (D : va_G) (cA : Nat → ClassId) (ad : Nat → Nat) (H : Heap) (locs : List Loc) (ls : Array Slot),
    mm_X M S D cA ad p s m args meth c → va_P D vwCl (mm_w cA ad S I J) H → va_S (mm_A ad S) s.heap H locs → mm_has ls (mm_nL M) ad lv → W p l e R s m args below meth c H locs cs ss (E below args s D cA ad) (F0 m pc ls (stk.map (mm_v ad)))
abbrev mm_QQ : Type := Option Value → mm_I → mm_J → Prop
def mm_Qc (D : va_G) (cA : Nat → ClassId) (ad : Nat → Nat) (S : mm_Sh) (Q : mm_QQ) : Array Value → State → Outcome → State → Prop := fun _ st o t => (∃ r I' J', o = .returned (r.map (mm_v ad)) ∧ Q r I' J' ∧ va_P D vwCl (mm_w cA ad S I' J') t.heap) ∧ va_F (mm_A ad S) st t
def mm_B (D : va_G) (cA : Nat → ClassId) (ad : Nat → Nat) (S : mm_Sh) (I : mm_I) (J : mm_J) (U : State) : Prop :=
  va_P D vwCl (mm_w cA ad S I J) U.heap ∧ va_K D vwCl (mm_ty cA) U ∧ mm_inj ad S ∧ (∀ w ∈ mm_NW, va_Nw w U) ∧ mm_T ad (mm_A ad S) U U.heap
/-- a method's contract: from these numbers, with these arguments, it ends, and Q -/
def mm_C (l : Launch) (M : mm_M) (S : mm_Sh) (av : List Value) (I : mm_I) (J : mm_J) (Q : mm_QQ) : Prop :=
  ∀ (D : va_G) (cA : Nat → ClassId) (ad : Nat → Nat), Met l (mm_y M) (mm_ws M) (mm_rm (mm_rk M)) (va_Pc (av.map (mm_v ad)) (mm_B D cA ad S I J)) (mm_Qc D cA ad S Q) 0 0 (mm_A ad S)
def mm_end (S : mm_Sh) (Q : mm_QQ) : mm_E := fun below args s D cA ad => MQ below (mm_Qc D cA ad S Q) args s 0 0 (mm_A ad S)
