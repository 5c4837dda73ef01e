/-! ===== part 09: what each method does, as a function: written by wip/whole/gen.py ===== -/
/-! ForgottenCrafts$Crafts.hasPerson(I)Z -/
def f0_hasPerson_17 (S : mm_Sh) (s0 : Int32) (I : mm_I) (J : mm_J) : Option (Int32) :=
  if mm_bit s0 = true then some s0 else none
def f0_hasPerson_16 (S : mm_Sh)  (I : mm_I) (J : mm_J) : Option (Int32) :=
  f0_hasPerson_17 S 0 I J
def f0_hasPerson (S : mm_Sh) (v0 : Nat) (v1 : Int32) (I : mm_I) (J : mm_J) : Option (Int32) :=
  if v1 < 0 then (f0_hasPerson_16 S I J) else (if (I v0 6) ≤ v1 then (f0_hasPerson_16 S I J) else (f0_hasPerson_17 S 1 I J))
/-! ForgottenCrafts$Crafts.hasTrade(I)Z -/
def f0_hasTrade_17 (S : mm_Sh) (s0 : Int32) (I : mm_I) (J : mm_J) : Option (Int32) :=
  if mm_bit s0 = true then some s0 else none
def f0_hasTrade_16 (S : mm_Sh)  (I : mm_I) (J : mm_J) : Option (Int32) :=
  f0_hasTrade_17 S 0 I J
def f0_hasTrade (S : mm_Sh) (v0 : Nat) (v1 : Int32) (I : mm_I) (J : mm_J) : Option (Int32) :=
  if v1 < 0 then (f0_hasTrade_16 S I J) else (if (I v0 5) ≤ v1 then (f0_hasTrade_16 S I J) else (f0_hasTrade_17 S 1 I J))
/-! ForgottenCrafts.cell(II)I -/
def f10_cell_40 (S : mm_Sh) (s0 : Int32) (I : mm_I) (J : mm_J) : Option (Int32) :=
  some s0
def f10_cell_25 (S : mm_Sh) (v0 : Int32) (v1 : Int32) (s0 : Int32) (I : mm_I) (J : mm_J) : Option (Int32) :=
  if s0 = 0 then (f10_cell_40 S (-1) I J) else (f10_cell_40 S ((v0 * 6) + v1) I J)
def f10_cell_24 (S : mm_Sh) (v0 : Int32) (v1 : Int32) (I : mm_I) (J : mm_J) : Option (Int32) :=
  f10_cell_25 S v0 v1 0 I J
def f10_cell (S : mm_Sh) (v0 : Int32) (v1 : Int32) (I : mm_I) (J : mm_J) : Option (Int32) :=
  if v0 < 0 then (f10_cell_24 S v0 v1 I J) else (if 8 ≤ v0 then (f10_cell_24 S v0 v1 I J) else (if v1 < 0 then (f10_cell_24 S v0 v1 I J) else (if 6 ≤ v1 then (f10_cell_24 S v0 v1 I J) else (f10_cell_25 S v0 v1 1 I J))))
/-! ForgottenCrafts.fault()I -/
def f10_fault (S : mm_Sh) (v0 : Nat) (I : mm_I) (J : mm_J) : Option (Int32) :=
  some (I (mm_rf S v0 0) 6)
/-! ForgottenCrafts.has(II)Z -/
def f10_has_23 (S : mm_Sh) (s0 : Int32) (I : mm_I) (J : mm_J) : Option (Int32) :=
  if mm_bit s0 = true then some s0 else none
def f10_has_22 (S : mm_Sh)  (I : mm_I) (J : mm_J) : Option (Int32) :=
  f10_has_23 S 0 I J
def f10_has (S : mm_Sh) (v0 : Int32) (v1 : Int32) (I : mm_I) (J : mm_J) : Option (Int32) :=
  if v1 < 0 then (f10_has_22 S I J) else (if 32 ≤ v1 then (f10_has_22 S I J) else (if (((v0.toUInt32 >>> (v1.toUInt32 &&& Int32.toUInt32 31)).toInt32) &&& 1) = 0 then (f10_has_22 S I J) else (f10_has_23 S 1 I J)))
/-! ForgottenCrafts.image(I)LForgottenCrafts$Folk; -/
def f10_image_15 (S : mm_Sh) (s0 : Nat) (I : mm_I) (J : mm_J) : Option (Nat) :=
  some s0
def f10_image (S : mm_Sh) (v0 : Nat) (v1 : Int32) (I : mm_I) (J : mm_J) : Option (Nat) :=
  if v1 = 0 then (f10_image_15 S (mm_rf S v0 10) I J) else (f10_image_15 S (mm_rf S v0 11) I J)
/-! ForgottenCrafts.seed(I)I -/
def f10_seed (S : mm_Sh) (v0 : Nat) (v1 : Int32) (I : mm_I) (J : mm_J) : Option (Int32 × mm_I × mm_J) :=
  if 0 ≤ v1 then (some (I (mm_rf S v0 6) 12, mm_up I (mm_rf S v0 6) 12 v1, J)) else (some ((-1000000002), I, J))
/-! ForgottenCrafts.within(III)Z -/
def f10_within_15 (S : mm_Sh) (s0 : Int32) (I : mm_I) (J : mm_J) : Option (Int32) :=
  if mm_bit s0 = true then some s0 else none
def f10_within_14 (S : mm_Sh)  (I : mm_I) (J : mm_J) : Option (Int32) :=
  f10_within_15 S 0 I J
def f10_within (S : mm_Sh) (v0 : Int32) (v1 : Int32) (v2 : Int32) (I : mm_I) (J : mm_J) : Option (Int32) :=
  if v0 < v1 then (f10_within_14 S I J) else (if v2 < v0 then (f10_within_14 S I J) else (f10_within_15 S 1 I J))
/-! ForgottenCraftsModel.bits(I)I -/
def f11_bits_4_b (S : mm_Sh) (n : Nat) (rec4 : Int32 → Int32 → Int32 → mm_I → mm_J → Option (Int32)) (v0 : Int32) (v1 : Int32) (v2 : Int32) (I : mm_I) (J : mm_J) : Option (Int32) :=
  if 8 ≤ v2 then (some v1) else (rec4 v0 (v1 + ((v0 >>> (v2 &&& 31)) &&& 1)) (v2 + 1) I J)
def f11_bits_4 (S : mm_Sh) (n : Nat) : Nat → Int32 → Int32 → Int32 → mm_I → mm_J → Option (Int32)
  | 0 => fun _ _ _ _ _ => none
  | k + 1 => f11_bits_4_b S n (f11_bits_4 S n k)
def f11_bits (S : mm_Sh) (n : Nat) (v0 : Int32) (I : mm_I) (J : mm_J) : Option (Int32) :=
  f11_bits_4 S n n v0 0 0 I J
/-! ForgottenCraftsModel.code(IIII)J -/
def f11_code (S : mm_Sh) (v0 : Int32) (v1 : Int32) (v2 : Int32) (v3 : Int32) (I : mm_I) (J : mm_J) : Option (Int64) :=
  some (((27 * (((27 * (((27 * (v0.toInt64 - 96)) + v1.toInt64) - 96)) + v2.toInt64) - 96)) + v3.toInt64) - 96)
/-! ForgottenCraftsModel.die(I)V -/
def f11_die_9_b (S : mm_Sh) (n : Nat) (rec9 : Nat → Int32 → Int32 → mm_I → mm_J → Option (mm_I × mm_J)) (v0 : Nat) (v1 : Int32) (v2 : Int32) (I : mm_I) (J : mm_J) : Option (mm_I × mm_J) :=
  if 6 ≤ v2 then (if mm_inb v1 (mm_al S (mm_rf S v0 17)) = true then (if mm_inb v1 (mm_al S (mm_rf S v0 19)) = true then (if mm_inb v1 (mm_al S (mm_rf S v0 16)) = true then (some (mm_up (mm_up (mm_up I (mm_rf S v0 17) v1.toNatClampNeg (-1)) (mm_rf S v0 19) v1.toNatClampNeg (-1)) (mm_rf S v0 16) v1.toNatClampNeg (-1), J)) else none) else none) else none) else (if mm_inb ((6 * v1) + v2) (mm_al S (mm_rf S v0 14)) = true then (if mm_inb ((6 * v1) + v2) (mm_al S (mm_rf S v0 15)) = true then (rec9 v0 v1 (v2 + 1) (mm_up (mm_up I (mm_rf S v0 14) ((6 * v1) + v2).toNatClampNeg 0) (mm_rf S v0 15) ((6 * v1) + v2).toNatClampNeg (-1)) J) else none) else none)
def f11_die_9 (S : mm_Sh) (n : Nat) : Nat → Nat → Int32 → Int32 → mm_I → mm_J → Option (mm_I × mm_J)
  | 0 => fun _ _ _ _ _ => none
  | k + 1 => f11_die_9_b S n (f11_die_9 S n k)
def f11_die (S : mm_Sh) (n : Nat) (v0 : Nat) (v1 : Int32) (I : mm_I) (J : mm_J) : Option (mm_I × mm_J) :=
  if mm_inb v1 (mm_al S (mm_rf S v0 13)) = true then (f11_die_9 S n n v0 v1 0 (mm_up I (mm_rf S v0 13) v1.toNatClampNeg 0) J) else none
/-! ForgottenCraftsModel.draw(I)I -/
def f11_draw (S : mm_Sh) (v0 : Nat) (v1 : Int32) (I : mm_I) (J : mm_J) : Option (Int32 × mm_I × mm_J) :=
  if v1 = 0 then none else (some ((((mm_up I v0 24 ((((((I v0 24).toInt64) * 1103515245) + 12345) - ((((I v0 24).toInt64) * 1103515245) + 12345) / 2147483648 * 2147483648).toInt32)) v0 24) / 65536) - (((mm_up I v0 24 ((((((I v0 24).toInt64) * 1103515245) + 12345) - ((((I v0 24).toInt64) * 1103515245) + 12345) / 2147483648 * 2147483648).toInt32)) v0 24) / 65536) / v1 * v1, mm_up I v0 24 ((((((I v0 24).toInt64) * 1103515245) + 12345) - ((((I v0 24).toInt64) * 1103515245) + 12345) / 2147483648 * 2147483648).toInt32), J))
/-! ForgottenCraftsModel.fails(II)I -/
def f11_fails (S : mm_Sh) (v0 : Nat) (v1 : Int32) (v2 : Int32) (I : mm_I) (J : mm_J) : Option (Int32 × mm_I × mm_J) :=
  some (v1, mm_up I v0 28 v2, J)
/-! ForgottenCraftsModel.fault()I -/
def f11_fault (S : mm_Sh) (v0 : Nat) (I : mm_I) (J : mm_J) : Option (Int32) :=
  some (I v0 28)
/-! ForgottenCraftsModel.forgetOn(II)V -/
def f11_forgetOn_108 (S : mm_Sh)  (I : mm_I) (J : mm_J) : Option (mm_I × mm_J) :=
  some (I, J)
def f11_forgetOn_68 (S : mm_Sh) (v0 : Nat) (v1 : Int32) (v3 : Int32) (v5 : Int32) (I : mm_I) (J : mm_J) : Option (mm_I × mm_J) :=
  if 0 < v5 then (if mm_inb v3 (mm_al S (mm_rf S v0 14)) = true then (f11_forgetOn_108 S (mm_up I (mm_rf S v0 14) v3.toNatClampNeg v5) J) else none) else (if mm_inb v3 (mm_al S (mm_rf S v0 14)) = true then (if mm_inb v1 (mm_al S (mm_rf S v0 19)) = true then (if mm_inb v3 (mm_al S (mm_rf S v0 15)) = true then (f11_forgetOn_108 S (mm_up (mm_up (mm_up I (mm_rf S v0 14) v3.toNatClampNeg 0) (mm_rf S v0 19) v1.toNatClampNeg (-1)) (mm_rf S v0 15) v3.toNatClampNeg ((mm_up (mm_up I (mm_rf S v0 14) v3.toNatClampNeg 0) (mm_rf S v0 19) v1.toNatClampNeg (-1)) v0 23)) J) else none) else none) else none)
def f11_forgetOn (S : mm_Sh) (v0 : Nat) (v1 : Int32) (v2 : Int32) (I : mm_I) (J : mm_J) : Option (mm_I × mm_J) :=
  if mm_inb ((6 * v1) + v2) (mm_al S (mm_rf S v0 14)) = true then (if mm_inb (4 * v2) (mm_al S (mm_rf S v0 1)) = true then (if (I (mm_rf S v0 1) (4 * v2).toNatClampNeg) = 2 then (if (I (mm_rf S v0 14) ((6 * v1) + v2).toNatClampNeg) < 50 then (f11_forgetOn_68 S v0 v1 ((6 * v1) + v2) ((I (mm_rf S v0 14) ((6 * v1) + v2).toNatClampNeg) - (I v0 8)) I J) else (if 50 < ((I (mm_rf S v0 14) ((6 * v1) + v2).toNatClampNeg) - (I v0 8)) then (f11_forgetOn_68 S v0 v1 ((6 * v1) + v2) ((I (mm_rf S v0 14) ((6 * v1) + v2).toNatClampNeg) - (I v0 8)) I J) else (if mm_inb ((6 * v1) + v2) (mm_al S (mm_rf S v0 14)) = true then (if mm_inb v1 (mm_al S (mm_rf S v0 19)) = true then (f11_forgetOn_108 S (mm_up (mm_up I (mm_rf S v0 14) ((6 * v1) + v2).toNatClampNeg 50) (mm_rf S v0 19) v1.toNatClampNeg (-1)) J) else none) else none))) else (f11_forgetOn_68 S v0 v1 ((6 * v1) + v2) ((I (mm_rf S v0 14) ((6 * v1) + v2).toNatClampNeg) - (I v0 8)) I J)) else none) else none
/-! ForgottenCraftsModel.has(II)Z -/
def f11_has_14 (S : mm_Sh) (s0 : Int32) (I : mm_I) (J : mm_J) : Option (Int32) :=
  if mm_bit s0 = true then some s0 else none
def f11_has (S : mm_Sh) (v0 : Int32) (v1 : Int32) (I : mm_I) (J : mm_J) : Option (Int32) :=
  if ((v0 >>> (v1 &&& 31)) &&& 1) = 1 then (f11_has_14 S 1 I J) else (f11_has_14 S 0 I J)
/-! ForgottenCraftsModel.here()I -/
def f11_here_62 (S : mm_Sh) (n : Nat) (s0 : Int32) (I : mm_I) (J : mm_J) : Option (Int32 × mm_I × mm_J) :=
  some (s0, I, J)
def f11_here_38 (S : mm_Sh) (n : Nat) (v0 : Nat) (I : mm_I) (J : mm_J) : Option (Int32 × mm_I × mm_J) :=
  if (I v0 27) ≤ (I v0 29) then (f11_here_62 S n (-1) I J) else (if mm_inb (I v0 29) (mm_al S (mm_rf S v0 26)) = true then (f11_here_62 S n (I (mm_rf S v0 26) (I v0 29).toNatClampNeg) I J) else none)
def f11_here_0_b (S : mm_Sh) (n : Nat) (rec0 : Nat → mm_I → mm_J → Option (Int32 × mm_I × mm_J)) (v0 : Nat) (I : mm_I) (J : mm_J) : Option (Int32 × mm_I × mm_J) :=
  if (I v0 27) ≤ (I v0 29) then (f11_here_38 S n v0 I J) else (if mm_inb (I v0 29) (mm_al S (mm_rf S v0 26)) = true then (if (I (mm_rf S v0 26) (I v0 29).toNatClampNeg) = 32 then (rec0 v0 (mm_up I v0 29 ((I v0 29) + 1)) J) else (f11_here_38 S n v0 I J)) else none)
def f11_here_0 (S : mm_Sh) (n : Nat) : Nat → Nat → mm_I → mm_J → Option (Int32 × mm_I × mm_J)
  | 0 => fun _ _ _ => none
  | k + 1 => f11_here_0_b S n (f11_here_0 S n k)
def f11_here (S : mm_Sh) (n : Nat) (v0 : Nat) (I : mm_I) (J : mm_J) : Option (Int32 × mm_I × mm_J) :=
  f11_here_0 S n n v0 I J
/-! ForgottenCraftsModel.in(JJJ)Z -/
def f11_in_18 (S : mm_Sh) (s0 : Int32) (I : mm_I) (J : mm_J) : Option (Int32) :=
  if mm_bit s0 = true then some s0 else none
def f11_in_17 (S : mm_Sh)  (I : mm_I) (J : mm_J) : Option (Int32) :=
  f11_in_18 S 0 I J
def f11_in (S : mm_Sh) (v0 : Int64) (v2 : Int64) (v4 : Int64) (I : mm_I) (J : mm_J) : Option (Int32) :=
  if (lg_cmp v0 v2) < 0 then (f11_in_17 S I J) else (if 0 < (lg_cmp v0 v4) then (f11_in_17 S I J) else (f11_in_18 S 1 I J))
/-! ForgottenCraftsModel.judge()I -/
def f11_judge_2_b (S : mm_Sh) (n : Nat) (rec2 : Nat → Int32 → mm_I → mm_J → Option (Int32)) (v0 : Nat) (v1 : Int32) (I : mm_I) (J : mm_J) : Option (Int32) :=
  if (I v0 51) ≤ v1 then (some (-1)) else (if mm_inb v1 (mm_al S (mm_rf S v0 52)) = true then (if mm_inb v1 (mm_al S (mm_rf S v0 53)) = true then (if mm_inb ((6 * (I (mm_rf S v0 52) v1.toNatClampNeg)) + (I (mm_rf S v0 53) v1.toNatClampNeg)) (mm_al S (mm_rf S v0 14)) = true then (if mm_inb v1 (mm_al S (mm_rf S v0 54)) = true then (if (I (mm_rf S v0 14) ((6 * (I (mm_rf S v0 52) v1.toNatClampNeg)) + (I (mm_rf S v0 53) v1.toNatClampNeg)).toNatClampNeg) = (I (mm_rf S v0 54) v1.toNatClampNeg) then (rec2 v0 (v1 + 1) I J) else (some v1)) else none) else none) else none) else none)
def f11_judge_2 (S : mm_Sh) (n : Nat) : Nat → Nat → Int32 → mm_I → mm_J → Option (Int32)
  | 0 => fun _ _ _ _ => none
  | k + 1 => f11_judge_2_b S n (f11_judge_2 S n k)
def f11_judge (S : mm_Sh) (n : Nat) (v0 : Nat) (I : mm_I) (J : mm_J) : Option (Int32) :=
  f11_judge_2 S n n v0 0 I J
/-! ForgottenCraftsModel.knowers(II)I -/
def f11_knowers_49 (S : mm_Sh) (n : Nat) (rec5 : Nat → Int32 → Int32 → Int32 → Int32 → mm_I → mm_J → Option (Int32)) (v0 : Nat) (v1 : Int32) (v2 : Int32) (v4 : Int32) (s0 : Int32) (s1 : Int32) (I : mm_I) (J : mm_J) : Option (Int32) :=
  rec5 v0 v1 v2 (s0 ||| s1) (v4 + 1) I J
def f11_knowers_48 (S : mm_Sh) (n : Nat) (rec5 : Nat → Int32 → Int32 → Int32 → Int32 → mm_I → mm_J → Option (Int32)) (v0 : Nat) (v1 : Int32) (v2 : Int32) (v4 : Int32) (s0 : Int32) (I : mm_I) (J : mm_J) : Option (Int32) :=
  f11_knowers_49 S n rec5 v0 v1 v2 v4 s0 0 I J
def f11_knowers_5_b (S : mm_Sh) (n : Nat) (rec5 : Nat → Int32 → Int32 → Int32 → Int32 → mm_I → mm_J → Option (Int32)) (v0 : Nat) (v1 : Int32) (v2 : Int32) (v3 : Int32) (v4 : Int32) (I : mm_I) (J : mm_J) : Option (Int32) :=
  if (I v0 2) ≤ v4 then (some v3) else (if mm_inb v4 (mm_al S (mm_rf S v0 13)) = true then (if (I (mm_rf S v0 13) v4.toNatClampNeg) = 0 then (f11_knowers_48 S n rec5 v0 v1 v2 v4 v3 I J) else (if mm_inb ((6 * v4) + v1) (mm_al S (mm_rf S v0 14)) = true then (if (I (mm_rf S v0 14) ((6 * v4) + v1).toNatClampNeg) < v2 then (f11_knowers_48 S n rec5 v0 v1 v2 v4 v3 I J) else (f11_knowers_49 S n rec5 v0 v1 v2 v4 v3 ((1 : Int32) <<< (v4 &&& 31)) I J)) else none)) else none)
def f11_knowers_5 (S : mm_Sh) (n : Nat) : Nat → Nat → Int32 → Int32 → Int32 → Int32 → mm_I → mm_J → Option (Int32)
  | 0 => fun _ _ _ _ _ _ _ => none
  | k + 1 => f11_knowers_5_b S n (f11_knowers_5 S n k)
def f11_knowers (S : mm_Sh) (n : Nat) (v0 : Nat) (v1 : Int32) (v2 : Int32) (I : mm_I) (J : mm_J) : Option (Int32) :=
  f11_knowers_5 S n n v0 v1 v2 0 0 I J
/-! ForgottenCraftsModel.knows(II)Z -/
def f11_knows_19 (S : mm_Sh) (s0 : Int32) (I : mm_I) (J : mm_J) : Option (Int32) :=
  if mm_bit s0 = true then some s0 else none
def f11_knows (S : mm_Sh) (v0 : Nat) (v1 : Int32) (v2 : Int32) (I : mm_I) (J : mm_J) : Option (Int32) :=
  if mm_inb ((6 * v1) + v2) (mm_al S (mm_rf S v0 14)) = true then (if (I (mm_rf S v0 14) ((6 * v1) + v2).toNatClampNeg) ≤ 0 then (f11_knows_19 S 0 I J) else (f11_knows_19 S 1 I J)) else none
/-! ForgottenCraftsModel.learnOn(II)V -/
def f11_learnOn_95 (S : mm_Sh) (s0 : Nat) (s1 : Int32) (s2 : Int32) (I : mm_I) (J : mm_J) : Option (mm_I × mm_J) :=
  if mm_inb s1 (mm_al S s0) = true then (some (mm_up I s0 s1.toNatClampNeg s2, J)) else none
def f11_learnOn_73 (S : mm_Sh) (v0 : Nat) (v1 : Int32) (v2 : Int32) (v3 : Int32) (s0 : Nat) (s1 : Int32) (s2 : Int32) (I : mm_I) (J : mm_J) : Option (mm_I × mm_J) :=
  if mm_inb s1 (mm_al S s0) = true then (if mm_inb v3 (mm_al S (mm_rf S v0 14)) = true then (if ((mm_up I s0 s1.toNatClampNeg s2) (mm_rf S v0 14) v3.toNatClampNeg) = 100 then (f11_learnOn_95 S (mm_rf S v0 17) v1 (-1) (mm_up I s0 s1.toNatClampNeg s2) J) else (f11_learnOn_95 S (mm_rf S v0 17) v1 v2 (mm_up I s0 s1.toNatClampNeg s2) J)) else none) else none
def f11_learnOn_66 (S : mm_Sh) (v0 : Nat) (v1 : Int32) (v2 : Int32) (v3 : Int32) (s0 : Nat) (s1 : Int32) (I : mm_I) (J : mm_J) : Option (mm_I × mm_J) :=
  f11_learnOn_73 S v0 v1 v2 v3 s0 s1 100 I J
def f11_learnOn (S : mm_Sh) (v0 : Nat) (v1 : Int32) (v2 : Int32) (I : mm_I) (J : mm_J) : Option (mm_I × mm_J) :=
  if mm_inb v1 (mm_al S (mm_rf S v0 18)) = true then (if mm_inb v1 (mm_al S (mm_rf S v0 18)) = true then (if mm_inb ((4 * v2) + 1) (mm_al S (mm_rf S v0 1)) = true then (if mm_inb ((6 * v1) + v2) (mm_al S (mm_rf S v0 14)) = true then (if ((mm_up I (mm_rf S v0 18) v1.toNatClampNeg ((I (mm_rf S v0 18) v1.toNatClampNeg) + 1)) (mm_rf S v0 1) ((4 * v2) + 1).toNatClampNeg) = 0 then none else (if mm_inb v1 (mm_al S (mm_rf S v0 18)) = true then (if ((mm_up I (mm_rf S v0 18) v1.toNatClampNeg ((I (mm_rf S v0 18) v1.toNatClampNeg) + 1)) (mm_rf S v0 1) ((4 * v2) + 1).toNatClampNeg) ≤ ((mm_up I (mm_rf S v0 18) v1.toNatClampNeg ((I (mm_rf S v0 18) v1.toNatClampNeg) + 1)) (mm_rf S v0 18) v1.toNatClampNeg) then (f11_learnOn_66 S v0 v1 v2 ((6 * v1) + v2) (mm_rf S v0 14) ((6 * v1) + v2) (mm_up I (mm_rf S v0 18) v1.toNatClampNeg ((I (mm_rf S v0 18) v1.toNatClampNeg) + 1)) J) else (if (((mm_up I (mm_rf S v0 18) v1.toNatClampNeg ((I (mm_rf S v0 18) v1.toNatClampNeg) + 1)) (mm_rf S v0 14) ((6 * v1) + v2).toNatClampNeg) + (100 / ((mm_up I (mm_rf S v0 18) v1.toNatClampNeg ((I (mm_rf S v0 18) v1.toNatClampNeg) + 1)) (mm_rf S v0 1) ((4 * v2) + 1).toNatClampNeg))) ≤ 100 then (f11_learnOn_73 S v0 v1 v2 ((6 * v1) + v2) (mm_rf S v0 14) ((6 * v1) + v2) (((mm_up I (mm_rf S v0 18) v1.toNatClampNeg ((I (mm_rf S v0 18) v1.toNatClampNeg) + 1)) (mm_rf S v0 14) ((6 * v1) + v2).toNatClampNeg) + (100 / ((mm_up I (mm_rf S v0 18) v1.toNatClampNeg ((I (mm_rf S v0 18) v1.toNatClampNeg) + 1)) (mm_rf S v0 1) ((4 * v2) + 1).toNatClampNeg))) (mm_up I (mm_rf S v0 18) v1.toNatClampNeg ((I (mm_rf S v0 18) v1.toNatClampNeg) + 1)) J) else (f11_learnOn_66 S v0 v1 v2 ((6 * v1) + v2) (mm_rf S v0 14) ((6 * v1) + v2) (mm_up I (mm_rf S v0 18) v1.toNatClampNeg ((I (mm_rf S v0 18) v1.toNatClampNeg) + 1)) J))) else none)) else none) else none) else none) else none
/-! ForgottenCraftsModel.livesSet()I -/
def f11_livesSet_29 (S : mm_Sh) (n : Nat) (rec4 : Nat → Int32 → Int32 → mm_I → mm_J → Option (Int32)) (v0 : Nat) (v2 : Int32) (s0 : Int32) (s1 : Int32) (I : mm_I) (J : mm_J) : Option (Int32) :=
  rec4 v0 (s0 ||| s1) (v2 + 1) I J
def f11_livesSet_4_b (S : mm_Sh) (n : Nat) (rec4 : Nat → Int32 → Int32 → mm_I → mm_J → Option (Int32)) (v0 : Nat) (v1 : Int32) (v2 : Int32) (I : mm_I) (J : mm_J) : Option (Int32) :=
  if (I v0 2) ≤ v2 then (some v1) else (if mm_inb v2 (mm_al S (mm_rf S v0 13)) = true then (if (I (mm_rf S v0 13) v2.toNatClampNeg) = 0 then (f11_livesSet_29 S n rec4 v0 v2 v1 0 I J) else (f11_livesSet_29 S n rec4 v0 v2 v1 ((1 : Int32) <<< (v2 &&& 31)) I J)) else none)
def f11_livesSet_4 (S : mm_Sh) (n : Nat) : Nat → Nat → Int32 → Int32 → mm_I → mm_J → Option (Int32)
  | 0 => fun _ _ _ _ _ => none
  | k + 1 => f11_livesSet_4_b S n (f11_livesSet_4 S n k)
def f11_livesSet (S : mm_Sh) (n : Nat) (v0 : Nat) (I : mm_I) (J : mm_J) : Option (Int32) :=
  f11_livesSet_4 S n n v0 0 0 I J
/-! ForgottenCraftsModel.load(I)V -/
def f11_load_243 (S : mm_Sh) (n : Nat) (rec53 : Nat → Int32 → Int32 → mm_I → mm_J → Option (mm_I × mm_J)) (v0 : Nat) (v2 : Int32) (v3 : Int32) (s0 : Nat) (s1 : Int32) (s2 : Int32) (I : mm_I) (J : mm_J) : Option (mm_I × mm_J) :=
  if mm_inb s1 (mm_al S s0) = true then (if mm_bit s2 = true then (rec53 v0 v2 (v3 + 1) (mm_up I s0 s1.toNatClampNeg s2) J) else none) else none
def f11_load_216 (S : mm_Sh) (n : Nat) (rec53 : Nat → Int32 → Int32 → mm_I → mm_J → Option (mm_I × mm_J)) (v0 : Nat) (v2 : Int32) (v3 : Int32) (s0 : Nat) (s1 : Int32) (s2 : Int32) (I : mm_I) (J : mm_J) : Option (mm_I × mm_J) :=
  if mm_inb s1 (mm_al S s0) = true then (if mm_bit s2 = true then (if mm_inb ((v2 + 160) + v3) (mm_al S (mm_rf S v0 55)) = true then (if ((mm_up I s0 s1.toNatClampNeg s2) (mm_rf S v0 55) ((v2 + 160) + v3).toNatClampNeg) = 1 then (f11_load_243 S n rec53 v0 v2 v3 (mm_rf S v0 22) v3 1 (mm_up I s0 s1.toNatClampNeg s2) J) else (f11_load_243 S n rec53 v0 v2 v3 (mm_rf S v0 22) v3 0 (mm_up I s0 s1.toNatClampNeg s2) J)) else none) else none) else none
def f11_load_101 (S : mm_Sh) (n : Nat) (rec53 : Nat → Int32 → Int32 → mm_I → mm_J → Option (mm_I × mm_J)) (v0 : Nat) (v2 : Int32) (v3 : Int32) (s0 : Nat) (s1 : Int32) (s2 : Int32) (I : mm_I) (J : mm_J) : Option (mm_I × mm_J) :=
  if mm_inb s1 (mm_al S s0) = true then (if mm_bit s2 = true then (if mm_inb ((v2 + 112) + v3) (mm_al S (mm_rf S v0 55)) = true then (if mm_inb v3 (mm_al S (mm_rf S v0 16)) = true then (if mm_inb ((v2 + 120) + v3) (mm_al S (mm_rf S v0 55)) = true then (if mm_inb v3 (mm_al S (mm_rf S v0 17)) = true then (if mm_inb ((v2 + 128) + v3) (mm_al S (mm_rf S v0 55)) = true then (if mm_inb v3 (mm_al S (mm_rf S v0 18)) = true then (if mm_inb ((v2 + 136) + v3) (mm_al S (mm_rf S v0 55)) = true then (if mm_inb v3 (mm_al S (mm_rf S v0 19)) = true then (if mm_inb ((v2 + 144) + v3) (mm_al S (mm_rf S v0 55)) = true then (if mm_inb v3 (mm_al S (mm_rf S v0 20)) = true then (if mm_inb ((v2 + 152) + v3) (mm_al S (mm_rf S v0 55)) = true then (if ((mm_up (mm_up (mm_up (mm_up (mm_up (mm_up I s0 s1.toNatClampNeg s2) (mm_rf S v0 16) v3.toNatClampNeg ((mm_up I s0 s1.toNatClampNeg s2) (mm_rf S v0 55) ((v2 + 112) + v3).toNatClampNeg)) (mm_rf S v0 17) v3.toNatClampNeg ((mm_up (mm_up I s0 s1.toNatClampNeg s2) (mm_rf S v0 16) v3.toNatClampNeg ((mm_up I s0 s1.toNatClampNeg s2) (mm_rf S v0 55) ((v2 + 112) + v3).toNatClampNeg)) (mm_rf S v0 55) ((v2 + 120) + v3).toNatClampNeg)) (mm_rf S v0 18) v3.toNatClampNeg ((mm_up (mm_up (mm_up I s0 s1.toNatClampNeg s2) (mm_rf S v0 16) v3.toNatClampNeg ((mm_up I s0 s1.toNatClampNeg s2) (mm_rf S v0 55) ((v2 + 112) + v3).toNatClampNeg)) (mm_rf S v0 17) v3.toNatClampNeg ((mm_up (mm_up I s0 s1.toNatClampNeg s2) (mm_rf S v0 16) v3.toNatClampNeg ((mm_up I s0 s1.toNatClampNeg s2) (mm_rf S v0 55) ((v2 + 112) + v3).toNatClampNeg)) (mm_rf S v0 55) ((v2 + 120) + v3).toNatClampNeg)) (mm_rf S v0 55) ((v2 + 128) + v3).toNatClampNeg)) (mm_rf S v0 19) v3.toNatClampNeg ((mm_up (mm_up (mm_up (mm_up I s0 s1.toNatClampNeg s2) (mm_rf S v0 16) v3.toNatClampNeg ((mm_up I s0 s1.toNatClampNeg s2) (mm_rf S v0 55) ((v2 + 112) + v3).toNatClampNeg)) (mm_rf S v0 17) v3.toNatClampNeg ((mm_up (mm_up I s0 s1.toNatClampNeg s2) (mm_rf S v0 16) v3.toNatClampNeg ((mm_up I s0 s1.toNatClampNeg s2) (mm_rf S v0 55) ((v2 + 112) + v3).toNatClampNeg)) (mm_rf S v0 55) ((v2 + 120) + v3).toNatClampNeg)) (mm_rf S v0 18) v3.toNatClampNeg ((mm_up (mm_up (mm_up I s0 s1.toNatClampNeg s2) (mm_rf S v0 16) v3.toNatClampNeg ((mm_up I s0 s1.toNatClampNeg s2) (mm_rf S v0 55) ((v2 + 112) + v3).toNatClampNeg)) (mm_rf S v0 17) v3.toNatClampNeg ((mm_up (mm_up I s0 s1.toNatClampNeg s2) (mm_rf S v0 16) v3.toNatClampNeg ((mm_up I s0 s1.toNatClampNeg s2) (mm_rf S v0 55) ((v2 + 112) + v3).toNatClampNeg)) (mm_rf S v0 55) ((v2 + 120) + v3).toNatClampNeg)) (mm_rf S v0 55) ((v2 + 128) + v3).toNatClampNeg)) (mm_rf S v0 55) ((v2 + 136) + v3).toNatClampNeg)) (mm_rf S v0 20) v3.toNatClampNeg ((mm_up (mm_up (mm_up (mm_up (mm_up I s0 s1.toNatClampNeg s2) (mm_rf S v0 16) v3.toNatClampNeg ((mm_up I s0 s1.toNatClampNeg s2) (mm_rf S v0 55) ((v2 + 112) + v3).toNatClampNeg)) (mm_rf S v0 17) v3.toNatClampNeg ((mm_up (mm_up I s0 s1.toNatClampNeg s2) (mm_rf S v0 16) v3.toNatClampNeg ((mm_up I s0 s1.toNatClampNeg s2) (mm_rf S v0 55) ((v2 + 112) + v3).toNatClampNeg)) (mm_rf S v0 55) ((v2 + 120) + v3).toNatClampNeg)) (mm_rf S v0 18) v3.toNatClampNeg ((mm_up (mm_up (mm_up I s0 s1.toNatClampNeg s2) (mm_rf S v0 16) v3.toNatClampNeg ((mm_up I s0 s1.toNatClampNeg s2) (mm_rf S v0 55) ((v2 + 112) + v3).toNatClampNeg)) (mm_rf S v0 17) v3.toNatClampNeg ((mm_up (mm_up I s0 s1.toNatClampNeg s2) (mm_rf S v0 16) v3.toNatClampNeg ((mm_up I s0 s1.toNatClampNeg s2) (mm_rf S v0 55) ((v2 + 112) + v3).toNatClampNeg)) (mm_rf S v0 55) ((v2 + 120) + v3).toNatClampNeg)) (mm_rf S v0 55) ((v2 + 128) + v3).toNatClampNeg)) (mm_rf S v0 19) v3.toNatClampNeg ((mm_up (mm_up (mm_up (mm_up I s0 s1.toNatClampNeg s2) (mm_rf S v0 16) v3.toNatClampNeg ((mm_up I s0 s1.toNatClampNeg s2) (mm_rf S v0 55) ((v2 + 112) + v3).toNatClampNeg)) (mm_rf S v0 17) v3.toNatClampNeg ((mm_up (mm_up I s0 s1.toNatClampNeg s2) (mm_rf S v0 16) v3.toNatClampNeg ((mm_up I s0 s1.toNatClampNeg s2) (mm_rf S v0 55) ((v2 + 112) + v3).toNatClampNeg)) (mm_rf S v0 55) ((v2 + 120) + v3).toNatClampNeg)) (mm_rf S v0 18) v3.toNatClampNeg ((mm_up (mm_up (mm_up I s0 s1.toNatClampNeg s2) (mm_rf S v0 16) v3.toNatClampNeg ((mm_up I s0 s1.toNatClampNeg s2) (mm_rf S v0 55) ((v2 + 112) + v3).toNatClampNeg)) (mm_rf S v0 17) v3.toNatClampNeg ((mm_up (mm_up I s0 s1.toNatClampNeg s2) (mm_rf S v0 16) v3.toNatClampNeg ((mm_up I s0 s1.toNatClampNeg s2) (mm_rf S v0 55) ((v2 + 112) + v3).toNatClampNeg)) (mm_rf S v0 55) ((v2 + 120) + v3).toNatClampNeg)) (mm_rf S v0 55) ((v2 + 128) + v3).toNatClampNeg)) (mm_rf S v0 55) ((v2 + 136) + v3).toNatClampNeg)) (mm_rf S v0 55) ((v2 + 144) + v3).toNatClampNeg)) (mm_rf S v0 55) ((v2 + 152) + v3).toNatClampNeg) = 1 then (f11_load_216 S n rec53 v0 v2 v3 (mm_rf S v0 21) v3 1 (mm_up (mm_up (mm_up (mm_up (mm_up (mm_up I s0 s1.toNatClampNeg s2) (mm_rf S v0 16) v3.toNatClampNeg ((mm_up I s0 s1.toNatClampNeg s2) (mm_rf S v0 55) ((v2 + 112) + v3).toNatClampNeg)) (mm_rf S v0 17) v3.toNatClampNeg ((mm_up (mm_up I s0 s1.toNatClampNeg s2) (mm_rf S v0 16) v3.toNatClampNeg ((mm_up I s0 s1.toNatClampNeg s2) (mm_rf S v0 55) ((v2 + 112) + v3).toNatClampNeg)) (mm_rf S v0 55) ((v2 + 120) + v3).toNatClampNeg)) (mm_rf S v0 18) v3.toNatClampNeg ((mm_up (mm_up (mm_up I s0 s1.toNatClampNeg s2) (mm_rf S v0 16) v3.toNatClampNeg ((mm_up I s0 s1.toNatClampNeg s2) (mm_rf S v0 55) ((v2 + 112) + v3).toNatClampNeg)) (mm_rf S v0 17) v3.toNatClampNeg ((mm_up (mm_up I s0 s1.toNatClampNeg s2) (mm_rf S v0 16) v3.toNatClampNeg ((mm_up I s0 s1.toNatClampNeg s2) (mm_rf S v0 55) ((v2 + 112) + v3).toNatClampNeg)) (mm_rf S v0 55) ((v2 + 120) + v3).toNatClampNeg)) (mm_rf S v0 55) ((v2 + 128) + v3).toNatClampNeg)) (mm_rf S v0 19) v3.toNatClampNeg ((mm_up (mm_up (mm_up (mm_up I s0 s1.toNatClampNeg s2) (mm_rf S v0 16) v3.toNatClampNeg ((mm_up I s0 s1.toNatClampNeg s2) (mm_rf S v0 55) ((v2 + 112) + v3).toNatClampNeg)) (mm_rf S v0 17) v3.toNatClampNeg ((mm_up (mm_up I s0 s1.toNatClampNeg s2) (mm_rf S v0 16) v3.toNatClampNeg ((mm_up I s0 s1.toNatClampNeg s2) (mm_rf S v0 55) ((v2 + 112) + v3).toNatClampNeg)) (mm_rf S v0 55) ((v2 + 120) + v3).toNatClampNeg)) (mm_rf S v0 18) v3.toNatClampNeg ((mm_up (mm_up (mm_up I s0 s1.toNatClampNeg s2) (mm_rf S v0 16) v3.toNatClampNeg ((mm_up I s0 s1.toNatClampNeg s2) (mm_rf S v0 55) ((v2 + 112) + v3).toNatClampNeg)) (mm_rf S v0 17) v3.toNatClampNeg ((mm_up (mm_up I s0 s1.toNatClampNeg s2) (mm_rf S v0 16) v3.toNatClampNeg ((mm_up I s0 s1.toNatClampNeg s2) (mm_rf S v0 55) ((v2 + 112) + v3).toNatClampNeg)) (mm_rf S v0 55) ((v2 + 120) + v3).toNatClampNeg)) (mm_rf S v0 55) ((v2 + 128) + v3).toNatClampNeg)) (mm_rf S v0 55) ((v2 + 136) + v3).toNatClampNeg)) (mm_rf S v0 20) v3.toNatClampNeg ((mm_up (mm_up (mm_up (mm_up (mm_up I s0 s1.toNatClampNeg s2) (mm_rf S v0 16) v3.toNatClampNeg ((mm_up I s0 s1.toNatClampNeg s2) (mm_rf S v0 55) ((v2 + 112) + v3).toNatClampNeg)) (mm_rf S v0 17) v3.toNatClampNeg ((mm_up (mm_up I s0 s1.toNatClampNeg s2) (mm_rf S v0 16) v3.toNatClampNeg ((mm_up I s0 s1.toNatClampNeg s2) (mm_rf S v0 55) ((v2 + 112) + v3).toNatClampNeg)) (mm_rf S v0 55) ((v2 + 120) + v3).toNatClampNeg)) (mm_rf S v0 18) v3.toNatClampNeg ((mm_up (mm_up (mm_up I s0 s1.toNatClampNeg s2) (mm_rf S v0 16) v3.toNatClampNeg ((mm_up I s0 s1.toNatClampNeg s2) (mm_rf S v0 55) ((v2 + 112) + v3).toNatClampNeg)) (mm_rf S v0 17) v3.toNatClampNeg ((mm_up (mm_up I s0 s1.toNatClampNeg s2) (mm_rf S v0 16) v3.toNatClampNeg ((mm_up I s0 s1.toNatClampNeg s2) (mm_rf S v0 55) ((v2 + 112) + v3).toNatClampNeg)) (mm_rf S v0 55) ((v2 + 120) + v3).toNatClampNeg)) (mm_rf S v0 55) ((v2 + 128) + v3).toNatClampNeg)) (mm_rf S v0 19) v3.toNatClampNeg ((mm_up (mm_up (mm_up (mm_up I s0 s1.toNatClampNeg s2) (mm_rf S v0 16) v3.toNatClampNeg ((mm_up I s0 s1.toNatClampNeg s2) (mm_rf S v0 55) ((v2 + 112) + v3).toNatClampNeg)) (mm_rf S v0 17) v3.toNatClampNeg ((mm_up (mm_up I s0 s1.toNatClampNeg s2) (mm_rf S v0 16) v3.toNatClampNeg ((mm_up I s0 s1.toNatClampNeg s2) (mm_rf S v0 55) ((v2 + 112) + v3).toNatClampNeg)) (mm_rf S v0 55) ((v2 + 120) + v3).toNatClampNeg)) (mm_rf S v0 18) v3.toNatClampNeg ((mm_up (mm_up (mm_up I s0 s1.toNatClampNeg s2) (mm_rf S v0 16) v3.toNatClampNeg ((mm_up I s0 s1.toNatClampNeg s2) (mm_rf S v0 55) ((v2 + 112) + v3).toNatClampNeg)) (mm_rf S v0 17) v3.toNatClampNeg ((mm_up (mm_up I s0 s1.toNatClampNeg s2) (mm_rf S v0 16) v3.toNatClampNeg ((mm_up I s0 s1.toNatClampNeg s2) (mm_rf S v0 55) ((v2 + 112) + v3).toNatClampNeg)) (mm_rf S v0 55) ((v2 + 120) + v3).toNatClampNeg)) (mm_rf S v0 55) ((v2 + 128) + v3).toNatClampNeg)) (mm_rf S v0 55) ((v2 + 136) + v3).toNatClampNeg)) (mm_rf S v0 55) ((v2 + 144) + v3).toNatClampNeg)) J) else (f11_load_216 S n rec53 v0 v2 v3 (mm_rf S v0 21) v3 0 (mm_up (mm_up (mm_up (mm_up (mm_up (mm_up I s0 s1.toNatClampNeg s2) (mm_rf S v0 16) v3.toNatClampNeg ((mm_up I s0 s1.toNatClampNeg s2) (mm_rf S v0 55) ((v2 + 112) + v3).toNatClampNeg)) (mm_rf S v0 17) v3.toNatClampNeg ((mm_up (mm_up I s0 s1.toNatClampNeg s2) (mm_rf S v0 16) v3.toNatClampNeg ((mm_up I s0 s1.toNatClampNeg s2) (mm_rf S v0 55) ((v2 + 112) + v3).toNatClampNeg)) (mm_rf S v0 55) ((v2 + 120) + v3).toNatClampNeg)) (mm_rf S v0 18) v3.toNatClampNeg ((mm_up (mm_up (mm_up I s0 s1.toNatClampNeg s2) (mm_rf S v0 16) v3.toNatClampNeg ((mm_up I s0 s1.toNatClampNeg s2) (mm_rf S v0 55) ((v2 + 112) + v3).toNatClampNeg)) (mm_rf S v0 17) v3.toNatClampNeg ((mm_up (mm_up I s0 s1.toNatClampNeg s2) (mm_rf S v0 16) v3.toNatClampNeg ((mm_up I s0 s1.toNatClampNeg s2) (mm_rf S v0 55) ((v2 + 112) + v3).toNatClampNeg)) (mm_rf S v0 55) ((v2 + 120) + v3).toNatClampNeg)) (mm_rf S v0 55) ((v2 + 128) + v3).toNatClampNeg)) (mm_rf S v0 19) v3.toNatClampNeg ((mm_up (mm_up (mm_up (mm_up I s0 s1.toNatClampNeg s2) (mm_rf S v0 16) v3.toNatClampNeg ((mm_up I s0 s1.toNatClampNeg s2) (mm_rf S v0 55) ((v2 + 112) + v3).toNatClampNeg)) (mm_rf S v0 17) v3.toNatClampNeg ((mm_up (mm_up I s0 s1.toNatClampNeg s2) (mm_rf S v0 16) v3.toNatClampNeg ((mm_up I s0 s1.toNatClampNeg s2) (mm_rf S v0 55) ((v2 + 112) + v3).toNatClampNeg)) (mm_rf S v0 55) ((v2 + 120) + v3).toNatClampNeg)) (mm_rf S v0 18) v3.toNatClampNeg ((mm_up (mm_up (mm_up I s0 s1.toNatClampNeg s2) (mm_rf S v0 16) v3.toNatClampNeg ((mm_up I s0 s1.toNatClampNeg s2) (mm_rf S v0 55) ((v2 + 112) + v3).toNatClampNeg)) (mm_rf S v0 17) v3.toNatClampNeg ((mm_up (mm_up I s0 s1.toNatClampNeg s2) (mm_rf S v0 16) v3.toNatClampNeg ((mm_up I s0 s1.toNatClampNeg s2) (mm_rf S v0 55) ((v2 + 112) + v3).toNatClampNeg)) (mm_rf S v0 55) ((v2 + 120) + v3).toNatClampNeg)) (mm_rf S v0 55) ((v2 + 128) + v3).toNatClampNeg)) (mm_rf S v0 55) ((v2 + 136) + v3).toNatClampNeg)) (mm_rf S v0 20) v3.toNatClampNeg ((mm_up (mm_up (mm_up (mm_up (mm_up I s0 s1.toNatClampNeg s2) (mm_rf S v0 16) v3.toNatClampNeg ((mm_up I s0 s1.toNatClampNeg s2) (mm_rf S v0 55) ((v2 + 112) + v3).toNatClampNeg)) (mm_rf S v0 17) v3.toNatClampNeg ((mm_up (mm_up I s0 s1.toNatClampNeg s2) (mm_rf S v0 16) v3.toNatClampNeg ((mm_up I s0 s1.toNatClampNeg s2) (mm_rf S v0 55) ((v2 + 112) + v3).toNatClampNeg)) (mm_rf S v0 55) ((v2 + 120) + v3).toNatClampNeg)) (mm_rf S v0 18) v3.toNatClampNeg ((mm_up (mm_up (mm_up I s0 s1.toNatClampNeg s2) (mm_rf S v0 16) v3.toNatClampNeg ((mm_up I s0 s1.toNatClampNeg s2) (mm_rf S v0 55) ((v2 + 112) + v3).toNatClampNeg)) (mm_rf S v0 17) v3.toNatClampNeg ((mm_up (mm_up I s0 s1.toNatClampNeg s2) (mm_rf S v0 16) v3.toNatClampNeg ((mm_up I s0 s1.toNatClampNeg s2) (mm_rf S v0 55) ((v2 + 112) + v3).toNatClampNeg)) (mm_rf S v0 55) ((v2 + 120) + v3).toNatClampNeg)) (mm_rf S v0 55) ((v2 + 128) + v3).toNatClampNeg)) (mm_rf S v0 19) v3.toNatClampNeg ((mm_up (mm_up (mm_up (mm_up I s0 s1.toNatClampNeg s2) (mm_rf S v0 16) v3.toNatClampNeg ((mm_up I s0 s1.toNatClampNeg s2) (mm_rf S v0 55) ((v2 + 112) + v3).toNatClampNeg)) (mm_rf S v0 17) v3.toNatClampNeg ((mm_up (mm_up I s0 s1.toNatClampNeg s2) (mm_rf S v0 16) v3.toNatClampNeg ((mm_up I s0 s1.toNatClampNeg s2) (mm_rf S v0 55) ((v2 + 112) + v3).toNatClampNeg)) (mm_rf S v0 55) ((v2 + 120) + v3).toNatClampNeg)) (mm_rf S v0 18) v3.toNatClampNeg ((mm_up (mm_up (mm_up I s0 s1.toNatClampNeg s2) (mm_rf S v0 16) v3.toNatClampNeg ((mm_up I s0 s1.toNatClampNeg s2) (mm_rf S v0 55) ((v2 + 112) + v3).toNatClampNeg)) (mm_rf S v0 17) v3.toNatClampNeg ((mm_up (mm_up I s0 s1.toNatClampNeg s2) (mm_rf S v0 16) v3.toNatClampNeg ((mm_up I s0 s1.toNatClampNeg s2) (mm_rf S v0 55) ((v2 + 112) + v3).toNatClampNeg)) (mm_rf S v0 55) ((v2 + 120) + v3).toNatClampNeg)) (mm_rf S v0 55) ((v2 + 128) + v3).toNatClampNeg)) (mm_rf S v0 55) ((v2 + 136) + v3).toNatClampNeg)) (mm_rf S v0 55) ((v2 + 144) + v3).toNatClampNeg)) J)) else none) else none) else none) else none) else none) else none) else none) else none) else none) else none) else none) else none) else none
def f11_load_53_b (S : mm_Sh) (n : Nat) (rec53 : Nat → Int32 → Int32 → mm_I → mm_J → Option (mm_I × mm_J)) (v0 : Nat) (v2 : Int32) (v3 : Int32) (I : mm_I) (J : mm_J) : Option (mm_I × mm_J) :=
  if 8 ≤ v3 then (if mm_inb (v2 + 168) (mm_al S (mm_rf S v0 55)) = true then (if mm_inb (v2 + 169) (mm_al S (mm_rf S v0 55)) = true then (some (mm_up (mm_up I v0 23 (I (mm_rf S v0 55) (v2 + 168).toNatClampNeg)) v0 24 ((mm_up I v0 23 (I (mm_rf S v0 55) (v2 + 168).toNatClampNeg)) (mm_rf S v0 55) (v2 + 169).toNatClampNeg), J)) else none) else none) else (if mm_inb ((v2 + 96) + v3) (mm_al S (mm_rf S v0 55)) = true then (if mm_inb v3 (mm_al S (mm_rf S v0 12)) = true then (if mm_inb ((v2 + 104) + v3) (mm_al S (mm_rf S v0 55)) = true then (if ((mm_up I (mm_rf S v0 12) v3.toNatClampNeg (I (mm_rf S v0 55) ((v2 + 96) + v3).toNatClampNeg)) (mm_rf S v0 55) ((v2 + 104) + v3).toNatClampNeg) = 1 then (f11_load_101 S n rec53 v0 v2 v3 (mm_rf S v0 13) v3 1 (mm_up I (mm_rf S v0 12) v3.toNatClampNeg (I (mm_rf S v0 55) ((v2 + 96) + v3).toNatClampNeg)) J) else (f11_load_101 S n rec53 v0 v2 v3 (mm_rf S v0 13) v3 0 (mm_up I (mm_rf S v0 12) v3.toNatClampNeg (I (mm_rf S v0 55) ((v2 + 96) + v3).toNatClampNeg)) J)) else none) else none) else none)
def f11_load_53 (S : mm_Sh) (n : Nat) : Nat → Nat → Int32 → Int32 → mm_I → mm_J → Option (mm_I × mm_J)
  | 0 => fun _ _ _ _ _ => none
  | k + 1 => f11_load_53_b S n (f11_load_53 S n k)
def f11_load_8_b (S : mm_Sh) (n : Nat) (rec8 : Nat → Int32 → Int32 → mm_I → mm_J → Option (mm_I × mm_J)) (v0 : Nat) (v2 : Int32) (v3 : Int32) (I : mm_I) (J : mm_J) : Option (mm_I × mm_J) :=
  if 48 ≤ v3 then (f11_load_53 S n n v0 v2 0 I J) else (if mm_inb (v2 + v3) (mm_al S (mm_rf S v0 55)) = true then (if mm_inb v3 (mm_al S (mm_rf S v0 14)) = true then (if mm_inb ((v2 + 48) + v3) (mm_al S (mm_rf S v0 55)) = true then (if mm_inb v3 (mm_al S (mm_rf S v0 15)) = true then (rec8 v0 v2 (v3 + 1) (mm_up (mm_up I (mm_rf S v0 14) v3.toNatClampNeg (I (mm_rf S v0 55) (v2 + v3).toNatClampNeg)) (mm_rf S v0 15) v3.toNatClampNeg ((mm_up I (mm_rf S v0 14) v3.toNatClampNeg (I (mm_rf S v0 55) (v2 + v3).toNatClampNeg)) (mm_rf S v0 55) ((v2 + 48) + v3).toNatClampNeg)) J) else none) else none) else none) else none)
def f11_load_8 (S : mm_Sh) (n : Nat) : Nat → Nat → Int32 → Int32 → mm_I → mm_J → Option (mm_I × mm_J)
  | 0 => fun _ _ _ _ _ => none
  | k + 1 => f11_load_8_b S n (f11_load_8 S n k)
def f11_load (S : mm_Sh) (n : Nat) (v0 : Nat) (v1 : Int32) (I : mm_I) (J : mm_J) : Option (mm_I × mm_J) :=
  f11_load_8 S n n v0 (180 * v1) 0 I J
/-! ForgottenCraftsModel.longer(JI)J -/
def f11_longer (S : mm_Sh) (v0 : Int64) (v2 : Int32) (I : mm_I) (J : mm_J) : Option (Int64) :=
  some (((27 * v0) + v2.toInt64) - 96)
/-! ForgottenCraftsModel.save(I)V -/
def f11_save_240 (S : mm_Sh) (n : Nat) (rec53 : Nat → Int32 → Int32 → mm_I → mm_J → Option (mm_I × mm_J)) (v0 : Nat) (v2 : Int32) (v3 : Int32) (s0 : Nat) (s1 : Int32) (s2 : Int32) (I : mm_I) (J : mm_J) : Option (mm_I × mm_J) :=
  if mm_inb s1 (mm_al S s0) = true then (rec53 v0 v2 (v3 + 1) (mm_up I s0 s1.toNatClampNeg s2) J) else none
def f11_save_214 (S : mm_Sh) (n : Nat) (rec53 : Nat → Int32 → Int32 → mm_I → mm_J → Option (mm_I × mm_J)) (v0 : Nat) (v2 : Int32) (v3 : Int32) (s0 : Nat) (s1 : Int32) (s2 : Int32) (I : mm_I) (J : mm_J) : Option (mm_I × mm_J) :=
  if mm_inb s1 (mm_al S s0) = true then (if mm_inb v3 (mm_al S (mm_rf S v0 22)) = true then (if ((mm_up I s0 s1.toNatClampNeg s2) (mm_rf S v0 22) v3.toNatClampNeg) = 0 then (f11_save_240 S n rec53 v0 v2 v3 (mm_rf S v0 55) ((v2 + 160) + v3) 0 (mm_up I s0 s1.toNatClampNeg s2) J) else (f11_save_240 S n rec53 v0 v2 v3 (mm_rf S v0 55) ((v2 + 160) + v3) 1 (mm_up I s0 s1.toNatClampNeg s2) J)) else none) else none
def f11_save_100 (S : mm_Sh) (n : Nat) (rec53 : Nat → Int32 → Int32 → mm_I → mm_J → Option (mm_I × mm_J)) (v0 : Nat) (v2 : Int32) (v3 : Int32) (s0 : Nat) (s1 : Int32) (s2 : Int32) (I : mm_I) (J : mm_J) : Option (mm_I × mm_J) :=
  if mm_inb s1 (mm_al S s0) = true then (if mm_inb v3 (mm_al S (mm_rf S v0 16)) = true then (if mm_inb ((v2 + 112) + v3) (mm_al S (mm_rf S v0 55)) = true then (if mm_inb v3 (mm_al S (mm_rf S v0 17)) = true then (if mm_inb ((v2 + 120) + v3) (mm_al S (mm_rf S v0 55)) = true then (if mm_inb v3 (mm_al S (mm_rf S v0 18)) = true then (if mm_inb ((v2 + 128) + v3) (mm_al S (mm_rf S v0 55)) = true then (if mm_inb v3 (mm_al S (mm_rf S v0 19)) = true then (if mm_inb ((v2 + 136) + v3) (mm_al S (mm_rf S v0 55)) = true then (if mm_inb v3 (mm_al S (mm_rf S v0 20)) = true then (if mm_inb ((v2 + 144) + v3) (mm_al S (mm_rf S v0 55)) = true then (if mm_inb v3 (mm_al S (mm_rf S v0 21)) = true then (if ((mm_up (mm_up (mm_up (mm_up (mm_up (mm_up I s0 s1.toNatClampNeg s2) (mm_rf S v0 55) ((v2 + 112) + v3).toNatClampNeg ((mm_up I s0 s1.toNatClampNeg s2) (mm_rf S v0 16) v3.toNatClampNeg)) (mm_rf S v0 55) ((v2 + 120) + v3).toNatClampNeg ((mm_up (mm_up I s0 s1.toNatClampNeg s2) (mm_rf S v0 55) ((v2 + 112) + v3).toNatClampNeg ((mm_up I s0 s1.toNatClampNeg s2) (mm_rf S v0 16) v3.toNatClampNeg)) (mm_rf S v0 17) v3.toNatClampNeg)) (mm_rf S v0 55) ((v2 + 128) + v3).toNatClampNeg ((mm_up (mm_up (mm_up I s0 s1.toNatClampNeg s2) (mm_rf S v0 55) ((v2 + 112) + v3).toNatClampNeg ((mm_up I s0 s1.toNatClampNeg s2) (mm_rf S v0 16) v3.toNatClampNeg)) (mm_rf S v0 55) ((v2 + 120) + v3).toNatClampNeg ((mm_up (mm_up I s0 s1.toNatClampNeg s2) (mm_rf S v0 55) ((v2 + 112) + v3).toNatClampNeg ((mm_up I s0 s1.toNatClampNeg s2) (mm_rf S v0 16) v3.toNatClampNeg)) (mm_rf S v0 17) v3.toNatClampNeg)) (mm_rf S v0 18) v3.toNatClampNeg)) (mm_rf S v0 55) ((v2 + 136) + v3).toNatClampNeg ((mm_up (mm_up (mm_up (mm_up I s0 s1.toNatClampNeg s2) (mm_rf S v0 55) ((v2 + 112) + v3).toNatClampNeg ((mm_up I s0 s1.toNatClampNeg s2) (mm_rf S v0 16) v3.toNatClampNeg)) (mm_rf S v0 55) ((v2 + 120) + v3).toNatClampNeg ((mm_up (mm_up I s0 s1.toNatClampNeg s2) (mm_rf S v0 55) ((v2 + 112) + v3).toNatClampNeg ((mm_up I s0 s1.toNatClampNeg s2) (mm_rf S v0 16) v3.toNatClampNeg)) (mm_rf S v0 17) v3.toNatClampNeg)) (mm_rf S v0 55) ((v2 + 128) + v3).toNatClampNeg ((mm_up (mm_up (mm_up I s0 s1.toNatClampNeg s2) (mm_rf S v0 55) ((v2 + 112) + v3).toNatClampNeg ((mm_up I s0 s1.toNatClampNeg s2) (mm_rf S v0 16) v3.toNatClampNeg)) (mm_rf S v0 55) ((v2 + 120) + v3).toNatClampNeg ((mm_up (mm_up I s0 s1.toNatClampNeg s2) (mm_rf S v0 55) ((v2 + 112) + v3).toNatClampNeg ((mm_up I s0 s1.toNatClampNeg s2) (mm_rf S v0 16) v3.toNatClampNeg)) (mm_rf S v0 17) v3.toNatClampNeg)) (mm_rf S v0 18) v3.toNatClampNeg)) (mm_rf S v0 19) v3.toNatClampNeg)) (mm_rf S v0 55) ((v2 + 144) + v3).toNatClampNeg ((mm_up (mm_up (mm_up (mm_up (mm_up I s0 s1.toNatClampNeg s2) (mm_rf S v0 55) ((v2 + 112) + v3).toNatClampNeg ((mm_up I s0 s1.toNatClampNeg s2) (mm_rf S v0 16) v3.toNatClampNeg)) (mm_rf S v0 55) ((v2 + 120) + v3).toNatClampNeg ((mm_up (mm_up I s0 s1.toNatClampNeg s2) (mm_rf S v0 55) ((v2 + 112) + v3).toNatClampNeg ((mm_up I s0 s1.toNatClampNeg s2) (mm_rf S v0 16) v3.toNatClampNeg)) (mm_rf S v0 17) v3.toNatClampNeg)) (mm_rf S v0 55) ((v2 + 128) + v3).toNatClampNeg ((mm_up (mm_up (mm_up I s0 s1.toNatClampNeg s2) (mm_rf S v0 55) ((v2 + 112) + v3).toNatClampNeg ((mm_up I s0 s1.toNatClampNeg s2) (mm_rf S v0 16) v3.toNatClampNeg)) (mm_rf S v0 55) ((v2 + 120) + v3).toNatClampNeg ((mm_up (mm_up I s0 s1.toNatClampNeg s2) (mm_rf S v0 55) ((v2 + 112) + v3).toNatClampNeg ((mm_up I s0 s1.toNatClampNeg s2) (mm_rf S v0 16) v3.toNatClampNeg)) (mm_rf S v0 17) v3.toNatClampNeg)) (mm_rf S v0 18) v3.toNatClampNeg)) (mm_rf S v0 55) ((v2 + 136) + v3).toNatClampNeg ((mm_up (mm_up (mm_up (mm_up I s0 s1.toNatClampNeg s2) (mm_rf S v0 55) ((v2 + 112) + v3).toNatClampNeg ((mm_up I s0 s1.toNatClampNeg s2) (mm_rf S v0 16) v3.toNatClampNeg)) (mm_rf S v0 55) ((v2 + 120) + v3).toNatClampNeg ((mm_up (mm_up I s0 s1.toNatClampNeg s2) (mm_rf S v0 55) ((v2 + 112) + v3).toNatClampNeg ((mm_up I s0 s1.toNatClampNeg s2) (mm_rf S v0 16) v3.toNatClampNeg)) (mm_rf S v0 17) v3.toNatClampNeg)) (mm_rf S v0 55) ((v2 + 128) + v3).toNatClampNeg ((mm_up (mm_up (mm_up I s0 s1.toNatClampNeg s2) (mm_rf S v0 55) ((v2 + 112) + v3).toNatClampNeg ((mm_up I s0 s1.toNatClampNeg s2) (mm_rf S v0 16) v3.toNatClampNeg)) (mm_rf S v0 55) ((v2 + 120) + v3).toNatClampNeg ((mm_up (mm_up I s0 s1.toNatClampNeg s2) (mm_rf S v0 55) ((v2 + 112) + v3).toNatClampNeg ((mm_up I s0 s1.toNatClampNeg s2) (mm_rf S v0 16) v3.toNatClampNeg)) (mm_rf S v0 17) v3.toNatClampNeg)) (mm_rf S v0 18) v3.toNatClampNeg)) (mm_rf S v0 19) v3.toNatClampNeg)) (mm_rf S v0 20) v3.toNatClampNeg)) (mm_rf S v0 21) v3.toNatClampNeg) = 0 then (f11_save_214 S n rec53 v0 v2 v3 (mm_rf S v0 55) ((v2 + 152) + v3) 0 (mm_up (mm_up (mm_up (mm_up (mm_up (mm_up I s0 s1.toNatClampNeg s2) (mm_rf S v0 55) ((v2 + 112) + v3).toNatClampNeg ((mm_up I s0 s1.toNatClampNeg s2) (mm_rf S v0 16) v3.toNatClampNeg)) (mm_rf S v0 55) ((v2 + 120) + v3).toNatClampNeg ((mm_up (mm_up I s0 s1.toNatClampNeg s2) (mm_rf S v0 55) ((v2 + 112) + v3).toNatClampNeg ((mm_up I s0 s1.toNatClampNeg s2) (mm_rf S v0 16) v3.toNatClampNeg)) (mm_rf S v0 17) v3.toNatClampNeg)) (mm_rf S v0 55) ((v2 + 128) + v3).toNatClampNeg ((mm_up (mm_up (mm_up I s0 s1.toNatClampNeg s2) (mm_rf S v0 55) ((v2 + 112) + v3).toNatClampNeg ((mm_up I s0 s1.toNatClampNeg s2) (mm_rf S v0 16) v3.toNatClampNeg)) (mm_rf S v0 55) ((v2 + 120) + v3).toNatClampNeg ((mm_up (mm_up I s0 s1.toNatClampNeg s2) (mm_rf S v0 55) ((v2 + 112) + v3).toNatClampNeg ((mm_up I s0 s1.toNatClampNeg s2) (mm_rf S v0 16) v3.toNatClampNeg)) (mm_rf S v0 17) v3.toNatClampNeg)) (mm_rf S v0 18) v3.toNatClampNeg)) (mm_rf S v0 55) ((v2 + 136) + v3).toNatClampNeg ((mm_up (mm_up (mm_up (mm_up I s0 s1.toNatClampNeg s2) (mm_rf S v0 55) ((v2 + 112) + v3).toNatClampNeg ((mm_up I s0 s1.toNatClampNeg s2) (mm_rf S v0 16) v3.toNatClampNeg)) (mm_rf S v0 55) ((v2 + 120) + v3).toNatClampNeg ((mm_up (mm_up I s0 s1.toNatClampNeg s2) (mm_rf S v0 55) ((v2 + 112) + v3).toNatClampNeg ((mm_up I s0 s1.toNatClampNeg s2) (mm_rf S v0 16) v3.toNatClampNeg)) (mm_rf S v0 17) v3.toNatClampNeg)) (mm_rf S v0 55) ((v2 + 128) + v3).toNatClampNeg ((mm_up (mm_up (mm_up I s0 s1.toNatClampNeg s2) (mm_rf S v0 55) ((v2 + 112) + v3).toNatClampNeg ((mm_up I s0 s1.toNatClampNeg s2) (mm_rf S v0 16) v3.toNatClampNeg)) (mm_rf S v0 55) ((v2 + 120) + v3).toNatClampNeg ((mm_up (mm_up I s0 s1.toNatClampNeg s2) (mm_rf S v0 55) ((v2 + 112) + v3).toNatClampNeg ((mm_up I s0 s1.toNatClampNeg s2) (mm_rf S v0 16) v3.toNatClampNeg)) (mm_rf S v0 17) v3.toNatClampNeg)) (mm_rf S v0 18) v3.toNatClampNeg)) (mm_rf S v0 19) v3.toNatClampNeg)) (mm_rf S v0 55) ((v2 + 144) + v3).toNatClampNeg ((mm_up (mm_up (mm_up (mm_up (mm_up I s0 s1.toNatClampNeg s2) (mm_rf S v0 55) ((v2 + 112) + v3).toNatClampNeg ((mm_up I s0 s1.toNatClampNeg s2) (mm_rf S v0 16) v3.toNatClampNeg)) (mm_rf S v0 55) ((v2 + 120) + v3).toNatClampNeg ((mm_up (mm_up I s0 s1.toNatClampNeg s2) (mm_rf S v0 55) ((v2 + 112) + v3).toNatClampNeg ((mm_up I s0 s1.toNatClampNeg s2) (mm_rf S v0 16) v3.toNatClampNeg)) (mm_rf S v0 17) v3.toNatClampNeg)) (mm_rf S v0 55) ((v2 + 128) + v3).toNatClampNeg ((mm_up (mm_up (mm_up I s0 s1.toNatClampNeg s2) (mm_rf S v0 55) ((v2 + 112) + v3).toNatClampNeg ((mm_up I s0 s1.toNatClampNeg s2) (mm_rf S v0 16) v3.toNatClampNeg)) (mm_rf S v0 55) ((v2 + 120) + v3).toNatClampNeg ((mm_up (mm_up I s0 s1.toNatClampNeg s2) (mm_rf S v0 55) ((v2 + 112) + v3).toNatClampNeg ((mm_up I s0 s1.toNatClampNeg s2) (mm_rf S v0 16) v3.toNatClampNeg)) (mm_rf S v0 17) v3.toNatClampNeg)) (mm_rf S v0 18) v3.toNatClampNeg)) (mm_rf S v0 55) ((v2 + 136) + v3).toNatClampNeg ((mm_up (mm_up (mm_up (mm_up I s0 s1.toNatClampNeg s2) (mm_rf S v0 55) ((v2 + 112) + v3).toNatClampNeg ((mm_up I s0 s1.toNatClampNeg s2) (mm_rf S v0 16) v3.toNatClampNeg)) (mm_rf S v0 55) ((v2 + 120) + v3).toNatClampNeg ((mm_up (mm_up I s0 s1.toNatClampNeg s2) (mm_rf S v0 55) ((v2 + 112) + v3).toNatClampNeg ((mm_up I s0 s1.toNatClampNeg s2) (mm_rf S v0 16) v3.toNatClampNeg)) (mm_rf S v0 17) v3.toNatClampNeg)) (mm_rf S v0 55) ((v2 + 128) + v3).toNatClampNeg ((mm_up (mm_up (mm_up I s0 s1.toNatClampNeg s2) (mm_rf S v0 55) ((v2 + 112) + v3).toNatClampNeg ((mm_up I s0 s1.toNatClampNeg s2) (mm_rf S v0 16) v3.toNatClampNeg)) (mm_rf S v0 55) ((v2 + 120) + v3).toNatClampNeg ((mm_up (mm_up I s0 s1.toNatClampNeg s2) (mm_rf S v0 55) ((v2 + 112) + v3).toNatClampNeg ((mm_up I s0 s1.toNatClampNeg s2) (mm_rf S v0 16) v3.toNatClampNeg)) (mm_rf S v0 17) v3.toNatClampNeg)) (mm_rf S v0 18) v3.toNatClampNeg)) (mm_rf S v0 19) v3.toNatClampNeg)) (mm_rf S v0 20) v3.toNatClampNeg)) J) else (f11_save_214 S n rec53 v0 v2 v3 (mm_rf S v0 55) ((v2 + 152) + v3) 1 (mm_up (mm_up (mm_up (mm_up (mm_up (mm_up I s0 s1.toNatClampNeg s2) (mm_rf S v0 55) ((v2 + 112) + v3).toNatClampNeg ((mm_up I s0 s1.toNatClampNeg s2) (mm_rf S v0 16) v3.toNatClampNeg)) (mm_rf S v0 55) ((v2 + 120) + v3).toNatClampNeg ((mm_up (mm_up I s0 s1.toNatClampNeg s2) (mm_rf S v0 55) ((v2 + 112) + v3).toNatClampNeg ((mm_up I s0 s1.toNatClampNeg s2) (mm_rf S v0 16) v3.toNatClampNeg)) (mm_rf S v0 17) v3.toNatClampNeg)) (mm_rf S v0 55) ((v2 + 128) + v3).toNatClampNeg ((mm_up (mm_up (mm_up I s0 s1.toNatClampNeg s2) (mm_rf S v0 55) ((v2 + 112) + v3).toNatClampNeg ((mm_up I s0 s1.toNatClampNeg s2) (mm_rf S v0 16) v3.toNatClampNeg)) (mm_rf S v0 55) ((v2 + 120) + v3).toNatClampNeg ((mm_up (mm_up I s0 s1.toNatClampNeg s2) (mm_rf S v0 55) ((v2 + 112) + v3).toNatClampNeg ((mm_up I s0 s1.toNatClampNeg s2) (mm_rf S v0 16) v3.toNatClampNeg)) (mm_rf S v0 17) v3.toNatClampNeg)) (mm_rf S v0 18) v3.toNatClampNeg)) (mm_rf S v0 55) ((v2 + 136) + v3).toNatClampNeg ((mm_up (mm_up (mm_up (mm_up I s0 s1.toNatClampNeg s2) (mm_rf S v0 55) ((v2 + 112) + v3).toNatClampNeg ((mm_up I s0 s1.toNatClampNeg s2) (mm_rf S v0 16) v3.toNatClampNeg)) (mm_rf S v0 55) ((v2 + 120) + v3).toNatClampNeg ((mm_up (mm_up I s0 s1.toNatClampNeg s2) (mm_rf S v0 55) ((v2 + 112) + v3).toNatClampNeg ((mm_up I s0 s1.toNatClampNeg s2) (mm_rf S v0 16) v3.toNatClampNeg)) (mm_rf S v0 17) v3.toNatClampNeg)) (mm_rf S v0 55) ((v2 + 128) + v3).toNatClampNeg ((mm_up (mm_up (mm_up I s0 s1.toNatClampNeg s2) (mm_rf S v0 55) ((v2 + 112) + v3).toNatClampNeg ((mm_up I s0 s1.toNatClampNeg s2) (mm_rf S v0 16) v3.toNatClampNeg)) (mm_rf S v0 55) ((v2 + 120) + v3).toNatClampNeg ((mm_up (mm_up I s0 s1.toNatClampNeg s2) (mm_rf S v0 55) ((v2 + 112) + v3).toNatClampNeg ((mm_up I s0 s1.toNatClampNeg s2) (mm_rf S v0 16) v3.toNatClampNeg)) (mm_rf S v0 17) v3.toNatClampNeg)) (mm_rf S v0 18) v3.toNatClampNeg)) (mm_rf S v0 19) v3.toNatClampNeg)) (mm_rf S v0 55) ((v2 + 144) + v3).toNatClampNeg ((mm_up (mm_up (mm_up (mm_up (mm_up I s0 s1.toNatClampNeg s2) (mm_rf S v0 55) ((v2 + 112) + v3).toNatClampNeg ((mm_up I s0 s1.toNatClampNeg s2) (mm_rf S v0 16) v3.toNatClampNeg)) (mm_rf S v0 55) ((v2 + 120) + v3).toNatClampNeg ((mm_up (mm_up I s0 s1.toNatClampNeg s2) (mm_rf S v0 55) ((v2 + 112) + v3).toNatClampNeg ((mm_up I s0 s1.toNatClampNeg s2) (mm_rf S v0 16) v3.toNatClampNeg)) (mm_rf S v0 17) v3.toNatClampNeg)) (mm_rf S v0 55) ((v2 + 128) + v3).toNatClampNeg ((mm_up (mm_up (mm_up I s0 s1.toNatClampNeg s2) (mm_rf S v0 55) ((v2 + 112) + v3).toNatClampNeg ((mm_up I s0 s1.toNatClampNeg s2) (mm_rf S v0 16) v3.toNatClampNeg)) (mm_rf S v0 55) ((v2 + 120) + v3).toNatClampNeg ((mm_up (mm_up I s0 s1.toNatClampNeg s2) (mm_rf S v0 55) ((v2 + 112) + v3).toNatClampNeg ((mm_up I s0 s1.toNatClampNeg s2) (mm_rf S v0 16) v3.toNatClampNeg)) (mm_rf S v0 17) v3.toNatClampNeg)) (mm_rf S v0 18) v3.toNatClampNeg)) (mm_rf S v0 55) ((v2 + 136) + v3).toNatClampNeg ((mm_up (mm_up (mm_up (mm_up I s0 s1.toNatClampNeg s2) (mm_rf S v0 55) ((v2 + 112) + v3).toNatClampNeg ((mm_up I s0 s1.toNatClampNeg s2) (mm_rf S v0 16) v3.toNatClampNeg)) (mm_rf S v0 55) ((v2 + 120) + v3).toNatClampNeg ((mm_up (mm_up I s0 s1.toNatClampNeg s2) (mm_rf S v0 55) ((v2 + 112) + v3).toNatClampNeg ((mm_up I s0 s1.toNatClampNeg s2) (mm_rf S v0 16) v3.toNatClampNeg)) (mm_rf S v0 17) v3.toNatClampNeg)) (mm_rf S v0 55) ((v2 + 128) + v3).toNatClampNeg ((mm_up (mm_up (mm_up I s0 s1.toNatClampNeg s2) (mm_rf S v0 55) ((v2 + 112) + v3).toNatClampNeg ((mm_up I s0 s1.toNatClampNeg s2) (mm_rf S v0 16) v3.toNatClampNeg)) (mm_rf S v0 55) ((v2 + 120) + v3).toNatClampNeg ((mm_up (mm_up I s0 s1.toNatClampNeg s2) (mm_rf S v0 55) ((v2 + 112) + v3).toNatClampNeg ((mm_up I s0 s1.toNatClampNeg s2) (mm_rf S v0 16) v3.toNatClampNeg)) (mm_rf S v0 17) v3.toNatClampNeg)) (mm_rf S v0 18) v3.toNatClampNeg)) (mm_rf S v0 19) v3.toNatClampNeg)) (mm_rf S v0 20) v3.toNatClampNeg)) J)) else none) else none) else none) else none) else none) else none) else none) else none) else none) else none) else none) else none
def f11_save_53_b (S : mm_Sh) (n : Nat) (rec53 : Nat → Int32 → Int32 → mm_I → mm_J → Option (mm_I × mm_J)) (v0 : Nat) (v2 : Int32) (v3 : Int32) (I : mm_I) (J : mm_J) : Option (mm_I × mm_J) :=
  if 8 ≤ v3 then (if mm_inb (v2 + 168) (mm_al S (mm_rf S v0 55)) = true then (if mm_inb (v2 + 169) (mm_al S (mm_rf S v0 55)) = true then (some (mm_up (mm_up I (mm_rf S v0 55) (v2 + 168).toNatClampNeg (I v0 23)) (mm_rf S v0 55) (v2 + 169).toNatClampNeg ((mm_up I (mm_rf S v0 55) (v2 + 168).toNatClampNeg (I v0 23)) v0 24), J)) else none) else none) else (if mm_inb v3 (mm_al S (mm_rf S v0 12)) = true then (if mm_inb ((v2 + 96) + v3) (mm_al S (mm_rf S v0 55)) = true then (if mm_inb v3 (mm_al S (mm_rf S v0 13)) = true then (if ((mm_up I (mm_rf S v0 55) ((v2 + 96) + v3).toNatClampNeg (I (mm_rf S v0 12) v3.toNatClampNeg)) (mm_rf S v0 13) v3.toNatClampNeg) = 0 then (f11_save_100 S n rec53 v0 v2 v3 (mm_rf S v0 55) ((v2 + 104) + v3) 0 (mm_up I (mm_rf S v0 55) ((v2 + 96) + v3).toNatClampNeg (I (mm_rf S v0 12) v3.toNatClampNeg)) J) else (f11_save_100 S n rec53 v0 v2 v3 (mm_rf S v0 55) ((v2 + 104) + v3) 1 (mm_up I (mm_rf S v0 55) ((v2 + 96) + v3).toNatClampNeg (I (mm_rf S v0 12) v3.toNatClampNeg)) J)) else none) else none) else none)
def f11_save_53 (S : mm_Sh) (n : Nat) : Nat → Nat → Int32 → Int32 → mm_I → mm_J → Option (mm_I × mm_J)
  | 0 => fun _ _ _ _ _ => none
  | k + 1 => f11_save_53_b S n (f11_save_53 S n k)
def f11_save_8_b (S : mm_Sh) (n : Nat) (rec8 : Nat → Int32 → Int32 → mm_I → mm_J → Option (mm_I × mm_J)) (v0 : Nat) (v2 : Int32) (v3 : Int32) (I : mm_I) (J : mm_J) : Option (mm_I × mm_J) :=
  if 48 ≤ v3 then (f11_save_53 S n n v0 v2 0 I J) else (if mm_inb v3 (mm_al S (mm_rf S v0 14)) = true then (if mm_inb (v2 + v3) (mm_al S (mm_rf S v0 55)) = true then (if mm_inb v3 (mm_al S (mm_rf S v0 15)) = true then (if mm_inb ((v2 + 48) + v3) (mm_al S (mm_rf S v0 55)) = true then (rec8 v0 v2 (v3 + 1) (mm_up (mm_up I (mm_rf S v0 55) (v2 + v3).toNatClampNeg (I (mm_rf S v0 14) v3.toNatClampNeg)) (mm_rf S v0 55) ((v2 + 48) + v3).toNatClampNeg ((mm_up I (mm_rf S v0 55) (v2 + v3).toNatClampNeg (I (mm_rf S v0 14) v3.toNatClampNeg)) (mm_rf S v0 15) v3.toNatClampNeg)) J) else none) else none) else none) else none)
def f11_save_8 (S : mm_Sh) (n : Nat) : Nat → Nat → Int32 → Int32 → mm_I → mm_J → Option (mm_I × mm_J)
  | 0 => fun _ _ _ _ _ => none
  | k + 1 => f11_save_8_b S n (f11_save_8 S n k)
def f11_save (S : mm_Sh) (n : Nat) (v0 : Nat) (v1 : Int32) (I : mm_I) (J : mm_J) : Option (mm_I × mm_J) :=
  f11_save_8 S n n v0 (180 * v1) 0 I J
/-! ForgottenCraftsModel.seed(I)I -/
def f11_seed (S : mm_Sh) (v0 : Nat) (v1 : Int32) (I : mm_I) (J : mm_J) : Option (Int32 × mm_I × mm_J) :=
  if 0 ≤ v1 then (some (I v0 24, mm_up I v0 24 v1, J)) else (some ((-1000000002), I, J))
/-! ForgottenCraftsModel.tear()I -/
def f11_tear (S : mm_Sh) (v0 : Nat) (I : mm_I) (J : mm_J) : Option (Int32 × mm_I × mm_J) :=
  some ((I v0 51) + (I v0 48), mm_up (mm_up I v0 51 0) v0 48 0, J)
/-! ForgottenCrafts$Folk.draw(I)I -/
def f1_draw_39 (S : mm_Sh) (s0 : Int32) (I : mm_I) (J : mm_J) : Option (Int32 × mm_I × mm_J) :=
  some (s0, I, J)
def f1_draw (S : mm_Sh) (v0 : Nat) (v1 : Int32) (I : mm_I) (J : mm_J) : Option (Int32 × mm_I × mm_J) :=
  if v1 ≤ 0 then (f1_draw_39 S 0 (mm_up I v0 12 ((((((I v0 12).toInt64) * 1103515245) + 12345) &&& 2147483647).toInt32)) J) else (if v1 = 0 then none else (f1_draw_39 S ((((mm_up I v0 12 ((((((I v0 12).toInt64) * 1103515245) + 12345) &&& 2147483647).toInt32)) v0 12) / 65536) - (((mm_up I v0 12 ((((((I v0 12).toInt64) * 1103515245) + 12345) &&& 2147483647).toInt32)) v0 12) / 65536) / v1 * v1) (mm_up I v0 12 ((((((I v0 12).toInt64) * 1103515245) + 12345) &&& 2147483647).toInt32)) J))
/-! ForgottenCrafts$Reader.blame(II)V -/
def f4_blame_17 (S : mm_Sh)  (I : mm_I) (J : mm_J) : Option (mm_I × mm_J) :=
  some (I, J)
def f4_blame (S : mm_Sh) (v0 : Nat) (v1 : Int32) (v2 : Int32) (I : mm_I) (J : mm_J) : Option (mm_I × mm_J) :=
  if (I v0 5) = 0 then (f4_blame_17 S (mm_up (mm_up I v0 5 v1) v0 6 v2) J) else (f4_blame_17 S I J)
/-! ForgottenCrafts$Reader.clear()V -/
def f4_clear (S : mm_Sh) (v0 : Nat) (I : mm_I) (J : mm_J) : Option (mm_I × mm_J) :=
  some (mm_up I v0 1 0, J)
/-! ForgottenCrafts$Reader.isSound()Z -/
def f4_isSound_12 (S : mm_Sh) (s0 : Int32) (I : mm_I) (J : mm_J) : Option (Int32) :=
  if mm_bit s0 = true then some s0 else none
def f4_isSound (S : mm_Sh) (v0 : Nat) (I : mm_I) (J : mm_J) : Option (Int32) :=
  if (I v0 5) = 0 then (f4_isSound_12 S 1 I J) else (f4_isSound_12 S 0 I J)
/-! ForgottenCrafts$Reader.tokenOf(I)I -/
def f4_tokenOf_39 (S : mm_Sh) (s0 : Int32) (I : mm_I) (J : mm_J) : Option (Int32) :=
  some s0
def f4_tokenOf_28 (S : mm_Sh) (v0 : Int32) (I : mm_I) (J : mm_J) : Option (Int32) :=
  if v0 = 59 then (f4_tokenOf_39 S 3 I J) else (f4_tokenOf_39 S 4 I J)
def f4_tokenOf_14 (S : mm_Sh) (v0 : Int32) (I : mm_I) (J : mm_J) : Option (Int32) :=
  if v0 < 48 then (f4_tokenOf_28 S v0 I J) else (if 57 < v0 then (f4_tokenOf_28 S v0 I J) else (some 2))
def f4_tokenOf (S : mm_Sh) (v0 : Int32) (I : mm_I) (J : mm_J) : Option (Int32) :=
  if v0 < 97 then (f4_tokenOf_14 S v0 I J) else (if 122 < v0 then (f4_tokenOf_14 S v0 I J) else (some 1))
/-! ForgottenCrafts$Row.at(I)I -/
def f6_at_23 (S : mm_Sh) (s0 : Int32) (I : mm_I) (J : mm_J) : Option (Int32) :=
  some s0
def f6_at_22 (S : mm_Sh)  (I : mm_I) (J : mm_J) : Option (Int32) :=
  f6_at_23 S 0 I J
def f6_at (S : mm_Sh) (v0 : Nat) (v1 : Int32) (I : mm_I) (J : mm_J) : Option (Int32) :=
  if v1 < 0 then (f6_at_22 S I J) else (if (Int32.ofNat (mm_al S (mm_rf S v0 0))) ≤ v1 then (f6_at_22 S I J) else (if mm_inb v1 (mm_al S (mm_rf S v0 0)) = true then (f6_at_23 S (I (mm_rf S v0 0) v1.toNatClampNeg) I J) else none))
/-! ForgottenCrafts$Row.copyFrom(LForgottenCrafts$Row;)V -/
def f6_copyFrom_38 (S : mm_Sh) (n : Nat)  (I : mm_I) (J : mm_J) : Option (mm_I × mm_J) :=
  some (I, J)
def f6_copyFrom_2_b (S : mm_Sh) (n : Nat) (rec2 : Nat → Nat → Int32 → mm_I → mm_J → Option (mm_I × mm_J)) (v0 : Nat) (v1 : Nat) (v2 : Int32) (I : mm_I) (J : mm_J) : Option (mm_I × mm_J) :=
  if (Int32.ofNat (mm_al S (mm_rf S v0 0))) ≤ v2 then (f6_copyFrom_38 S n I J) else (if (Int32.ofNat (mm_al S (mm_rf S v1 0))) ≤ v2 then (f6_copyFrom_38 S n I J) else (if mm_inb v2 (mm_al S (mm_rf S v1 0)) = true then (if mm_inb v2 (mm_al S (mm_rf S v0 0)) = true then (rec2 v0 v1 (v2 + 1) (mm_up I (mm_rf S v0 0) v2.toNatClampNeg (I (mm_rf S v1 0) v2.toNatClampNeg)) J) else none) else none))
def f6_copyFrom_2 (S : mm_Sh) (n : Nat) : Nat → Nat → Nat → Int32 → mm_I → mm_J → Option (mm_I × mm_J)
  | 0 => fun _ _ _ _ _ => none
  | k + 1 => f6_copyFrom_2_b S n (f6_copyFrom_2 S n k)
def f6_copyFrom (S : mm_Sh) (n : Nat) (v0 : Nat) (v1 : Nat) (I : mm_I) (J : mm_J) : Option (mm_I × mm_J) :=
  f6_copyFrom_2 S n n v0 v1 0 I J
/-! ForgottenCrafts$Row.fill(I)V -/
def f6_fill_2_b (S : mm_Sh) (n : Nat) (rec2 : Nat → Int32 → Int32 → mm_I → mm_J → Option (mm_I × mm_J)) (v0 : Nat) (v1 : Int32) (v2 : Int32) (I : mm_I) (J : mm_J) : Option (mm_I × mm_J) :=
  if (Int32.ofNat (mm_al S (mm_rf S v0 0))) ≤ v2 then (some (I, J)) else (if mm_inb v2 (mm_al S (mm_rf S v0 0)) = true then (rec2 v0 v1 (v2 + 1) (mm_up I (mm_rf S v0 0) v2.toNatClampNeg v1) J) else none)
def f6_fill_2 (S : mm_Sh) (n : Nat) : Nat → Nat → Int32 → Int32 → mm_I → mm_J → Option (mm_I × mm_J)
  | 0 => fun _ _ _ _ _ => none
  | k + 1 => f6_fill_2_b S n (f6_fill_2 S n k)
def f6_fill (S : mm_Sh) (n : Nat) (v0 : Nat) (v1 : Int32) (I : mm_I) (J : mm_J) : Option (mm_I × mm_J) :=
  f6_fill_2 S n n v0 v1 0 I J
/-! ForgottenCrafts$Row.put(II)V -/
def f6_put_20 (S : mm_Sh)  (I : mm_I) (J : mm_J) : Option (mm_I × mm_J) :=
  some (I, J)
def f6_put (S : mm_Sh) (v0 : Nat) (v1 : Int32) (v2 : Int32) (I : mm_I) (J : mm_J) : Option (mm_I × mm_J) :=
  if v1 < 0 then (f6_put_20 S I J) else (if (Int32.ofNat (mm_al S (mm_rf S v0 0))) ≤ v1 then (f6_put_20 S I J) else (if mm_inb v1 (mm_al S (mm_rf S v0 0)) = true then (f6_put_20 S (mm_up I (mm_rf S v0 0) v1.toNatClampNeg v2) J) else none))
/-! ForgottenCrafts$Rules.clear()V -/
def f7_clear (S : mm_Sh) (v0 : Nat) (I : mm_I) (J : mm_J) : Option (mm_I × mm_J) :=
  some (mm_up (mm_up (mm_up (mm_up (mm_up (mm_up (mm_up I v0 0 2) v0 1 2) v0 2 25) v0 3 5) v0 4 70) v0 5 0) v0 6 0, J)
/-! ForgottenCrafts$Rules.copyFrom(LForgottenCrafts$Rules;)V -/
def f7_copyFrom (S : mm_Sh) (v0 : Nat) (v1 : Nat) (I : mm_I) (J : mm_J) : Option (mm_I × mm_J) :=
  if mm_bit ((mm_up (mm_up (mm_up (mm_up (mm_up I v0 0 (I v1 0)) v0 1 ((mm_up I v0 0 (I v1 0)) v1 1)) v0 2 ((mm_up (mm_up I v0 0 (I v1 0)) v0 1 ((mm_up I v0 0 (I v1 0)) v1 1)) v1 2)) v0 3 ((mm_up (mm_up (mm_up I v0 0 (I v1 0)) v0 1 ((mm_up I v0 0 (I v1 0)) v1 1)) v0 2 ((mm_up (mm_up I v0 0 (I v1 0)) v0 1 ((mm_up I v0 0 (I v1 0)) v1 1)) v1 2)) v1 3)) v0 4 ((mm_up (mm_up (mm_up (mm_up I v0 0 (I v1 0)) v0 1 ((mm_up I v0 0 (I v1 0)) v1 1)) v0 2 ((mm_up (mm_up I v0 0 (I v1 0)) v0 1 ((mm_up I v0 0 (I v1 0)) v1 1)) v1 2)) v0 3 ((mm_up (mm_up (mm_up I v0 0 (I v1 0)) v0 1 ((mm_up I v0 0 (I v1 0)) v1 1)) v0 2 ((mm_up (mm_up I v0 0 (I v1 0)) v0 1 ((mm_up I v0 0 (I v1 0)) v1 1)) v1 2)) v1 3)) v1 4)) v1 5) = true then (some (mm_up (mm_up (mm_up (mm_up (mm_up (mm_up I v0 0 (I v1 0)) v0 1 ((mm_up I v0 0 (I v1 0)) v1 1)) v0 2 ((mm_up (mm_up I v0 0 (I v1 0)) v0 1 ((mm_up I v0 0 (I v1 0)) v1 1)) v1 2)) v0 3 ((mm_up (mm_up (mm_up I v0 0 (I v1 0)) v0 1 ((mm_up I v0 0 (I v1 0)) v1 1)) v0 2 ((mm_up (mm_up I v0 0 (I v1 0)) v0 1 ((mm_up I v0 0 (I v1 0)) v1 1)) v1 2)) v1 3)) v0 4 ((mm_up (mm_up (mm_up (mm_up I v0 0 (I v1 0)) v0 1 ((mm_up I v0 0 (I v1 0)) v1 1)) v0 2 ((mm_up (mm_up I v0 0 (I v1 0)) v0 1 ((mm_up I v0 0 (I v1 0)) v1 1)) v1 2)) v0 3 ((mm_up (mm_up (mm_up I v0 0 (I v1 0)) v0 1 ((mm_up I v0 0 (I v1 0)) v1 1)) v0 2 ((mm_up (mm_up I v0 0 (I v1 0)) v0 1 ((mm_up I v0 0 (I v1 0)) v1 1)) v1 2)) v1 3)) v1 4)) v0 5 ((mm_up (mm_up (mm_up (mm_up (mm_up I v0 0 (I v1 0)) v0 1 ((mm_up I v0 0 (I v1 0)) v1 1)) v0 2 ((mm_up (mm_up I v0 0 (I v1 0)) v0 1 ((mm_up I v0 0 (I v1 0)) v1 1)) v1 2)) v0 3 ((mm_up (mm_up (mm_up I v0 0 (I v1 0)) v0 1 ((mm_up I v0 0 (I v1 0)) v1 1)) v0 2 ((mm_up (mm_up I v0 0 (I v1 0)) v0 1 ((mm_up I v0 0 (I v1 0)) v1 1)) v1 2)) v1 3)) v0 4 ((mm_up (mm_up (mm_up (mm_up I v0 0 (I v1 0)) v0 1 ((mm_up I v0 0 (I v1 0)) v1 1)) v0 2 ((mm_up (mm_up I v0 0 (I v1 0)) v0 1 ((mm_up I v0 0 (I v1 0)) v1 1)) v1 2)) v0 3 ((mm_up (mm_up (mm_up I v0 0 (I v1 0)) v0 1 ((mm_up I v0 0 (I v1 0)) v1 1)) v0 2 ((mm_up (mm_up I v0 0 (I v1 0)) v0 1 ((mm_up I v0 0 (I v1 0)) v1 1)) v1 2)) v1 3)) v1 4)) v1 5), J)) else none
/-! ForgottenCrafts$Shelf.clear()V -/
def f8_clear (S : mm_Sh) (v0 : Nat) (I : mm_I) (J : mm_J) : Option (mm_I × mm_J) :=
  some (mm_up (mm_up I v0 6 0) v0 7 0, J)
/-! java/lang/Integer.bitCount(I)I -/
def fJ6_bitCount (S : mm_Sh) (v0 : Int32) (I : mm_I) (J : mm_J) : Option (Int32) :=
  some ((((((((v0 - (((v0.toUInt32 >>> ((1 : Int32).toUInt32 &&& Int32.toUInt32 31)).toInt32) &&& 1431655765)) &&& 858993459) + ((((v0 - (((v0.toUInt32 >>> ((1 : Int32).toUInt32 &&& Int32.toUInt32 31)).toInt32) &&& 1431655765)).toUInt32 >>> ((2 : Int32).toUInt32 &&& Int32.toUInt32 31)).toInt32) &&& 858993459)) + (((((v0 - (((v0.toUInt32 >>> ((1 : Int32).toUInt32 &&& Int32.toUInt32 31)).toInt32) &&& 1431655765)) &&& 858993459) + ((((v0 - (((v0.toUInt32 >>> ((1 : Int32).toUInt32 &&& Int32.toUInt32 31)).toInt32) &&& 1431655765)).toUInt32 >>> ((2 : Int32).toUInt32 &&& Int32.toUInt32 31)).toInt32) &&& 858993459)).toUInt32 >>> ((4 : Int32).toUInt32 &&& Int32.toUInt32 31)).toInt32)) &&& 252645135) + (((((((v0 - (((v0.toUInt32 >>> ((1 : Int32).toUInt32 &&& Int32.toUInt32 31)).toInt32) &&& 1431655765)) &&& 858993459) + ((((v0 - (((v0.toUInt32 >>> ((1 : Int32).toUInt32 &&& Int32.toUInt32 31)).toInt32) &&& 1431655765)).toUInt32 >>> ((2 : Int32).toUInt32 &&& Int32.toUInt32 31)).toInt32) &&& 858993459)) + (((((v0 - (((v0.toUInt32 >>> ((1 : Int32).toUInt32 &&& Int32.toUInt32 31)).toInt32) &&& 1431655765)) &&& 858993459) + ((((v0 - (((v0.toUInt32 >>> ((1 : Int32).toUInt32 &&& Int32.toUInt32 31)).toInt32) &&& 1431655765)).toUInt32 >>> ((2 : Int32).toUInt32 &&& Int32.toUInt32 31)).toInt32) &&& 858993459)).toUInt32 >>> ((4 : Int32).toUInt32 &&& Int32.toUInt32 31)).toInt32)) &&& 252645135).toUInt32 >>> ((8 : Int32).toUInt32 &&& Int32.toUInt32 31)).toInt32)) + ((((((((v0 - (((v0.toUInt32 >>> ((1 : Int32).toUInt32 &&& Int32.toUInt32 31)).toInt32) &&& 1431655765)) &&& 858993459) + ((((v0 - (((v0.toUInt32 >>> ((1 : Int32).toUInt32 &&& Int32.toUInt32 31)).toInt32) &&& 1431655765)).toUInt32 >>> ((2 : Int32).toUInt32 &&& Int32.toUInt32 31)).toInt32) &&& 858993459)) + (((((v0 - (((v0.toUInt32 >>> ((1 : Int32).toUInt32 &&& Int32.toUInt32 31)).toInt32) &&& 1431655765)) &&& 858993459) + ((((v0 - (((v0.toUInt32 >>> ((1 : Int32).toUInt32 &&& Int32.toUInt32 31)).toInt32) &&& 1431655765)).toUInt32 >>> ((2 : Int32).toUInt32 &&& Int32.toUInt32 31)).toInt32) &&& 858993459)).toUInt32 >>> ((4 : Int32).toUInt32 &&& Int32.toUInt32 31)).toInt32)) &&& 252645135) + (((((((v0 - (((v0.toUInt32 >>> ((1 : Int32).toUInt32 &&& Int32.toUInt32 31)).toInt32) &&& 1431655765)) &&& 858993459) + ((((v0 - (((v0.toUInt32 >>> ((1 : Int32).toUInt32 &&& Int32.toUInt32 31)).toInt32) &&& 1431655765)).toUInt32 >>> ((2 : Int32).toUInt32 &&& Int32.toUInt32 31)).toInt32) &&& 858993459)) + (((((v0 - (((v0.toUInt32 >>> ((1 : Int32).toUInt32 &&& Int32.toUInt32 31)).toInt32) &&& 1431655765)) &&& 858993459) + ((((v0 - (((v0.toUInt32 >>> ((1 : Int32).toUInt32 &&& Int32.toUInt32 31)).toInt32) &&& 1431655765)).toUInt32 >>> ((2 : Int32).toUInt32 &&& Int32.toUInt32 31)).toInt32) &&& 858993459)).toUInt32 >>> ((4 : Int32).toUInt32 &&& Int32.toUInt32 31)).toInt32)) &&& 252645135).toUInt32 >>> ((8 : Int32).toUInt32 &&& Int32.toUInt32 31)).toInt32)).toUInt32 >>> ((16 : Int32).toUInt32 &&& Int32.toUInt32 31)).toInt32)) &&& 63)
/-! ForgottenCrafts$Crafts.clear()V -/
def f0_clear (S : mm_Sh) (n : Nat) (v0 : Nat) (I : mm_I) (J : mm_J) : Option (mm_I × mm_J) :=
  (f6_fill S n (mm_rf S v0 4) 0 I J).bind fun o1 => some (mm_up (mm_up o1.1 v0 5 0) v0 6 0, o1.2)
/-! ForgottenCrafts$Crafts.copyFrom(LForgottenCrafts$Crafts;)V -/
def f0_copyFrom (S : mm_Sh) (n : Nat) (v0 : Nat) (v1 : Nat) (I : mm_I) (J : mm_J) : Option (mm_I × mm_J) :=
  (f6_copyFrom S n (mm_rf S v0 0) (mm_rf S v1 0) I J).bind fun o1 => (f6_copyFrom S n (mm_rf S v0 1) (mm_rf S v1 1) o1.1 o1.2).bind fun o2 => (f6_copyFrom S n (mm_rf S v0 2) (mm_rf S v1 2) o2.1 o2.2).bind fun o3 => (f6_copyFrom S n (mm_rf S v0 3) (mm_rf S v1 3) o3.1 o3.2).bind fun o4 => (f6_copyFrom S n (mm_rf S v0 4) (mm_rf S v1 4) o4.1 o4.2).bind fun o5 => some (mm_up (mm_up o5.1 v0 5 (o5.1 v1 5)) v0 6 ((mm_up o5.1 v0 5 (o5.1 v1 5)) v1 6), o5.2)
/-! ForgottenCrafts$Crafts.isForbidden(I)Z -/
def f0_isForbidden_17 (S : mm_Sh) (s0 : Int32) (I : mm_I) (J : mm_J) : Option (Int32) :=
  if mm_bit s0 = true then some s0 else none
def f0_isForbidden (S : mm_Sh) (v0 : Nat) (v1 : Int32) (I : mm_I) (J : mm_J) : Option (Int32) :=
  (f6_at S (mm_rf S v0 0) v1 I J).bind fun o1 => if o1 = 3 then (f0_isForbidden_17 S 1 I J) else (f0_isForbidden_17 S 0 I J)
/-! ForgottenCrafts$Crafts.likeOf(II)I -/
def f0_likeOf (S : mm_Sh) (v0 : Nat) (v1 : Int32) (v2 : Int32) (I : mm_I) (J : mm_J) : Option (Int32) :=
  (f10_cell S v1 v2 I J).bind fun o1 => (f6_at S (mm_rf S v0 4) o1 I J).bind fun o2 => some o2
/-! ForgottenCrafts.isKnownPair(II)Z -/
def f10_isKnownPair_27 (S : mm_Sh) (s0 : Int32) (I : mm_I) (J : mm_J) : Option (Int32) :=
  if mm_bit s0 = true then some s0 else none
def f10_isKnownPair_26 (S : mm_Sh)  (I : mm_I) (J : mm_J) : Option (Int32) :=
  f10_isKnownPair_27 S 0 I J
def f10_isKnownPair (S : mm_Sh) (v0 : Nat) (v1 : Int32) (v2 : Int32) (I : mm_I) (J : mm_J) : Option (Int32) :=
  (f0_hasPerson S (mm_rf S v0 1) v1 I J).bind fun o1 => if o1 = 0 then (f10_isKnownPair_26 S I J) else ((f0_hasTrade S (mm_rf S v0 1) v2 I J).bind fun o3 => if o3 = 0 then (f10_isKnownPair_26 S I J) else (f10_isKnownPair_27 S 1 I J))
/-! ForgottenCrafts.leastOf(I)I -/
def f10_leastOf_2_b (S : mm_Sh) (n : Nat) (rec2 : Int32 → Int32 → mm_I → mm_J → Option (Int32)) (v0 : Int32) (v1 : Int32) (I : mm_I) (J : mm_J) : Option (Int32) :=
  if 8 ≤ v1 then (some (-1)) else ((f10_has S v0 v1 I J).bind fun o2 => if o2 = 0 then (rec2 v0 (v1 + 1) I J) else (some v1))
def f10_leastOf_2 (S : mm_Sh) (n : Nat) : Nat → Int32 → Int32 → mm_I → mm_J → Option (Int32)
  | 0 => fun _ _ _ _ => none
  | k + 1 => f10_leastOf_2_b S n (f10_leastOf_2 S n k)
def f10_leastOf (S : mm_Sh) (n : Nat) (v0 : Int32) (I : mm_I) (J : mm_J) : Option (Int32) :=
  f10_leastOf_2 S n n v0 0 I J
/-! ForgottenCrafts.tear()I -/
def f10_tear (S : mm_Sh) (v0 : Nat) (I : mm_I) (J : mm_J) : Option (Int32 × mm_I × mm_J) :=
  (f8_clear S (mm_rf S v0 13) I J).bind fun o1 => some ((I (mm_rf S v0 13) 6) + (I (mm_rf S v0 13) 7), o1.1, o1.2)
/-! ForgottenCrafts.want(II)I -/
def f10_want (S : mm_Sh) (v0 : Nat) (v1 : Int32) (v2 : Int32) (I : mm_I) (J : mm_J) : Option (Int32 × mm_I × mm_J) :=
  (f0_hasTrade S (mm_rf S v0 1) v1 I J).bind fun o1 => if o1 = 0 then (some ((-1000000001), I, J)) else ((f10_within S v2 0 8 I J).bind fun o3 => if o3 = 0 then (some ((-1000000002), I, J)) else ((f6_at S (mm_rf S v0 12) v1 I J).bind fun o5 => (f6_put S (mm_rf S v0 12) v1 v2 I J).bind fun o6 => some (o5, o6.1, o6.2)))
/-! ForgottenCraftsModel.bestOf(I)I -/
def f11_bestOf_55 (S : mm_Sh) (n : Nat) (rec4 : Nat → Int32 → Int32 → Int32 → mm_I → mm_J → Option (Int32)) (v0 : Nat) (v1 : Int32) (v3 : Int32) (s0 : Int32) (I : mm_I) (J : mm_J) : Option (Int32) :=
  rec4 v0 v1 s0 (v3 + 1) I J
def f11_bestOf_50 (S : mm_Sh) (n : Nat) (rec4 : Nat → Int32 → Int32 → Int32 → mm_I → mm_J → Option (Int32)) (v0 : Nat) (v1 : Int32) (v3 : Int32) (I : mm_I) (J : mm_J) : Option (Int32) :=
  f11_bestOf_55 S n rec4 v0 v1 v3 v3 I J
def f11_bestOf_54 (S : mm_Sh) (n : Nat) (rec4 : Nat → Int32 → Int32 → Int32 → mm_I → mm_J → Option (Int32)) (v0 : Nat) (v1 : Int32) (v2 : Int32) (v3 : Int32) (I : mm_I) (J : mm_J) : Option (Int32) :=
  f11_bestOf_55 S n rec4 v0 v1 v3 v2 I J
def f11_bestOf_4_b (S : mm_Sh) (n : Nat) (rec4 : Nat → Int32 → Int32 → Int32 → mm_I → mm_J → Option (Int32)) (v0 : Nat) (v1 : Int32) (v2 : Int32) (v3 : Int32) (I : mm_I) (J : mm_J) : Option (Int32) :=
  if (I v0 0) ≤ v3 then (some v2) else ((f11_knows S v0 v1 v3 I J).bind fun o2 => if o2 = 0 then (f11_bestOf_54 S n rec4 v0 v1 v2 v3 I J) else (if v2 < 0 then (f11_bestOf_50 S n rec4 v0 v1 v3 I J) else (if mm_inb ((6 * v1) + v3) (mm_al S (mm_rf S v0 14)) = true then (if mm_inb ((6 * v1) + v2) (mm_al S (mm_rf S v0 14)) = true then (if (I (mm_rf S v0 14) ((6 * v1) + v3).toNatClampNeg) ≤ (I (mm_rf S v0 14) ((6 * v1) + v2).toNatClampNeg) then (f11_bestOf_54 S n rec4 v0 v1 v2 v3 I J) else (f11_bestOf_50 S n rec4 v0 v1 v3 I J)) else none) else none)))
def f11_bestOf_4 (S : mm_Sh) (n : Nat) : Nat → Nat → Int32 → Int32 → Int32 → mm_I → mm_J → Option (Int32)
  | 0 => fun _ _ _ _ _ _ => none
  | k + 1 => f11_bestOf_4_b S n (f11_bestOf_4 S n k)
def f11_bestOf (S : mm_Sh) (n : Nat) (v0 : Nat) (v1 : Int32) (I : mm_I) (J : mm_J) : Option (Int32) :=
  f11_bestOf_4 S n n v0 v1 (-1) 0 I J
/-! ForgottenCraftsModel.costOf(II)I -/
def f11_costOf_51 (S : mm_Sh) (s0 : Int32) (I : mm_I) (J : mm_J) : Option (Int32) :=
  some s0
def f11_costOf_99 (S : mm_Sh) (s0 : Int32) (I : mm_I) (J : mm_J) : Option (Int32) :=
  some s0
def f11_costOf_91 (S : mm_Sh)  (I : mm_I) (J : mm_J) : Option (Int32) :=
  f11_costOf_99 S 1000000 I J
def f11_costOf_97 (S : mm_Sh) (v4 : Int32) (I : mm_I) (J : mm_J) : Option (Int32) :=
  f11_costOf_99 S v4 I J
def f11_costOf (S : mm_Sh) (v0 : Nat) (v1 : Int32) (v2 : Int32) (I : mm_I) (J : mm_J) : Option (Int32) :=
  if mm_inb ((6 * v1) + v2) (mm_al S (mm_rf S v0 14)) = true then (if mm_inb ((4 * v2) + 1) (mm_al S (mm_rf S v0 1)) = true then (if (I (mm_rf S v0 14) ((6 * v1) + v2).toNatClampNeg) ≤ 0 then (if mm_inb ((4 * v2) + 3) (mm_al S (mm_rf S v0 1)) = true then (if mm_inb (4 * v2) (mm_al S (mm_rf S v0 1)) = true then (if (I (mm_rf S v0 1) (4 * v2).toNatClampNeg) = 3 then (f11_costOf_91 S I J) else (if (I (mm_rf S v0 1) ((4 * v2) + 3).toNatClampNeg) < 0 then (f11_costOf_97 S (I (mm_rf S v0 1) ((4 * v2) + 1).toNatClampNeg) I J) else ((f11_knows S v0 v1 (I (mm_rf S v0 1) ((4 * v2) + 3).toNatClampNeg) I J).bind fun o8 => if o8 = 0 then (f11_costOf_91 S I J) else (f11_costOf_97 S (I (mm_rf S v0 1) ((4 * v2) + 1).toNatClampNeg) I J)))) else none) else none) else (if (I (mm_rf S v0 14) ((6 * v1) + v2).toNatClampNeg) < 50 then (f11_costOf_51 S ((((I (mm_rf S v0 1) ((4 * v2) + 1).toNatClampNeg) * (100 - (I (mm_rf S v0 14) ((6 * v1) + v2).toNatClampNeg))) + 99) / 100) I J) else (f11_costOf_51 S 0 I J))) else none) else none
/-! ForgottenCraftsModel.deadSet()I -/
def f11_deadSet_29 (S : mm_Sh) (n : Nat) (rec4 : Nat → Int32 → Int32 → mm_I → mm_J → Option (Int32)) (v0 : Nat) (v2 : Int32) (s0 : Int32) (s1 : Int32) (I : mm_I) (J : mm_J) : Option (Int32) :=
  rec4 v0 (s0 ||| s1) (v2 + 1) I J
def f11_deadSet_4_b (S : mm_Sh) (n : Nat) (rec4 : Nat → Int32 → Int32 → mm_I → mm_J → Option (Int32)) (v0 : Nat) (v1 : Int32) (v2 : Int32) (I : mm_I) (J : mm_J) : Option (Int32) :=
  if (I v0 0) ≤ v2 then (some v1) else ((f11_knowers S n v0 v2 1 I J).bind fun o2 => if o2 = 0 then (f11_deadSet_29 S n rec4 v0 v2 v1 ((1 : Int32) <<< (v2 &&& 31)) I J) else (f11_deadSet_29 S n rec4 v0 v2 v1 0 I J))
def f11_deadSet_4 (S : mm_Sh) (n : Nat) : Nat → Nat → Int32 → Int32 → mm_I → mm_J → Option (Int32)
  | 0 => fun _ _ _ _ _ => none
  | k + 1 => f11_deadSet_4_b S n (f11_deadSet_4 S n k)
def f11_deadSet (S : mm_Sh) (n : Nat) (v0 : Nat) (I : mm_I) (J : mm_J) : Option (Int32) :=
  f11_deadSet_4 S n n v0 0 0 I J
/-! ForgottenCraftsModel.feed(IJ)I -/
def f11_feed_35_b (S : mm_Sh) (n : Nat) (rec35 : Nat → Int64 → Int32 → mm_I → mm_J → Option (Int32 × mm_I × mm_J)) (v0 : Nat) (v2 : Int64) (v4 : Int32) (I : mm_I) (J : mm_J) : Option (Int32 × mm_I × mm_J) :=
  if v4 < 0 then (some (I v0 27, I, J)) else (if mm_inb (I v0 27) (mm_al S (mm_rf S v0 26)) = true then (rec35 v0 v2 (v4 + (-1)) (mm_up (mm_up I (mm_rf S v0 26) (I v0 27).toNatClampNeg (((v2 >>> ((8 * v4).toInt64 &&& 63)) &&& 255).toInt32)) v0 27 (((mm_up I (mm_rf S v0 26) (I v0 27).toNatClampNeg (((v2 >>> ((8 * v4).toInt64 &&& 63)) &&& 255).toInt32)) v0 27) + 1)) J) else none)
def f11_feed_35 (S : mm_Sh) (n : Nat) : Nat → Nat → Int64 → Int32 → mm_I → mm_J → Option (Int32 × mm_I × mm_J)
  | 0 => fun _ _ _ _ _ => none
  | k + 1 => f11_feed_35_b S n (f11_feed_35 S n k)
def f11_feed (S : mm_Sh) (n : Nat) (v0 : Nat) (v1 : Int32) (v2 : Int64) (I : mm_I) (J : mm_J) : Option (Int32 × mm_I × mm_J) :=
  (f11_in S v1.toInt64 1 8 I J).bind fun o1 => if o1 = 0 then (some ((-1000000002), I, J)) else (if ((I v0 27) + v1) ≤ 500 then (f11_feed_35 S n n v0 v2 (v1 - 1) I J) else (some ((-1000000004), I, J)))
/-! ForgottenCraftsModel.findWitnesses(II)I -/
def f11_findWitnesses_88 (S : mm_Sh) (n : Nat) (rec5 : Nat → Int32 → Int32 → Int32 → Int32 → mm_I → mm_J → Option (Int32)) (v0 : Nat) (v1 : Int32) (v2 : Int32) (v4 : Int32) (s0 : Int32) (s1 : Int32) (I : mm_I) (J : mm_J) : Option (Int32) :=
  rec5 v0 v1 v2 (s0 ||| s1) (v4 + 1) I J
def f11_findWitnesses_72 (S : mm_Sh) (n : Nat) (rec5 : Nat → Int32 → Int32 → Int32 → Int32 → mm_I → mm_J → Option (Int32)) (v0 : Nat) (v1 : Int32) (v2 : Int32) (v3 : Int32) (v4 : Int32) (s0 : Int32) (I : mm_I) (J : mm_J) : Option (Int32) :=
  if s0 = 0 then (f11_findWitnesses_88 S n rec5 v0 v1 v2 v4 v3 0 I J) else (f11_findWitnesses_88 S n rec5 v0 v1 v2 v4 v3 ((1 : Int32) <<< (v4 &&& 31)) I J)
def f11_findWitnesses_71 (S : mm_Sh) (n : Nat) (rec5 : Nat → Int32 → Int32 → Int32 → Int32 → mm_I → mm_J → Option (Int32)) (v0 : Nat) (v1 : Int32) (v2 : Int32) (v3 : Int32) (v4 : Int32) (I : mm_I) (J : mm_J) : Option (Int32) :=
  f11_findWitnesses_72 S n rec5 v0 v1 v2 v3 v4 0 I J
def f11_findWitnesses_112 (S : mm_Sh) (n : Nat) (s0 : Int32) (I : mm_I) (J : mm_J) : Option (Int32) :=
  some s0
def f11_findWitnesses_96 (S : mm_Sh) (n : Nat) (v0 : Nat) (v3 : Int32) (I : mm_I) (J : mm_J) : Option (Int32) :=
  (f11_bits S n v3 I J).bind fun o1 => if (I v0 7) ≤ o1 then (f11_findWitnesses_112 S n v3 I J) else (f11_findWitnesses_112 S n (-1) I J)
def f11_findWitnesses_5_b (S : mm_Sh) (n : Nat) (rec5 : Nat → Int32 → Int32 → Int32 → Int32 → mm_I → mm_J → Option (Int32)) (v0 : Nat) (v1 : Int32) (v2 : Int32) (v3 : Int32) (v4 : Int32) (I : mm_I) (J : mm_J) : Option (Int32) :=
  if (I v0 2) ≤ v4 then (f11_findWitnesses_96 S n v0 v3 I J) else ((f11_bits S n v3 I J).bind fun o2 => if (I v0 7) ≤ o2 then (f11_findWitnesses_96 S n v0 v3 I J) else (if v4 = v1 then (f11_findWitnesses_71 S n rec5 v0 v1 v2 v3 v4 I J) else (if v4 = v2 then (f11_findWitnesses_71 S n rec5 v0 v1 v2 v3 v4 I J) else (if mm_inb v4 (mm_al S (mm_rf S v0 13)) = true then (if (I (mm_rf S v0 13) v4.toNatClampNeg) = 0 then (f11_findWitnesses_71 S n rec5 v0 v1 v2 v3 v4 I J) else (if mm_inb v4 (mm_al S (mm_rf S v0 17)) = true then (if 0 ≤ (I (mm_rf S v0 17) v4.toNatClampNeg) then (f11_findWitnesses_71 S n rec5 v0 v1 v2 v3 v4 I J) else (if mm_inb v4 (mm_al S (mm_rf S v0 21)) = true then (if (I (mm_rf S v0 21) v4.toNatClampNeg) = 0 then (f11_findWitnesses_72 S n rec5 v0 v1 v2 v3 v4 1 I J) else (f11_findWitnesses_71 S n rec5 v0 v1 v2 v3 v4 I J)) else none)) else none)) else none))))
def f11_findWitnesses_5 (S : mm_Sh) (n : Nat) : Nat → Nat → Int32 → Int32 → Int32 → Int32 → mm_I → mm_J → Option (Int32)
  | 0 => fun _ _ _ _ _ _ _ => none
  | k + 1 => f11_findWitnesses_5_b S n (f11_findWitnesses_5 S n k)
def f11_findWitnesses (S : mm_Sh) (n : Nat) (v0 : Nat) (v1 : Int32) (v2 : Int32) (I : mm_I) (J : mm_J) : Option (Int32) :=
  f11_findWitnesses_5 S n n v0 v1 v2 0 0 I J
/-! ForgottenCraftsModel.fits(II)I -/
def f11_fits_24 (S : mm_Sh) (n : Nat)  (I : mm_I) (J : mm_J) : Option (Int32) :=
  some (-1000000002)
def f11_fits_125 (S : mm_Sh) (n : Nat) (rec44 : Nat → Int32 → Int32 → Int32 → Int32 → Int32 → Int32 → Int32 → mm_I → mm_J → Option (Int32)) (rec82 : Nat → Int32 → Int32 → Int32 → Int32 → Int32 → Int32 → Int32 → Int32 → Int32 → mm_I → mm_J → Option (Int32)) (v0 : Nat) (v1 : Int32) (v2 : Int32) (v3 : Int32) (v4 : Int32) (v5 : Int32) (v6 : Int32) (v7 : Int32) (v9 : Int32) (s0 : Int32) (I : mm_I) (J : mm_J) : Option (Int32) :=
  rec82 v0 v1 v2 v3 v4 v5 v6 v7 s0 (v9 + 1) I J
def f11_fits_124 (S : mm_Sh) (n : Nat) (rec44 : Nat → Int32 → Int32 → Int32 → Int32 → Int32 → Int32 → Int32 → mm_I → mm_J → Option (Int32)) (rec82 : Nat → Int32 → Int32 → Int32 → Int32 → Int32 → Int32 → Int32 → Int32 → Int32 → mm_I → mm_J → Option (Int32)) (v0 : Nat) (v1 : Int32) (v2 : Int32) (v3 : Int32) (v4 : Int32) (v5 : Int32) (v6 : Int32) (v7 : Int32) (v9 : Int32) (I : mm_I) (J : mm_J) : Option (Int32) :=
  f11_fits_125 S n rec44 rec82 v0 v1 v2 v3 v4 v5 v6 v7 v9 0 I J
def f11_fits_164 (S : mm_Sh) (n : Nat) (rec44 : Nat → Int32 → Int32 → Int32 → Int32 → Int32 → Int32 → Int32 → mm_I → mm_J → Option (Int32)) (v0 : Nat) (v1 : Int32) (v2 : Int32) (v3 : Int32) (v4 : Int32) (v5 : Int32) (v6 : Int32) (v7 : Int32) (I : mm_I) (J : mm_J) : Option (Int32) :=
  rec44 v0 v1 v2 v3 v4 v5 v6 (v7 + 1) I J
def f11_fits_161 (S : mm_Sh) (n : Nat) (rec44 : Nat → Int32 → Int32 → Int32 → Int32 → Int32 → Int32 → Int32 → mm_I → mm_J → Option (Int32)) (v0 : Nat) (v1 : Int32) (v2 : Int32) (v3 : Int32) (v4 : Int32) (v5 : Int32) (v7 : Int32) (s0 : Int32) (s1 : Int32) (I : mm_I) (J : mm_J) : Option (Int32) :=
  f11_fits_164 S n rec44 v0 v1 v2 v3 v4 v5 (s0 &&& s1) v7 I J
def f11_fits_145 (S : mm_Sh) (n : Nat) (rec44 : Nat → Int32 → Int32 → Int32 → Int32 → Int32 → Int32 → Int32 → mm_I → mm_J → Option (Int32)) (v0 : Nat) (v1 : Int32) (v2 : Int32) (v3 : Int32) (v5 : Int32) (v6 : Int32) (v7 : Int32) (v8 : Int32) (s0 : Int32) (s1 : Int32) (I : mm_I) (J : mm_J) : Option (Int32) :=
  if v8 = 0 then (f11_fits_161 S n rec44 v0 v1 v2 v3 (s0 + s1) v5 v7 v6 (-1) I J) else (f11_fits_161 S n rec44 v0 v1 v2 v3 (s0 + s1) v5 v7 v6 v7 I J)
def f11_fits_82_b (S : mm_Sh) (n : Nat) (rec44 : Nat → Int32 → Int32 → Int32 → Int32 → Int32 → Int32 → Int32 → mm_I → mm_J → Option (Int32)) (rec82 : Nat → Int32 → Int32 → Int32 → Int32 → Int32 → Int32 → Int32 → Int32 → Int32 → mm_I → mm_J → Option (Int32)) (v0 : Nat) (v1 : Int32) (v2 : Int32) (v3 : Int32) (v4 : Int32) (v5 : Int32) (v6 : Int32) (v7 : Int32) (v8 : Int32) (v9 : Int32) (I : mm_I) (J : mm_J) : Option (Int32) :=
  if (I v0 48) ≤ v9 then (if v8 = 0 then (f11_fits_145 S n rec44 v0 v1 v2 v3 v5 v6 v7 v8 v4 0 I J) else (f11_fits_145 S n rec44 v0 v1 v2 v3 v5 v6 v7 v8 v4 1 I J)) else (if v8 = 0 then (f11_fits_124 S n rec44 rec82 v0 v1 v2 v3 v4 v5 v6 v7 v9 I J) else (if mm_inb v9 (mm_al S (mm_rf S v0 49)) = true then (if mm_inb v9 (mm_al S (mm_rf S v0 50)) = true then ((f11_knowers S n v0 (I (mm_rf S v0 49) v9.toNatClampNeg) (I (mm_rf S v0 50) v9.toNatClampNeg) I J).bind fun o6 => if (v7 &&& o6) = 0 then (f11_fits_124 S n rec44 rec82 v0 v1 v2 v3 v4 v5 v6 v7 v9 I J) else (f11_fits_125 S n rec44 rec82 v0 v1 v2 v3 v4 v5 v6 v7 v9 1 I J)) else none) else none))
def f11_fits_82 (S : mm_Sh) (n : Nat) (rec44 : Nat → Int32 → Int32 → Int32 → Int32 → Int32 → Int32 → Int32 → mm_I → mm_J → Option (Int32)) : Nat → Nat → Int32 → Int32 → Int32 → Int32 → Int32 → Int32 → Int32 → Int32 → Int32 → mm_I → mm_J → Option (Int32)
  | 0 => fun _ _ _ _ _ _ _ _ _ _ _ _ => none
  | k + 1 => f11_fits_82_b S n rec44 (f11_fits_82 S n rec44 k)
def f11_fits_216 (S : mm_Sh) (n : Nat) (s0 : Int32) (I : mm_I) (J : mm_J) : Option (Int32) :=
  some s0
def f11_fits_44_b (S : mm_Sh) (n : Nat) (rec44 : Nat → Int32 → Int32 → Int32 → Int32 → Int32 → Int32 → Int32 → mm_I → mm_J → Option (Int32)) (v0 : Nat) (v1 : Int32) (v2 : Int32) (v3 : Int32) (v4 : Int32) (v5 : Int32) (v6 : Int32) (v7 : Int32) (I : mm_I) (J : mm_J) : Option (Int32) :=
  if ((1 : Int32) <<< ((I v0 2) &&& 31)) ≤ v7 then (if v2 = 0 then (f11_fits_216 S n v4 I J) else (if v2 = 1 then (if v4 = 0 then (f11_fits_216 S n (-1) I J) else (f11_fits_216 S n v6 I J)) else (if v5 = 0 then (f11_fits_216 S n 0 I J) else (if v5 = 0 then none else (f11_fits_216 S n ((1000000 * v4) / v5) I J))))) else ((f11_bits S n v7 I J).bind fun o7 => if o7 = v1 then (if (v7 &&& (v3 ^^^ (-1))) = 0 then (f11_fits_82 S n rec44 n v0 v1 v2 v3 v4 (v5 + 1) v6 v7 1 0 I J) else (f11_fits_164 S n rec44 v0 v1 v2 v3 v4 v5 v6 v7 I J)) else (f11_fits_164 S n rec44 v0 v1 v2 v3 v4 v5 v6 v7 I J))
def f11_fits_44 (S : mm_Sh) (n : Nat) : Nat → Nat → Int32 → Int32 → Int32 → Int32 → Int32 → Int32 → Int32 → mm_I → mm_J → Option (Int32)
  | 0 => fun _ _ _ _ _ _ _ _ _ _ => none
  | k + 1 => f11_fits_44_b S n (f11_fits_44 S n k)
def f11_fits (S : mm_Sh) (n : Nat) (v0 : Nat) (v1 : Int32) (v2 : Int32) (I : mm_I) (J : mm_J) : Option (Int32) :=
  (f11_in S v1.toInt64 0 8 I J).bind fun o1 => if o1 = 0 then (f11_fits_24 S n I J) else ((f11_in S v2.toInt64 0 2 I J).bind fun o3 => if o3 = 0 then (f11_fits_24 S n I J) else ((f11_livesSet S n v0 I J).bind fun o5 => f11_fits_44 S n n v0 v1 v2 o5 0 0 o5 0 I J))
/-! ForgottenCraftsModel.goBack(I)I -/
def f11_goBack (S : mm_Sh) (n : Nat) (v0 : Nat) (v1 : Int32) (I : mm_I) (J : mm_J) : Option (Int32 × mm_I × mm_J) :=
  (f11_in S v1.toInt64 0 1 I J).bind fun o1 => if o1 = 0 then (some ((-1000000001), I, J)) else (if mm_inb v1 (mm_al S (mm_rf S v0 56)) = true then (if (I (mm_rf S v0 56) v1.toNatClampNeg) = 0 then (some ((-1000000003), I, J)) else ((f11_load S n v0 v1 I J).bind fun o5 => some (1, o5.1, o5.2))) else none)
/-! ForgottenCraftsModel.isDrift(II)Z -/
def f11_isDrift_29 (S : mm_Sh) (s0 : Int32) (I : mm_I) (J : mm_J) : Option (Int32) :=
  if mm_bit s0 = true then some s0 else none
def f11_isDrift_28 (S : mm_Sh)  (I : mm_I) (J : mm_J) : Option (Int32) :=
  f11_isDrift_29 S 0 I J
def f11_isDrift (S : mm_Sh) (v0 : Int32) (v1 : Int32) (I : mm_I) (J : mm_J) : Option (Int32) :=
  (f11_in S v0.toInt64 1 90 I J).bind fun o1 => if o1 = 0 then (f11_isDrift_28 S I J) else ((f11_in S v1.toInt64 0 100 I J).bind fun o3 => if o3 = 0 then (f11_isDrift_28 S I J) else (f11_isDrift_29 S 1 I J))
/-! ForgottenCraftsModel.isPerson(I)Z -/
def f11_isPerson (S : mm_Sh) (v0 : Nat) (v1 : Int32) (I : mm_I) (J : mm_J) : Option (Int32) :=
  (f11_in S v1.toInt64 0 (((I v0 2) - 1).toInt64) I J).bind fun o1 => if mm_bit o1 = true then some o1 else none
/-! ForgottenCraftsModel.isRing(II)Z -/
def f11_isRing_116 (S : mm_Sh) (n : Nat) (rec70 : Nat → Int32 → Int32 → Int32 → mm_I → mm_J → Option (Int32 × mm_I × mm_J)) (v0 : Nat) (v2 : Int32) (v6 : Int32) (s0 : Int32) (I : mm_I) (J : mm_J) : Option (Int32 × mm_I × mm_J) :=
  rec70 v0 v2 s0 (v6 + 1) I J
def f11_isRing_115 (S : mm_Sh) (n : Nat) (rec70 : Nat → Int32 → Int32 → Int32 → mm_I → mm_J → Option (Int32 × mm_I × mm_J)) (v0 : Nat) (v2 : Int32) (v6 : Int32) (I : mm_I) (J : mm_J) : Option (Int32 × mm_I × mm_J) :=
  f11_isRing_116 S n rec70 v0 v2 v6 0 I J
def f11_isRing_70_b (S : mm_Sh) (n : Nat) (rec70 : Nat → Int32 → Int32 → Int32 → mm_I → mm_J → Option (Int32 × mm_I × mm_J)) (v0 : Nat) (v2 : Int32) (v5 : Int32) (v6 : Int32) (I : mm_I) (J : mm_J) : Option (Int32 × mm_I × mm_J) :=
  if v2 ≤ v6 then (if mm_bit v5 = true then some (v5, I, J) else none) else (if v5 = 0 then (f11_isRing_115 S n rec70 v0 v2 v6 I J) else (if mm_inb v6 (mm_al S (mm_rf S v0 45)) = true then (if (I v0 2) ≤ (I (mm_rf S v0 45) v6.toNatClampNeg) then (f11_isRing_115 S n rec70 v0 v2 v6 I J) else (if mm_inb 0 (mm_al S (mm_rf S v0 45)) = true then (if mm_inb v6 (mm_al S (mm_rf S v0 45)) = true then (if (I (mm_rf S v0 45) v6.toNatClampNeg) < (I (mm_rf S v0 45) (0 : Int32).toNatClampNeg) then (f11_isRing_115 S n rec70 v0 v2 v6 I J) else (f11_isRing_116 S n rec70 v0 v2 v6 1 I J)) else none) else none)) else none))
def f11_isRing_70 (S : mm_Sh) (n : Nat) : Nat → Nat → Int32 → Int32 → Int32 → mm_I → mm_J → Option (Int32 × mm_I × mm_J)
  | 0 => fun _ _ _ _ _ _ => none
  | k + 1 => f11_isRing_70_b S n (f11_isRing_70 S n k)
def f11_isRing_65 (S : mm_Sh) (n : Nat) (v0 : Nat) (v2 : Int32) (s0 : Int32) (I : mm_I) (J : mm_J) : Option (Int32 × mm_I × mm_J) :=
  f11_isRing_70 S n n v0 v2 s0 0 I J
def f11_isRing_10_b (S : mm_Sh) (n : Nat) (rec10 : Nat → Int32 → Int32 → Int32 → Int32 → mm_I → mm_J → Option (Int32 × mm_I × mm_J)) (v0 : Nat) (v2 : Int32) (v3 : Int32) (v4 : Int32) (v5 : Int32) (I : mm_I) (J : mm_J) : Option (Int32 × mm_I × mm_J) :=
  if v5 < 0 then ((f11_bits S n v4 I J).bind fun o2 => if o2 = v2 then (f11_isRing_65 S n v0 v2 1 I J) else (f11_isRing_65 S n v0 v2 0 I J)) else (if mm_inb v5 (mm_al S (mm_rf S v0 45)) = true then (if mm_inb v5 (mm_al S (mm_rf S v0 45)) = true then (rec10 v0 v2 (v3 / 8) (v4 ||| ((1 : Int32) <<< (((mm_up I (mm_rf S v0 45) v5.toNatClampNeg (v3 - v3 / 8 * 8)) (mm_rf S v0 45) v5.toNatClampNeg) &&& 31))) (v5 + (-1)) (mm_up I (mm_rf S v0 45) v5.toNatClampNeg (v3 - v3 / 8 * 8)) J) else none) else none)
def f11_isRing_10 (S : mm_Sh) (n : Nat) : Nat → Nat → Int32 → Int32 → Int32 → Int32 → mm_I → mm_J → Option (Int32 × mm_I × mm_J)
  | 0 => fun _ _ _ _ _ _ _ => none
  | k + 1 => f11_isRing_10_b S n (f11_isRing_10 S n k)
def f11_isRing (S : mm_Sh) (n : Nat) (v0 : Nat) (v1 : Int32) (v2 : Int32) (I : mm_I) (J : mm_J) : Option (Int32 × mm_I × mm_J) :=
  f11_isRing_10 S n n v0 v2 v1 0 (v2 - 1) I J
/-! ForgottenCraftsModel.isTrade(I)Z -/
def f11_isTrade (S : mm_Sh) (v0 : Nat) (v1 : Int32) (I : mm_I) (J : mm_J) : Option (Int32) :=
  (f11_in S v1.toInt64 0 (((I v0 0) - 1).toInt64) I J).bind fun o1 => if mm_bit o1 = true then some o1 else none
/-! ForgottenCraftsModel.keep(I)I -/
def f11_keep (S : mm_Sh) (n : Nat) (v0 : Nat) (v1 : Int32) (I : mm_I) (J : mm_J) : Option (Int32 × mm_I × mm_J) :=
  (f11_in S v1.toInt64 0 1 I J).bind fun o1 => if o1 = 0 then (some ((-1000000001), I, J)) else ((f11_save S n v0 v1 I J).bind fun o3 => if mm_inb v1 (mm_al S (mm_rf S v0 56)) = true then (some (1, mm_up o3.1 (mm_rf S v0 56) v1.toNatClampNeg 1, o3.2)) else none)
/-! ForgottenCraftsModel.knownMany(I)I -/
def f11_knownMany_27 (S : mm_Sh) (n : Nat) (rec4 : Nat → Int32 → Int32 → Int32 → mm_I → mm_J → Option (Int32)) (v0 : Nat) (v1 : Int32) (v3 : Int32) (s0 : Int32) (s1 : Int32) (I : mm_I) (J : mm_J) : Option (Int32) :=
  rec4 v0 v1 (s0 + s1) (v3 + 1) I J
def f11_knownMany_4_b (S : mm_Sh) (n : Nat) (rec4 : Nat → Int32 → Int32 → Int32 → mm_I → mm_J → Option (Int32)) (v0 : Nat) (v1 : Int32) (v2 : Int32) (v3 : Int32) (I : mm_I) (J : mm_J) : Option (Int32) :=
  if (I v0 0) ≤ v3 then (some v2) else ((f11_knows S v0 v1 v3 I J).bind fun o2 => if o2 = 0 then (f11_knownMany_27 S n rec4 v0 v1 v3 v2 0 I J) else (f11_knownMany_27 S n rec4 v0 v1 v3 v2 1 I J))
def f11_knownMany_4 (S : mm_Sh) (n : Nat) : Nat → Nat → Int32 → Int32 → Int32 → mm_I → mm_J → Option (Int32)
  | 0 => fun _ _ _ _ _ _ => none
  | k + 1 => f11_knownMany_4_b S n (f11_knownMany_4 S n k)
def f11_knownMany (S : mm_Sh) (n : Nat) (v0 : Nat) (v1 : Int32) (I : mm_I) (J : mm_J) : Option (Int32) :=
  f11_knownMany_4 S n n v0 v1 0 0 I J
/-! ForgottenCraftsModel.knownSet(I)I -/
def f11_knownSet_29 (S : mm_Sh) (n : Nat) (rec4 : Nat → Int32 → Int32 → Int32 → mm_I → mm_J → Option (Int32)) (v0 : Nat) (v1 : Int32) (v3 : Int32) (s0 : Int32) (s1 : Int32) (I : mm_I) (J : mm_J) : Option (Int32) :=
  rec4 v0 v1 (s0 ||| s1) (v3 + 1) I J
def f11_knownSet_4_b (S : mm_Sh) (n : Nat) (rec4 : Nat → Int32 → Int32 → Int32 → mm_I → mm_J → Option (Int32)) (v0 : Nat) (v1 : Int32) (v2 : Int32) (v3 : Int32) (I : mm_I) (J : mm_J) : Option (Int32) :=
  if (I v0 0) ≤ v3 then (some v2) else ((f11_knows S v0 v1 v3 I J).bind fun o2 => if o2 = 0 then (f11_knownSet_29 S n rec4 v0 v1 v3 v2 0 I J) else (f11_knownSet_29 S n rec4 v0 v1 v3 v2 ((1 : Int32) <<< (v3 &&& 31)) I J))
def f11_knownSet_4 (S : mm_Sh) (n : Nat) : Nat → Nat → Int32 → Int32 → Int32 → mm_I → mm_J → Option (Int32)
  | 0 => fun _ _ _ _ _ _ => none
  | k + 1 => f11_knownSet_4_b S n (f11_knownSet_4 S n k)
def f11_knownSet (S : mm_Sh) (n : Nat) (v0 : Nat) (v1 : Int32) (I : mm_I) (J : mm_J) : Option (Int32) :=
  f11_knownSet_4 S n n v0 v1 0 0 I J
/-! ForgottenCraftsModel.leastLiked(I)I -/
def f11_leastLiked_55 (S : mm_Sh) (n : Nat) (rec4 : Nat → Int32 → Int32 → Int32 → mm_I → mm_J → Option (Int32)) (v0 : Nat) (v1 : Int32) (v3 : Int32) (s0 : Int32) (I : mm_I) (J : mm_J) : Option (Int32) :=
  rec4 v0 v1 s0 (v3 + 1) I J
def f11_leastLiked_50 (S : mm_Sh) (n : Nat) (rec4 : Nat → Int32 → Int32 → Int32 → mm_I → mm_J → Option (Int32)) (v0 : Nat) (v1 : Int32) (v3 : Int32) (I : mm_I) (J : mm_J) : Option (Int32) :=
  f11_leastLiked_55 S n rec4 v0 v1 v3 v3 I J
def f11_leastLiked_54 (S : mm_Sh) (n : Nat) (rec4 : Nat → Int32 → Int32 → Int32 → mm_I → mm_J → Option (Int32)) (v0 : Nat) (v1 : Int32) (v2 : Int32) (v3 : Int32) (I : mm_I) (J : mm_J) : Option (Int32) :=
  f11_leastLiked_55 S n rec4 v0 v1 v3 v2 I J
def f11_leastLiked_4_b (S : mm_Sh) (n : Nat) (rec4 : Nat → Int32 → Int32 → Int32 → mm_I → mm_J → Option (Int32)) (v0 : Nat) (v1 : Int32) (v2 : Int32) (v3 : Int32) (I : mm_I) (J : mm_J) : Option (Int32) :=
  if (I v0 0) ≤ v3 then (some v2) else ((f11_knows S v0 v1 v3 I J).bind fun o2 => if o2 = 0 then (f11_leastLiked_54 S n rec4 v0 v1 v2 v3 I J) else (if v2 < 0 then (f11_leastLiked_50 S n rec4 v0 v1 v3 I J) else (if mm_inb ((6 * v1) + v3) (mm_al S (mm_rf S v0 5)) = true then (if mm_inb ((6 * v1) + v2) (mm_al S (mm_rf S v0 5)) = true then (if (I (mm_rf S v0 5) ((6 * v1) + v2).toNatClampNeg) ≤ (I (mm_rf S v0 5) ((6 * v1) + v3).toNatClampNeg) then (f11_leastLiked_54 S n rec4 v0 v1 v2 v3 I J) else (f11_leastLiked_50 S n rec4 v0 v1 v3 I J)) else none) else none)))
def f11_leastLiked_4 (S : mm_Sh) (n : Nat) : Nat → Nat → Int32 → Int32 → Int32 → mm_I → mm_J → Option (Int32)
  | 0 => fun _ _ _ _ _ _ => none
  | k + 1 => f11_leastLiked_4_b S n (f11_leastLiked_4 S n k)
def f11_leastLiked (S : mm_Sh) (n : Nat) (v0 : Nat) (v1 : Int32) (I : mm_I) (J : mm_J) : Option (Int32) :=
  f11_leastLiked_4 S n n v0 v1 (-1) 0 I J
/-! ForgottenCraftsModel.makers(I)I -/
def f11_makers_38 (S : mm_Sh) (n : Nat) (s0 : Int32) (I : mm_I) (J : mm_J) : Option (Int32) :=
  some s0
def f11_makers (S : mm_Sh) (n : Nat) (v0 : Nat) (v1 : Int32) (I : mm_I) (J : mm_J) : Option (Int32) :=
  (f11_in S v1.toInt64 0 (((I v0 48) - 1).toInt64) I J).bind fun o1 => if o1 = 0 then (f11_makers_38 S n (-1000000001) I J) else (if mm_inb v1 (mm_al S (mm_rf S v0 49)) = true then (if mm_inb v1 (mm_al S (mm_rf S v0 50)) = true then ((f11_knowers S n v0 (I (mm_rf S v0 49) v1.toNatClampNeg) (I (mm_rf S v0 50) v1.toNatClampNeg) I J).bind fun o5 => f11_makers_38 S n o5 I J) else none) else none)
/-! ForgottenCraftsModel.mayLearn(II)Z -/
def f11_mayLearn_80 (S : mm_Sh) (s0 : Int32) (I : mm_I) (J : mm_J) : Option (Int32) :=
  if mm_bit s0 = true then some s0 else none
def f11_mayLearn_79 (S : mm_Sh)  (I : mm_I) (J : mm_J) : Option (Int32) :=
  f11_mayLearn_80 S 0 I J
def f11_mayLearn_29 (S : mm_Sh) (v0 : Nat) (v1 : Int32) (v2 : Int32) (s0 : Int32) (I : mm_I) (J : mm_J) : Option (Int32) :=
  if mm_inb v1 (mm_al S (mm_rf S v0 13)) = true then (if (I (mm_rf S v0 13) v1.toNatClampNeg) = 0 then (f11_mayLearn_79 S I J) else (if mm_inb v1 (mm_al S (mm_rf S v0 17)) = true then (if 0 ≤ (I (mm_rf S v0 17) v1.toNatClampNeg) then (f11_mayLearn_79 S I J) else ((f11_knows S v0 v1 v2 I J).bind fun o5 => if o5 = 0 then (if mm_inb (4 * v2) (mm_al S (mm_rf S v0 1)) = true then (if (I (mm_rf S v0 1) (4 * v2).toNatClampNeg) = 3 then (f11_mayLearn_79 S I J) else (if s0 = 0 then (f11_mayLearn_79 S I J) else (f11_mayLearn_80 S 1 I J))) else none) else (f11_mayLearn_79 S I J))) else none)) else none
def f11_mayLearn_24 (S : mm_Sh) (v0 : Nat) (v1 : Int32) (v2 : Int32) (I : mm_I) (J : mm_J) : Option (Int32) :=
  f11_mayLearn_29 S v0 v1 v2 1 I J
def f11_mayLearn (S : mm_Sh) (v0 : Nat) (v1 : Int32) (v2 : Int32) (I : mm_I) (J : mm_J) : Option (Int32) :=
  if mm_inb ((4 * v2) + 3) (mm_al S (mm_rf S v0 1)) = true then (if (I (mm_rf S v0 1) ((4 * v2) + 3).toNatClampNeg) < 0 then (f11_mayLearn_24 S v0 v1 v2 I J) else ((f11_knows S v0 v1 (I (mm_rf S v0 1) ((4 * v2) + 3).toNatClampNeg) I J).bind fun o3 => if o3 = 0 then (f11_mayLearn_29 S v0 v1 v2 0 I J) else (f11_mayLearn_24 S v0 v1 v2 I J))) else none
/-! ForgottenCraftsModel.readWord()V -/
def f11_readWord_92 (S : mm_Sh) (n : Nat) (rec18 : Nat → mm_I → mm_J → Option (mm_I × mm_J)) (v0 : Nat) (s0 : Nat) (s1 : Int64) (I : mm_I) (J : mm_J) : Option (mm_I × mm_J) :=
  rec18 v0 (mm_up I v0 31 ((I v0 31) + 1)) (mm_upJ J s0 30 s1)
def f11_readWord_108 (S : mm_Sh) (n : Nat)  (I : mm_I) (J : mm_J) : Option (mm_I × mm_J) :=
  some (I, J)
def f11_readWord_18_b (S : mm_Sh) (n : Nat) (rec18 : Nat → mm_I → mm_J → Option (mm_I × mm_J)) (v0 : Nat) (I : mm_I) (J : mm_J) : Option (mm_I × mm_J) :=
  if (I v0 27) ≤ (I v0 31) then (f11_readWord_108 S n I J) else (if mm_inb (I v0 31) (mm_al S (mm_rf S v0 26)) = true then ((f11_in S ((I (mm_rf S v0 26) (I v0 31).toNatClampNeg).toInt64) 97 122 I J).bind fun o3 => if o3 = 0 then (f11_readWord_108 S n I J) else (if (lg_cmp (J v0 30) 100000000000000) ≤ 0 then (if mm_inb (I v0 31) (mm_al S (mm_rf S v0 26)) = true then (f11_readWord_92 S n rec18 v0 v0 (((27 * (J v0 30)) + ((I (mm_rf S v0 26) (I v0 31).toNatClampNeg).toInt64)) - 96) I J) else none) else (f11_readWord_92 S n rec18 v0 v0 200000000000000 I J))) else none)
def f11_readWord_18 (S : mm_Sh) (n : Nat) : Nat → Nat → mm_I → mm_J → Option (mm_I × mm_J)
  | 0 => fun _ _ _ => none
  | k + 1 => f11_readWord_18_b S n (f11_readWord_18 S n k)
def f11_readWord (S : mm_Sh) (n : Nat) (v0 : Nat) (I : mm_I) (J : mm_J) : Option (mm_I × mm_J) :=
  (f11_here S n v0 I J).bind fun o1 => f11_readWord_18 S n n v0 (mm_up o1.2.1 v0 31 (o1.2.1 v0 29)) (mm_upJ o1.2.2 v0 30 0)
/-! ForgottenCraftsModel.takeNumber(II)I -/
def f11_takeNumber_113 (S : mm_Sh) (n : Nat) (rec42 : Nat → Int32 → Int32 → mm_I → mm_J → Option (Int32 × mm_I × mm_J)) (v0 : Nat) (v1 : Int32) (v2 : Int32) (s0 : Nat) (s1 : Int32) (I : mm_I) (J : mm_J) : Option (Int32 × mm_I × mm_J) :=
  rec42 v0 v1 v2 (mm_up (mm_up I s0 32 s1) v0 29 (((mm_up I s0 32 s1) v0 29) + 1)) J
def f11_takeNumber_170 (S : mm_Sh) (n : Nat) (s0 : Int32) (I : mm_I) (J : mm_J) : Option (Int32 × mm_I × mm_J) :=
  some (s0, I, J)
def f11_takeNumber_157 (S : mm_Sh) (n : Nat) (v0 : Nat) (I : mm_I) (J : mm_J) : Option (Int32 × mm_I × mm_J) :=
  (f11_fails S v0 2 (I v0 33) I J).bind fun o1 => f11_takeNumber_170 S n o1.1 o1.2.1 o1.2.2
def f11_takeNumber_129 (S : mm_Sh) (n : Nat) (v0 : Nat) (v1 : Int32) (v2 : Int32) (I : mm_I) (J : mm_J) : Option (Int32 × mm_I × mm_J) :=
  if 3 < ((I v0 29) - (I v0 33)) then (f11_takeNumber_157 S n v0 I J) else ((f11_in S ((I v0 32).toInt64) v1.toInt64 v2.toInt64 I J).bind fun o2 => if o2 = 0 then (f11_takeNumber_157 S n v0 I J) else (f11_takeNumber_170 S n 0 I J))
def f11_takeNumber_42_b (S : mm_Sh) (n : Nat) (rec42 : Nat → Int32 → Int32 → mm_I → mm_J → Option (Int32 × mm_I × mm_J)) (v0 : Nat) (v1 : Int32) (v2 : Int32) (I : mm_I) (J : mm_J) : Option (Int32 × mm_I × mm_J) :=
  if (I v0 27) ≤ (I v0 29) then (f11_takeNumber_129 S n v0 v1 v2 I J) else (if mm_inb (I v0 29) (mm_al S (mm_rf S v0 26)) = true then ((f11_in S ((I (mm_rf S v0 26) (I v0 29).toNatClampNeg).toInt64) 48 57 I J).bind fun o3 => if o3 = 0 then (f11_takeNumber_129 S n v0 v1 v2 I J) else (if (I v0 32) ≤ 10000 then (if mm_inb (I v0 29) (mm_al S (mm_rf S v0 26)) = true then (f11_takeNumber_113 S n rec42 v0 v1 v2 v0 (((10 * (I v0 32)) + (I (mm_rf S v0 26) (I v0 29).toNatClampNeg)) - 48) I J) else none) else (f11_takeNumber_113 S n rec42 v0 v1 v2 v0 (I v0 32) I J))) else none)
def f11_takeNumber_42 (S : mm_Sh) (n : Nat) : Nat → Nat → Int32 → Int32 → mm_I → mm_J → Option (Int32 × mm_I × mm_J)
  | 0 => fun _ _ _ _ _ => none
  | k + 1 => f11_takeNumber_42_b S n (f11_takeNumber_42 S n k)
def f11_takeNumber (S : mm_Sh) (n : Nat) (v0 : Nat) (v1 : Int32) (v2 : Int32) (I : mm_I) (J : mm_J) : Option (Int32 × mm_I × mm_J) :=
  (f11_here S n v0 I J).bind fun o1 => (f11_in S o1.1.toInt64 48 57 o1.2.1 o1.2.2).bind fun o2 => if o2 = 0 then ((f11_fails S v0 1 (o1.2.1 v0 29) o1.2.1 o1.2.2).bind fun o4 => some (o4.1, o4.2.1, o4.2.2)) else (f11_takeNumber_42 S n n v0 v1 v2 (mm_up (mm_up o1.2.1 v0 33 (o1.2.1 v0 29)) v0 32 0) o1.2.2)
/-! ForgottenCraftsModel.takeStop()I -/
def f11_takeStop (S : mm_Sh) (n : Nat) (v0 : Nat) (I : mm_I) (J : mm_J) : Option (Int32 × mm_I × mm_J) :=
  (f11_here S n v0 I J).bind fun o1 => if o1.1 = 59 then (some (0, mm_up o1.2.1 v0 29 ((o1.2.1 v0 29) + 1), o1.2.2)) else ((f11_fails S v0 1 (o1.2.1 v0 29) o1.2.1 o1.2.2).bind fun o3 => some (o3.1, o3.2.1, o3.2.2))
/-! ForgottenCrafts$Folk.copyFrom(LForgottenCrafts$Folk;)V -/
def f1_copyFrom (S : mm_Sh) (n : Nat) (v0 : Nat) (v1 : Nat) (I : mm_I) (J : mm_J) : Option (mm_I × mm_J) :=
  (f6_copyFrom S n (mm_rf S v0 0) (mm_rf S v1 0) I J).bind fun o1 => (f6_copyFrom S n (mm_rf S v0 1) (mm_rf S v1 1) o1.1 o1.2).bind fun o2 => (f6_copyFrom S n (mm_rf S v0 2) (mm_rf S v1 2) o2.1 o2.2).bind fun o3 => (f6_copyFrom S n (mm_rf S v0 3) (mm_rf S v1 3) o3.1 o3.2).bind fun o4 => (f6_copyFrom S n (mm_rf S v0 4) (mm_rf S v1 4) o4.1 o4.2).bind fun o5 => (f6_copyFrom S n (mm_rf S v0 5) (mm_rf S v1 5) o5.1 o5.2).bind fun o6 => (f6_copyFrom S n (mm_rf S v0 6) (mm_rf S v1 6) o6.1 o6.2).bind fun o7 => (f6_copyFrom S n (mm_rf S v0 7) (mm_rf S v1 7) o7.1 o7.2).bind fun o8 => some (mm_up (mm_up (mm_up (mm_up (mm_up o8.1 v0 8 (o8.1 v1 8)) v0 9 ((mm_up o8.1 v0 8 (o8.1 v1 8)) v1 9)) v0 10 ((mm_up (mm_up o8.1 v0 8 (o8.1 v1 8)) v0 9 ((mm_up o8.1 v0 8 (o8.1 v1 8)) v1 9)) v1 10)) v0 11 ((mm_up (mm_up (mm_up o8.1 v0 8 (o8.1 v1 8)) v0 9 ((mm_up o8.1 v0 8 (o8.1 v1 8)) v1 9)) v0 10 ((mm_up (mm_up o8.1 v0 8 (o8.1 v1 8)) v0 9 ((mm_up o8.1 v0 8 (o8.1 v1 8)) v1 9)) v1 10)) v1 11)) v0 12 ((mm_up (mm_up (mm_up (mm_up o8.1 v0 8 (o8.1 v1 8)) v0 9 ((mm_up o8.1 v0 8 (o8.1 v1 8)) v1 9)) v0 10 ((mm_up (mm_up o8.1 v0 8 (o8.1 v1 8)) v0 9 ((mm_up o8.1 v0 8 (o8.1 v1 8)) v1 9)) v1 10)) v0 11 ((mm_up (mm_up (mm_up o8.1 v0 8 (o8.1 v1 8)) v0 9 ((mm_up o8.1 v0 8 (o8.1 v1 8)) v1 9)) v0 10 ((mm_up (mm_up o8.1 v0 8 (o8.1 v1 8)) v0 9 ((mm_up o8.1 v0 8 (o8.1 v1 8)) v1 9)) v1 10)) v1 11)) v1 12), o8.2)
/-! ForgottenCrafts$Folk.empty(I)V -/
def f1_empty_2_b (S : mm_Sh) (n : Nat) (rec2 : Nat → Int32 → Int32 → mm_I → mm_J → Option (mm_I × mm_J)) (v0 : Nat) (v1 : Int32) (v2 : Int32) (I : mm_I) (J : mm_J) : Option (mm_I × mm_J) :=
  if 6 ≤ v2 then ((f6_put S (mm_rf S v0 3) v1 (-1) I J).bind fun o2 => (f6_put S (mm_rf S v0 4) v1 (-1) o2.1 o2.2).bind fun o3 => (f6_put S (mm_rf S v0 5) v1 0 o3.1 o3.2).bind fun o4 => (f6_put S (mm_rf S v0 6) v1 (-1) o4.1 o4.2).bind fun o5 => some (o5.1, o5.2)) else ((f10_cell S v1 v2 I J).bind fun o6 => (f6_put S (mm_rf S v0 1) o6 0 I J).bind fun o7 => (f10_cell S v1 v2 o7.1 o7.2).bind fun o8 => (f6_put S (mm_rf S v0 2) o8 (-1) o7.1 o7.2).bind fun o9 => rec2 v0 v1 (v2 + 1) o9.1 o9.2)
def f1_empty_2 (S : mm_Sh) (n : Nat) : Nat → Nat → Int32 → Int32 → mm_I → mm_J → Option (mm_I × mm_J)
  | 0 => fun _ _ _ _ _ => none
  | k + 1 => f1_empty_2_b S n (f1_empty_2 S n k)
def f1_empty (S : mm_Sh) (n : Nat) (v0 : Nat) (v1 : Int32) (I : mm_I) (J : mm_J) : Option (mm_I × mm_J) :=
  f1_empty_2 S n n v0 v1 0 I J
/-! ForgottenCrafts$Folk.knownBy(I)I -/
def f1_knownBy_31 (S : mm_Sh) (n : Nat) (rec4 : Nat → Int32 → Int32 → Int32 → mm_I → mm_J → Option (Int32)) (v0 : Nat) (v1 : Int32) (v2 : Int32) (v3 : Int32) (I : mm_I) (J : mm_J) : Option (Int32) :=
  rec4 v0 v1 v2 (v3 + 1) I J
def f1_knownBy_4_b (S : mm_Sh) (n : Nat) (rec4 : Nat → Int32 → Int32 → Int32 → mm_I → mm_J → Option (Int32)) (v0 : Nat) (v1 : Int32) (v2 : Int32) (v3 : Int32) (I : mm_I) (J : mm_J) : Option (Int32) :=
  if 6 ≤ v3 then (some v2) else ((f10_cell S v1 v3 I J).bind fun o2 => (f6_at S (mm_rf S v0 1) o2 I J).bind fun o3 => if o3 ≤ 0 then (f1_knownBy_31 S n rec4 v0 v1 v2 v3 I J) else (f1_knownBy_31 S n rec4 v0 v1 (v2 ||| ((1 : Int32) <<< (v3 &&& 31))) v3 I J))
def f1_knownBy_4 (S : mm_Sh) (n : Nat) : Nat → Nat → Int32 → Int32 → Int32 → mm_I → mm_J → Option (Int32)
  | 0 => fun _ _ _ _ _ _ => none
  | k + 1 => f1_knownBy_4_b S n (f1_knownBy_4 S n k)
def f1_knownBy (S : mm_Sh) (n : Nat) (v0 : Nat) (v1 : Int32) (I : mm_I) (J : mm_J) : Option (Int32) :=
  f1_knownBy_4 S n n v0 v1 0 0 I J
/-! ForgottenCrafts$Folk.knows(II)Z -/
def f1_knows_20 (S : mm_Sh) (s0 : Int32) (I : mm_I) (J : mm_J) : Option (Int32) :=
  if mm_bit s0 = true then some s0 else none
def f1_knows (S : mm_Sh) (v0 : Nat) (v1 : Int32) (v2 : Int32) (I : mm_I) (J : mm_J) : Option (Int32) :=
  (f10_cell S v1 v2 I J).bind fun o1 => (f6_at S (mm_rf S v0 1) o1 I J).bind fun o2 => if o2 ≤ 0 then (f1_knows_20 S 0 I J) else (f1_knows_20 S 1 I J)
/-! ForgottenCrafts$Folk.lives(I)Z -/
def f1_lives (S : mm_Sh) (v0 : Nat) (v1 : Int32) (I : mm_I) (J : mm_J) : Option (Int32) :=
  (f10_has S (I v0 8) v1 I J).bind fun o1 => if mm_bit o1 = true then some o1 else none
/-! ForgottenCrafts$Folk.setSkill(III)V -/
def f1_setSkill (S : mm_Sh) (v0 : Nat) (v1 : Int32) (v2 : Int32) (v3 : Int32) (I : mm_I) (J : mm_J) : Option (mm_I × mm_J) :=
  (f10_cell S v1 v2 I J).bind fun o1 => (f6_put S (mm_rf S v0 1) o1 v3 I J).bind fun o2 => some (o2.1, o2.2)
/-! ForgottenCrafts$Folk.skillOf(II)I -/
def f1_skillOf (S : mm_Sh) (v0 : Nat) (v1 : Int32) (v2 : Int32) (I : mm_I) (J : mm_J) : Option (Int32) :=
  (f10_cell S v1 v2 I J).bind fun o1 => (f6_at S (mm_rf S v0 1) o1 I J).bind fun o2 => some o2
/-! ForgottenCrafts$Life.isBackDue(II)Z -/
def f2_isBackDue_55 (S : mm_Sh) (s0 : Int32) (I : mm_I) (J : mm_J) : Option (Int32) :=
  if mm_bit s0 = true then some s0 else none
def f2_isBackDue_54 (S : mm_Sh)  (I : mm_I) (J : mm_J) : Option (Int32) :=
  f2_isBackDue_55 S 0 I J
def f2_isBackDue (S : mm_Sh) (v0 : Nat) (v1 : Int32) (v2 : Int32) (I : mm_I) (J : mm_J) : Option (Int32) :=
  (f10_cell S v1 v2 I J).bind fun o1 => (f6_at S (mm_rf S (mm_rf S v0 2) 2) o1 I J).bind fun o2 => (f6_at S (mm_rf S (mm_rf S v0 0) 0) v2 I J).bind fun o3 => if o3 = 1 then (if o2 = (-1) then (f2_isBackDue_54 S I J) else (if ((I (mm_rf S v0 2) 11) - o2) < 9 then (f2_isBackDue_54 S I J) else (f2_isBackDue_55 S 1 I J))) else (f2_isBackDue_54 S I J)
/-! ForgottenCrafts$Life.startLearning(II)V -/
def f2_startLearning (S : mm_Sh) (v0 : Nat) (v1 : Int32) (v2 : Int32) (I : mm_I) (J : mm_J) : Option (mm_I × mm_J) :=
  (f6_put S (mm_rf S (mm_rf S v0 2) 4) v1 v2 I J).bind fun o1 => (f6_put S (mm_rf S (mm_rf S v0 2) 5) v1 0 o1.1 o1.2).bind fun o2 => some (o2.1, o2.2)
/-! ForgottenCrafts$Plan.countStates()V -/
def f3_countStates_7_b (S : mm_Sh) (n : Nat) (rec7 : Nat → Int32 → mm_I → mm_J → Option (mm_I × mm_J)) (v0 : Nat) (v1 : Int32) (I : mm_I) (J : mm_J) : Option (mm_I × mm_J) :=
  if (I (mm_rf S v0 0) 5) ≤ v1 then (some (I, J)) else ((f6_put S (mm_rf S v0 3) v1 (I v0 7) I J).bind fun o2 => (f6_at S (mm_rf S v0 2) v1 o2.1 o2.2).bind fun o3 => rec7 v0 (v1 + 1) (mm_up o2.1 v0 7 ((o2.1 v0 7) * (o3 + 1))) o2.2)
def f3_countStates_7 (S : mm_Sh) (n : Nat) : Nat → Nat → Int32 → mm_I → mm_J → Option (mm_I × mm_J)
  | 0 => fun _ _ _ _ => none
  | k + 1 => f3_countStates_7_b S n (f3_countStates_7 S n k)
def f3_countStates (S : mm_Sh) (n : Nat) (v0 : Nat) (I : mm_I) (J : mm_J) : Option (mm_I × mm_J) :=
  f3_countStates_7 S n n v0 0 (mm_up I v0 7 1) J
/-! ForgottenCrafts$Plan.stillWanted(II)I -/
def f3_stillWanted (S : mm_Sh) (v0 : Nat) (v1 : Int32) (v2 : Int32) (I : mm_I) (J : mm_J) : Option (Int32) :=
  (f6_at S (mm_rf S v0 3) v2 I J).bind fun o1 => if (if 1 < o1 then o1 else 1) = 0 then none else ((f6_at S (mm_rf S v0 2) v2 I J).bind fun o2 => if ((if 0 < o2 then o2 else 0) + 1) = 0 then none else (some ((v1 / (if 1 < o1 then o1 else 1)) - (v1 / (if 1 < o1 then o1 else 1)) / ((if 0 < o2 then o2 else 0) + 1) * ((if 0 < o2 then o2 else 0) + 1))))
/-! ForgottenCrafts$Plan.wantedInAll()I -/
def f3_wantedInAll_4_b (S : mm_Sh) (n : Nat) (rec4 : Nat → Int32 → Int32 → mm_I → mm_J → Option (Int32)) (v0 : Nat) (v1 : Int32) (v2 : Int32) (I : mm_I) (J : mm_J) : Option (Int32) :=
  if (I (mm_rf S v0 0) 5) ≤ v2 then (some v1) else ((f6_at S (mm_rf S v0 2) v2 I J).bind fun o2 => rec4 v0 (v1 + o2) (v2 + 1) I J)
def f3_wantedInAll_4 (S : mm_Sh) (n : Nat) : Nat → Nat → Int32 → Int32 → mm_I → mm_J → Option (Int32)
  | 0 => fun _ _ _ _ _ => none
  | k + 1 => f3_wantedInAll_4_b S n (f3_wantedInAll_4 S n k)
def f3_wantedInAll (S : mm_Sh) (n : Nat) (v0 : Nat) (I : mm_I) (J : mm_J) : Option (Int32) :=
  f3_wantedInAll_4 S n n v0 0 0 I J
/-! ForgottenCrafts$Reader.advance()V -/
def f4_advance_123 (S : mm_Sh) (n : Nat) (v0 : Nat) (v1 : Int32) (I : mm_I) (J : mm_J) : Option (mm_I × mm_J) :=
  some (mm_up I v0 4 v1, J)
def f4_advance_99 (S : mm_Sh) (n : Nat) (rec75 : Nat → Int32 → mm_I → mm_J → Option (mm_I × mm_J)) (v0 : Nat) (v1 : Int32) (I : mm_I) (J : mm_J) : Option (mm_I × mm_J) :=
  (f6_at S (mm_rf S v0 0) v1 I J).bind fun o1 => (f4_tokenOf S o1 I J).bind fun o2 => if o2 = (I v0 2) then (rec75 v0 (v1 + 1) I J) else (f4_advance_123 S n v0 v1 I J)
def f4_advance_75_b (S : mm_Sh) (n : Nat) (rec75 : Nat → Int32 → mm_I → mm_J → Option (mm_I × mm_J)) (v0 : Nat) (v1 : Int32) (I : mm_I) (J : mm_J) : Option (mm_I × mm_J) :=
  if (I v0 1) ≤ v1 then (f4_advance_123 S n v0 v1 I J) else (if (I v0 2) = 1 then (f4_advance_99 S n rec75 v0 v1 I J) else (if (I v0 2) = 2 then (f4_advance_99 S n rec75 v0 v1 I J) else (f4_advance_123 S n v0 v1 I J)))
def f4_advance_75 (S : mm_Sh) (n : Nat) : Nat → Nat → Int32 → mm_I → mm_J → Option (mm_I × mm_J)
  | 0 => fun _ _ _ _ => none
  | k + 1 => f4_advance_75_b S n (f4_advance_75 S n k)
def f4_advance_61 (S : mm_Sh) (n : Nat) (v0 : Nat) (v1 : Int32) (s0 : Nat) (s1 : Int32) (I : mm_I) (J : mm_J) : Option (mm_I × mm_J) :=
  if ((mm_up I s0 2 s1) v0 1) ≤ v1 then (f4_advance_75 S n n v0 v1 (mm_up I s0 2 s1) J) else (f4_advance_75 S n n v0 (v1 + 1) (mm_up I s0 2 s1) J)
def f4_advance_32 (S : mm_Sh) (n : Nat) (v0 : Nat) (v1 : Int32) (I : mm_I) (J : mm_J) : Option (mm_I × mm_J) :=
  if ((mm_up I v0 3 v1) v0 1) ≤ v1 then (f4_advance_61 S n v0 v1 v0 0 (mm_up I v0 3 v1) J) else ((f6_at S (mm_rf S v0 0) v1 (mm_up I v0 3 v1) J).bind fun o2 => (f4_tokenOf S o2 (mm_up I v0 3 v1) J).bind fun o3 => f4_advance_61 S n v0 v1 v0 o3 (mm_up I v0 3 v1) J)
def f4_advance_5_b (S : mm_Sh) (n : Nat) (rec5 : Nat → Int32 → mm_I → mm_J → Option (mm_I × mm_J)) (v0 : Nat) (v1 : Int32) (I : mm_I) (J : mm_J) : Option (mm_I × mm_J) :=
  if (I v0 1) ≤ v1 then (f4_advance_32 S n v0 v1 I J) else ((f6_at S (mm_rf S v0 0) v1 I J).bind fun o2 => if o2 = 32 then (rec5 v0 (v1 + 1) I J) else (f4_advance_32 S n v0 v1 I J))
def f4_advance_5 (S : mm_Sh) (n : Nat) : Nat → Nat → Int32 → mm_I → mm_J → Option (mm_I × mm_J)
  | 0 => fun _ _ _ _ => none
  | k + 1 => f4_advance_5_b S n (f4_advance_5 S n k)
def f4_advance (S : mm_Sh) (n : Nat) (v0 : Nat) (I : mm_I) (J : mm_J) : Option (mm_I × mm_J) :=
  f4_advance_5 S n n v0 (I v0 4) I J
/-! ForgottenCrafts$Reader.append(I)V -/
def f4_append (S : mm_Sh) (v0 : Nat) (v1 : Int32) (I : mm_I) (J : mm_J) : Option (mm_I × mm_J) :=
  (f6_put S (mm_rf S v0 0) (I v0 1) v1 I J).bind fun o1 => some (mm_up o1.1 v0 1 ((o1.1 v0 1) + 1), o1.2)
/-! ForgottenCrafts$Reader.figures()I -/
def f4_figures_7_b (S : mm_Sh) (n : Nat) (rec7 : Nat → Int32 → Int32 → mm_I → mm_J → Option (Int32)) (v0 : Nat) (v1 : Int32) (v2 : Int32) (I : mm_I) (J : mm_J) : Option (Int32) :=
  if (I v0 4) ≤ v2 then (some v1) else ((f6_at S (mm_rf S v0 0) v2 I J).bind fun o2 => rec7 v0 (((v1 * 10) + o2) - 48) (v2 + 1) I J)
def f4_figures_7 (S : mm_Sh) (n : Nat) : Nat → Nat → Int32 → Int32 → mm_I → mm_J → Option (Int32)
  | 0 => fun _ _ _ _ _ => none
  | k + 1 => f4_figures_7_b S n (f4_figures_7 S n k)
def f4_figures (S : mm_Sh) (n : Nat) (v0 : Nat) (I : mm_I) (J : mm_J) : Option (Int32) :=
  f4_figures_7 S n n v0 0 (I v0 3) I J
/-! ForgottenCrafts$Rings.closeRing(III)V -/
def f5_closeRing_37 (S : mm_Sh) (n : Nat)  (I : mm_I) (J : mm_J) : Option (mm_I × mm_J) :=
  some (I, J)
def f5_closeRing (S : mm_Sh) (n : Nat) (v0 : Nat) (v1 : Int32) (v2 : Int32) (v3 : Int32) (I : mm_I) (J : mm_J) : Option (mm_I × mm_J) :=
  if v3 ≤ 0 then (f5_closeRing_37 S n I J) else (if (v2 + v3) ≤ (I v0 5) then (f5_closeRing_37 S n I J) else ((f6_copyFrom S n (mm_rf S v0 4) (mm_rf S v0 3) (mm_up (mm_up I v0 5 (v2 + v3)) v0 6 v1) J).bind fun o3 => f5_closeRing_37 S n o3.1 o3.2))
/-! ForgottenCrafts$Rings.gainFrom(II)I -/
def f5_gainFrom (S : mm_Sh) (v0 : Nat) (v1 : Int32) (v2 : Int32) (I : mm_I) (J : mm_J) : Option (Int32) :=
  (f6_at S (mm_rf S v0 2) ((v1 * 8) + v2) I J).bind fun o1 => some o1
/-! ForgottenCrafts$Rings.isOnPath(II)Z -/
def f5_isOnPath_2_b (S : mm_Sh) (n : Nat) (rec2 : Nat → Int32 → Int32 → Int32 → mm_I → mm_J → Option (Int32)) (v0 : Nat) (v1 : Int32) (v2 : Int32) (v3 : Int32) (I : mm_I) (J : mm_J) : Option (Int32) :=
  if v2 ≤ v3 then (some 0) else ((f6_at S (mm_rf S v0 3) v3 I J).bind fun o2 => if o2 = v1 then (some 1) else (rec2 v0 v1 v2 (v3 + 1) I J))
def f5_isOnPath_2 (S : mm_Sh) (n : Nat) : Nat → Nat → Int32 → Int32 → Int32 → mm_I → mm_J → Option (Int32)
  | 0 => fun _ _ _ _ _ _ => none
  | k + 1 => f5_isOnPath_2_b S n (f5_isOnPath_2 S n k)
def f5_isOnPath (S : mm_Sh) (n : Nat) (v0 : Nat) (v1 : Int32) (v2 : Int32) (I : mm_I) (J : mm_J) : Option (Int32) :=
  f5_isOnPath_2 S n n v0 v1 v2 0 I J
/-! ForgottenCrafts$Shelf.addEntry(III)I -/
def f8_addEntry (S : mm_Sh) (v0 : Nat) (v1 : Int32) (v2 : Int32) (v3 : Int32) (I : mm_I) (J : mm_J) : Option (Int32 × mm_I × mm_J) :=
  (f6_put S (mm_rf S v0 3) (I v0 7) v1 I J).bind fun o1 => (f6_put S (mm_rf S v0 4) (o1.1 v0 7) v2 o1.1 o1.2).bind fun o2 => (f6_put S (mm_rf S v0 5) (o2.1 v0 7) v3 o2.1 o2.2).bind fun o3 => some ((mm_up o3.1 v0 7 ((o3.1 v0 7) + 1)) v0 7, mm_up o3.1 v0 7 ((o3.1 v0 7) + 1), o3.2)
/-! ForgottenCrafts$Shelf.addThing(II)I -/
def f8_addThing (S : mm_Sh) (v0 : Nat) (v1 : Int32) (v2 : Int32) (I : mm_I) (J : mm_J) : Option (Int32 × mm_I × mm_J) :=
  (f6_put S (mm_rf S v0 0) (I v0 6) v1 I J).bind fun o1 => (f6_put S (mm_rf S v0 1) (o1.1 v0 6) v2 o1.1 o1.2).bind fun o2 => some ((mm_up o2.1 v0 6 ((o2.1 v0 6) + 1)) v0 6, mm_up o2.1 v0 6 ((o2.1 v0 6) + 1), o2.2)
/-! ForgottenCrafts$Shelf.countIfFit(I)V -/
def f8_countIfFit_2_b (S : mm_Sh) (n : Nat) (rec2 : Nat → Int32 → Int32 → mm_I → mm_J → Option (mm_I × mm_J)) (v0 : Nat) (v1 : Int32) (v2 : Int32) (I : mm_I) (J : mm_J) : Option (mm_I × mm_J) :=
  if (I v0 6) ≤ v2 then (some (mm_up (mm_up I v0 8 ((I v0 8) + 1)) v0 10 (((mm_up I v0 8 ((I v0 8) + 1)) v0 10) &&& v1), J)) else ((f6_at S (mm_rf S v0 2) v2 I J).bind fun o2 => if (o2 &&& v1) = 0 then (some (I, J)) else (rec2 v0 v1 (v2 + 1) I J))
def f8_countIfFit_2 (S : mm_Sh) (n : Nat) : Nat → Nat → Int32 → Int32 → mm_I → mm_J → Option (mm_I × mm_J)
  | 0 => fun _ _ _ _ _ => none
  | k + 1 => f8_countIfFit_2_b S n (f8_countIfFit_2 S n k)
def f8_countIfFit (S : mm_Sh) (n : Nat) (v0 : Nat) (v1 : Int32) (I : mm_I) (J : mm_J) : Option (mm_I × mm_J) :=
  f8_countIfFit_2 S n n v0 v1 0 I J
/-! ForgottenCrafts.feed(IJ)I -/
def f10_feed_36_b (S : mm_Sh) (n : Nat) (rec36 : Nat → Int64 → Int32 → mm_I → mm_J → Option (Int32 × mm_I × mm_J)) (v0 : Nat) (v2 : Int64) (v4 : Int32) (I : mm_I) (J : mm_J) : Option (Int32 × mm_I × mm_J) :=
  if v4 < 0 then (some (I (mm_rf S v0 0) 1, I, J)) else ((f4_append S (mm_rf S v0 0) ((((v2.toUInt64 >>> ((8 * v4).toInt64.toUInt64 &&& Int64.toUInt64 63)).toInt64) &&& 255).toInt32) I J).bind fun o2 => rec36 v0 v2 (v4 + (-1)) o2.1 o2.2)
def f10_feed_36 (S : mm_Sh) (n : Nat) : Nat → Nat → Int64 → Int32 → mm_I → mm_J → Option (Int32 × mm_I × mm_J)
  | 0 => fun _ _ _ _ _ => none
  | k + 1 => f10_feed_36_b S n (f10_feed_36 S n k)
def f10_feed (S : mm_Sh) (n : Nat) (v0 : Nat) (v1 : Int32) (v2 : Int64) (I : mm_I) (J : mm_J) : Option (Int32 × mm_I × mm_J) :=
  (f10_within S v1 1 8 I J).bind fun o1 => if o1 = 0 then (some ((-1000000002), I, J)) else (if ((I (mm_rf S v0 0) 1) + v1) ≤ 500 then (f10_feed_36 S n n v0 v2 (v1 - 1) I J) else (some ((-1000000004), I, J)))
/-! ForgottenCrafts.goBack(I)I -/
def f10_goBack (S : mm_Sh) (n : Nat) (v0 : Nat) (v1 : Int32) (I : mm_I) (J : mm_J) : Option (Int32 × mm_I × mm_J) :=
  (f10_within S v1 0 1 I J).bind fun o1 => if o1 = 0 then (some ((-1000000001), I, J)) else ((f10_has S (I v0 19) v1 I J).bind fun o3 => if o3 = 0 then (some ((-1000000003), I, J)) else ((f10_image S v0 v1 I J).bind fun o5 => (f1_copyFrom S n (mm_rf S v0 6) o5 I J).bind fun o6 => some (1, o6.1, o6.2)))
/-! ForgottenCrafts.keep(I)I -/
def f10_keep (S : mm_Sh) (n : Nat) (v0 : Nat) (v1 : Int32) (I : mm_I) (J : mm_J) : Option (Int32 × mm_I × mm_J) :=
  (f10_within S v1 0 1 I J).bind fun o1 => if o1 = 0 then (some ((-1000000001), I, J)) else ((f10_image S v0 v1 I J).bind fun o3 => (f1_copyFrom S n o3 (mm_rf S v0 6) I J).bind fun o4 => some (1, mm_up o4.1 v0 19 ((o4.1 v0 19) ||| ((1 : Int32) <<< (v1 &&& 31))), o4.2))
/-! ForgottenCrafts.like(II)I -/
def f10_like_23 (S : mm_Sh) (s0 : Int32) (I : mm_I) (J : mm_J) : Option (Int32) :=
  some s0
def f10_like (S : mm_Sh) (v0 : Nat) (v1 : Int32) (v2 : Int32) (I : mm_I) (J : mm_J) : Option (Int32) :=
  (f10_isKnownPair S v0 v1 v2 I J).bind fun o1 => if o1 = 0 then (f10_like_23 S (-1000000001) I J) else ((f0_likeOf S (mm_rf S v0 1) v1 v2 I J).bind fun o3 => f10_like_23 S o3 I J)
/-! ForgottenCrafts.make(II)I -/
def f10_make_53 (S : mm_Sh) (s0 : Int32) (I : mm_I) (J : mm_J) : Option (Int32 × mm_I × mm_J) :=
  some (s0, I, J)
def f10_make (S : mm_Sh) (v0 : Nat) (v1 : Int32) (v2 : Int32) (I : mm_I) (J : mm_J) : Option (Int32 × mm_I × mm_J) :=
  (f0_hasTrade S (mm_rf S v0 1) v1 I J).bind fun o1 => if o1 = 0 then (some ((-1000000001), I, J)) else ((f10_within S v2 1 100 I J).bind fun o3 => if o3 = 0 then (some ((-1000000002), I, J)) else (if 12 ≤ (I (mm_rf S v0 13) 6) then (f10_make_53 S (-1000000004) I J) else ((f8_addThing S (mm_rf S v0 13) v1 v2 I J).bind fun o6 => f10_make_53 S o6.1 o6.2.1 o6.2.2)))
/-! ForgottenCrafts.person(II)I -/
def f10_person_148 (S : mm_Sh) (n : Nat) (s0 : Int32) (I : mm_I) (J : mm_J) : Option (Int32) :=
  some s0
def f10_person_168 (S : mm_Sh) (n : Nat) (s0 : Int32) (I : mm_I) (J : mm_J) : Option (Int32) :=
  some s0
def f10_person (S : mm_Sh) (n : Nat) (v0 : Nat) (v1 : Int32) (v2 : Int32) (I : mm_I) (J : mm_J) : Option (Int32) :=
  (f0_hasPerson S (mm_rf S v0 1) v1 I J).bind fun o1 => if o1 = 0 then (some (-1000000001)) else (if v2 = 0 then ((f6_at S (mm_rf S (mm_rf S v0 6) 0) v1 I J).bind fun o20 => some o20) else (if v2 = 1 then ((f6_at S (mm_rf S (mm_rf S v0 6) 3) v1 I J).bind fun o19 => some o19) else (if v2 = 2 then ((f6_at S (mm_rf S (mm_rf S v0 6) 4) v1 I J).bind fun o18 => some o18) else (if v2 = 3 then ((f6_at S (mm_rf S (mm_rf S v0 6) 6) v1 I J).bind fun o17 => some o17) else (if v2 = 4 then ((f1_knownBy S n (mm_rf S v0 6) v1 I J).bind fun o16 => some o16) else (if v2 = 5 then ((f6_at S (mm_rf S (mm_rf S v0 6) 7) v1 I J).bind fun o15 => some o15) else (if v2 = 6 then ((f10_has S (I (mm_rf S v0 6) 9) v1 I J).bind fun o13 => if o13 = 0 then (f10_person_148 S n 0 I J) else (f10_person_148 S n 1 I J)) else (if v2 = 7 then ((f10_has S (I (mm_rf S v0 6) 10) v1 I J).bind fun o11 => if o11 = 0 then (f10_person_168 S n 0 I J) else (f10_person_168 S n 1 I J)) else (some (-1000000002))))))))))
/-! ForgottenCrafts.practise(II)I -/
def f10_practise (S : mm_Sh) (v0 : Nat) (v1 : Int32) (v2 : Int32) (I : mm_I) (J : mm_J) : Option (Int32 × mm_I × mm_J) :=
  (f10_isKnownPair S v0 v1 v2 I J).bind fun o1 => if o1 = 0 then (some ((-1000000001), I, J)) else ((f1_knows S (mm_rf S v0 6) v1 v2 I J).bind fun o3 => if o3 = 0 then (some ((-1000000003), I, J)) else ((f6_at S (mm_rf S (mm_rf S v0 6) 3) v1 I J).bind fun o5 => (f6_put S (mm_rf S (mm_rf S v0 6) 3) v1 v2 I J).bind fun o6 => some (o5, o6.1, o6.2)))
/-! ForgottenCrafts.skill(II)I -/
def f10_skill_23 (S : mm_Sh) (s0 : Int32) (I : mm_I) (J : mm_J) : Option (Int32) :=
  some s0
def f10_skill (S : mm_Sh) (v0 : Nat) (v1 : Int32) (v2 : Int32) (I : mm_I) (J : mm_J) : Option (Int32) :=
  (f10_isKnownPair S v0 v1 v2 I J).bind fun o1 => if o1 = 0 then (f10_skill_23 S (-1000000001) I J) else ((f1_skillOf S (mm_rf S v0 6) v1 v2 I J).bind fun o3 => f10_skill_23 S o3 I J)
/-! ForgottenCrafts.startAnew()V -/
def f10_startAnew (S : mm_Sh) (n : Nat) (v0 : Nat) (I : mm_I) (J : mm_J) : Option (mm_I × mm_J) :=
  (f1_copyFrom S n (mm_rf S v0 6) (mm_rf S v0 7) I J).bind fun o1 => some (mm_up o1.1 (mm_rf S v0 6) 12 (I (mm_rf S v0 6) 12), o1.2)
/-! ForgottenCrafts.write(III)I -/
def f10_write_52 (S : mm_Sh) (s0 : Int32) (I : mm_I) (J : mm_J) : Option (Int32 × mm_I × mm_J) :=
  some (s0, I, J)
def f10_write (S : mm_Sh) (v0 : Nat) (v1 : Int32) (v2 : Int32) (v3 : Int32) (I : mm_I) (J : mm_J) : Option (Int32 × mm_I × mm_J) :=
  (f10_isKnownPair S v0 v1 v2 I J).bind fun o1 => if o1 = 0 then (some ((-1000000001), I, J)) else ((f10_within S v3 0 100 I J).bind fun o3 => if o3 = 0 then (some ((-1000000002), I, J)) else (if 40 ≤ (I (mm_rf S v0 13) 7) then (f10_write_52 S (-1000000004) I J) else ((f8_addEntry S (mm_rf S v0 13) v1 v2 v3 I J).bind fun o6 => f10_write_52 S o6.1 o6.2.1 o6.2.2)))
/-! ForgottenCraftsModel.begin()I -/
def f11_begin_90 (S : mm_Sh) (n : Nat) (rec12 : Nat → Int32 → Int32 → mm_I → mm_J → Option (Int32 × mm_I × mm_J)) (rec51 : Nat → Int32 → Int32 → Int32 → mm_I → mm_J → Option (Int32 × mm_I × mm_J)) (v0 : Nat) (v1 : Int32) (v2 : Int32) (v3 : Int32) (s0 : Nat) (s1 : Int32) (s2 : Int32) (I : mm_I) (J : mm_J) : Option (Int32 × mm_I × mm_J) :=
  if mm_inb s1 (mm_al S s0) = true then (if mm_inb ((6 * v2) + v3) (mm_al S (mm_rf S v0 15)) = true then (rec51 v0 v1 v2 (v3 + 1) (mm_up (mm_up I s0 s1.toNatClampNeg s2) (mm_rf S v0 15) ((6 * v2) + v3).toNatClampNeg (-1)) J) else none) else none
def f11_begin_51_b (S : mm_Sh) (n : Nat) (rec12 : Nat → Int32 → Int32 → mm_I → mm_J → Option (Int32 × mm_I × mm_J)) (rec51 : Nat → Int32 → Int32 → Int32 → mm_I → mm_J → Option (Int32 × mm_I × mm_J)) (v0 : Nat) (v1 : Int32) (v2 : Int32) (v3 : Int32) (I : mm_I) (J : mm_J) : Option (Int32 × mm_I × mm_J) :=
  if 6 ≤ v3 then ((f11_bestOf S n v0 v2 I J).bind fun o2 => if mm_inb v2 (mm_al S (mm_rf S v0 16)) = true then (if mm_inb v2 (mm_al S (mm_rf S v0 17)) = true then (if mm_inb v2 (mm_al S (mm_rf S v0 18)) = true then (if mm_inb v2 (mm_al S (mm_rf S v0 19)) = true then (if mm_inb v2 (mm_al S (mm_rf S v0 20)) = true then (if mm_inb v2 (mm_al S (mm_rf S v0 21)) = true then (if mm_inb v2 (mm_al S (mm_rf S v0 22)) = true then (rec12 v0 v1 (v2 + 1) (mm_up (mm_up (mm_up (mm_up (mm_up (mm_up (mm_up I (mm_rf S v0 16) v2.toNatClampNeg o2) (mm_rf S v0 17) v2.toNatClampNeg (-1)) (mm_rf S v0 18) v2.toNatClampNeg 0) (mm_rf S v0 19) v2.toNatClampNeg (-1)) (mm_rf S v0 20) v2.toNatClampNeg 0) (mm_rf S v0 21) v2.toNatClampNeg 0) (mm_rf S v0 22) v2.toNatClampNeg 0) J) else none) else none) else none) else none) else none) else none) else none) else (if (I v0 2) ≤ v2 then (f11_begin_90 S n rec12 rec51 v0 v1 v2 v3 (mm_rf S v0 14) ((6 * v2) + v3) 0 I J) else (if mm_inb ((6 * v2) + v3) (mm_al S (mm_rf S v0 4)) = true then (f11_begin_90 S n rec12 rec51 v0 v1 v2 v3 (mm_rf S v0 14) ((6 * v2) + v3) (I (mm_rf S v0 4) ((6 * v2) + v3).toNatClampNeg) I J) else none))
def f11_begin_51 (S : mm_Sh) (n : Nat) (rec12 : Nat → Int32 → Int32 → mm_I → mm_J → Option (Int32 × mm_I × mm_J)) : Nat → Nat → Int32 → Int32 → Int32 → mm_I → mm_J → Option (Int32 × mm_I × mm_J)
  | 0 => fun _ _ _ _ _ _ => none
  | k + 1 => f11_begin_51_b S n rec12 (f11_begin_51 S n rec12 k)
def f11_begin_48 (S : mm_Sh) (n : Nat) (rec12 : Nat → Int32 → Int32 → mm_I → mm_J → Option (Int32 × mm_I × mm_J)) (v0 : Nat) (v1 : Int32) (v2 : Int32) (s0 : Nat) (s1 : Int32) (s2 : Int32) (I : mm_I) (J : mm_J) : Option (Int32 × mm_I × mm_J) :=
  if mm_inb s1 (mm_al S s0) = true then (if mm_bit s2 = true then (f11_begin_51 S n rec12 n v0 v1 v2 0 (mm_up I s0 s1.toNatClampNeg s2) J) else none) else none
def f11_begin_12_b (S : mm_Sh) (n : Nat) (rec12 : Nat → Int32 → Int32 → mm_I → mm_J → Option (Int32 × mm_I × mm_J)) (v0 : Nat) (v1 : Int32) (v2 : Int32) (I : mm_I) (J : mm_J) : Option (Int32 × mm_I × mm_J) :=
  if 8 ≤ v2 then (some (v1, I, J)) else (if mm_inb v2 (mm_al S (mm_rf S v0 3)) = true then (if mm_inb v2 (mm_al S (mm_rf S v0 12)) = true then (if ((mm_up I (mm_rf S v0 12) v2.toNatClampNeg (I (mm_rf S v0 3) v2.toNatClampNeg)) v0 2) ≤ v2 then (f11_begin_48 S n rec12 v0 v1 v2 (mm_rf S v0 13) v2 0 (mm_up I (mm_rf S v0 12) v2.toNatClampNeg (I (mm_rf S v0 3) v2.toNatClampNeg)) J) else (f11_begin_48 S n rec12 v0 v1 v2 (mm_rf S v0 13) v2 1 (mm_up I (mm_rf S v0 12) v2.toNatClampNeg (I (mm_rf S v0 3) v2.toNatClampNeg)) J)) else none) else none)
def f11_begin_12 (S : mm_Sh) (n : Nat) : Nat → Nat → Int32 → Int32 → mm_I → mm_J → Option (Int32 × mm_I × mm_J)
  | 0 => fun _ _ _ _ _ => none
  | k + 1 => f11_begin_12_b S n (f11_begin_12 S n k)
def f11_begin (S : mm_Sh) (n : Nat) (v0 : Nat) (I : mm_I) (J : mm_J) : Option (Int32 × mm_I × mm_J) :=
  f11_begin_12 S n n v0 (I v0 23) 0 (mm_up I v0 23 0) J
/-! ForgottenCraftsModel.byGiving(III)I -/
def f11_byGiving_112 (S : mm_Sh) (s0 : Int32) (I : mm_I) (J : mm_J) : Option (Int32) :=
  some s0
def f11_byGiving_94 (S : mm_Sh) (s0 : Int32) (I : mm_I) (J : mm_J) : Option (Int32) :=
  if s0 ≤ 1000000 then (f11_byGiving_112 S s0 I J) else (f11_byGiving_112 S 1000000 I J)
def f11_byGiving_53 (S : mm_Sh) (v0 : Nat) (v1 : Int32) (v2 : Int32) (v3 : Int32) (s0 : Int32) (I : mm_I) (J : mm_J) : Option (Int32) :=
  if s0 = 0 then (f11_byGiving_94 S 1000000 I J) else (if mm_inb v3 (mm_al S (mm_rf S v0 43)) = true then (if mm_inb (((256 * (v1 + 1)) + v2) - (I (mm_rf S v0 43) v3.toNatClampNeg)) (mm_al S (mm_rf S v0 42)) = true then ((f11_costOf S v0 v1 v3 I J).bind fun o4 => f11_byGiving_94 S ((I (mm_rf S v0 42) (((256 * (v1 + 1)) + v2) - (I (mm_rf S v0 43) v3.toNatClampNeg)).toNatClampNeg) + o4) I J) else none) else none)
def f11_byGiving_52 (S : mm_Sh) (v0 : Nat) (v1 : Int32) (v2 : Int32) (v3 : Int32) (I : mm_I) (J : mm_J) : Option (Int32) :=
  f11_byGiving_53 S v0 v1 v2 v3 0 I J
def f11_byGiving (S : mm_Sh) (v0 : Nat) (v1 : Int32) (v2 : Int32) (v3 : Int32) (I : mm_I) (J : mm_J) : Option (Int32) :=
  if 0 ≤ v3 then (if mm_inb v1 (mm_al S (mm_rf S v0 13)) = true then (if (I (mm_rf S v0 13) v1.toNatClampNeg) = 0 then (f11_byGiving_52 S v0 v1 v2 v3 I J) else (if mm_inb v3 (mm_al S (mm_rf S v0 43)) = true then (if (I (mm_rf S v0 43) v3.toNatClampNeg) = 0 then none else (if mm_inb v3 (mm_al S (mm_rf S v0 25)) = true then (if ((I (mm_rf S v0 25) v3.toNatClampNeg) + 1) = 0 then none else (if ((v2 / (I (mm_rf S v0 43) v3.toNatClampNeg)) - (v2 / (I (mm_rf S v0 43) v3.toNatClampNeg)) / ((I (mm_rf S v0 25) v3.toNatClampNeg) + 1) * ((I (mm_rf S v0 25) v3.toNatClampNeg) + 1)) ≤ 0 then (f11_byGiving_52 S v0 v1 v2 v3 I J) else (f11_byGiving_53 S v0 v1 v2 v3 1 I J))) else none)) else none)) else none) else (if mm_inb ((256 * (v1 + 1)) + v2) (mm_al S (mm_rf S v0 42)) = true then (some (I (mm_rf S v0 42) ((256 * (v1 + 1)) + v2).toNatClampNeg)) else none)
/-! ForgottenCraftsModel.gainBy(II)I -/
def f11_gainBy_73 (S : mm_Sh) (n : Nat) (s0 : Int32) (I : mm_I) (J : mm_J) : Option (Int32) :=
  some s0
def f11_gainBy_67 (S : mm_Sh) (n : Nat)  (I : mm_I) (J : mm_J) : Option (Int32) :=
  f11_gainBy_73 S n 0 I J
def f11_gainBy (S : mm_Sh) (n : Nat) (v0 : Nat) (v1 : Int32) (v2 : Int32) (I : mm_I) (J : mm_J) : Option (Int32) :=
  (f11_leastLiked S n v0 v1 I J).bind fun o1 => (f11_leastLiked S n v0 v2 I J).bind fun o2 => if mm_inb ((6 * v1) + o2) (mm_al S (mm_rf S v0 5)) = true then (if mm_inb ((6 * v1) + o1) (mm_al S (mm_rf S v0 5)) = true then ((f11_knows S v0 v1 o2 I J).bind fun o5 => if o5 = 0 then (if mm_inb (4 * o2) (mm_al S (mm_rf S v0 1)) = true then (if (I (mm_rf S v0 1) (4 * o2).toNatClampNeg) = 3 then (f11_gainBy_67 S n I J) else (if 0 ≤ ((I (mm_rf S v0 5) ((6 * v1) + o2).toNatClampNeg) - (I (mm_rf S v0 5) ((6 * v1) + o1).toNatClampNeg)) then (f11_gainBy_73 S n ((I (mm_rf S v0 5) ((6 * v1) + o2).toNatClampNeg) - (I (mm_rf S v0 5) ((6 * v1) + o1).toNatClampNeg)) I J) else (f11_gainBy_67 S n I J))) else none) else (f11_gainBy_67 S n I J)) else none) else none
/-! ForgottenCraftsModel.into([IIII)I -/
def f11_into (S : mm_Sh) (n : Nat) (v0 : Nat) (v1 : Nat) (v2 : Int32) (v3 : Int32) (v4 : Int32) (I : mm_I) (J : mm_J) : Option (Int32 × mm_I × mm_J) :=
  (f11_takeNumber S n v0 v3 v4 I J).bind fun o1 => if mm_inb v2 (mm_al S v1) = true then (some (o1.1, mm_up o1.2.1 v1 v2.toNatClampNeg (o1.2.1 v0 32), o1.2.2)) else none
/-! ForgottenCraftsModel.lastHand(II)I -/
def f11_lastHand_105 (S : mm_Sh) (n : Nat) (s0 : Int32) (I : mm_I) (J : mm_J) : Option (Int32) :=
  some s0
def f11_lastHand_45_b (S : mm_Sh) (n : Nat) (rec45 : Nat → Int32 → Int32 → Int32 → Int32 → mm_I → mm_J → Option (Int32)) (v0 : Nat) (v1 : Int32) (v2 : Int32) (v3 : Int32) (v4 : Int32) (I : mm_I) (J : mm_J) : Option (Int32) :=
  (f11_has S v3 v4 I J).bind fun o1 => if o1 = 0 then (rec45 v0 v1 v2 v3 (v4 + 1) I J) else (if mm_inb v4 (mm_al S (mm_rf S v0 12)) = true then (if v2 = 0 then (f11_lastHand_105 S n v4 I J) else (if 0 ≤ ((I v0 10) - (I (mm_rf S v0 12) v4.toNatClampNeg)) then (if mm_inb ((4 * v1) + 2) (mm_al S (mm_rf S v0 1)) = true then (f11_lastHand_105 S n ((I (mm_rf S v0 1) ((4 * v1) + 2).toNatClampNeg) * ((I v0 10) - (I (mm_rf S v0 12) v4.toNatClampNeg))) I J) else none) else (f11_lastHand_105 S n 0 I J))) else none)
def f11_lastHand_45 (S : mm_Sh) (n : Nat) : Nat → Nat → Int32 → Int32 → Int32 → Int32 → mm_I → mm_J → Option (Int32)
  | 0 => fun _ _ _ _ _ _ _ => none
  | k + 1 => f11_lastHand_45_b S n (f11_lastHand_45 S n k)
def f11_lastHand (S : mm_Sh) (n : Nat) (v0 : Nat) (v1 : Int32) (v2 : Int32) (I : mm_I) (J : mm_J) : Option (Int32) :=
  (f11_isTrade S v0 v1 I J).bind fun o1 => if o1 = 0 then (some (-1000000001)) else ((f11_in S v2.toInt64 0 1 I J).bind fun o3 => if o3 = 0 then (some (-1000000002)) else ((f11_knowers S n v0 v1 1 I J).bind fun o5 => (f11_bits S n o5 I J).bind fun o6 => if o6 = 1 then (f11_lastHand_45 S n n v0 v1 v2 o5 0 I J) else (some (-1))))
/-! ForgottenCraftsModel.like(II)I -/
def f11_like_33 (S : mm_Sh) (s0 : Int32) (I : mm_I) (J : mm_J) : Option (Int32) :=
  some s0
def f11_like_30 (S : mm_Sh)  (I : mm_I) (J : mm_J) : Option (Int32) :=
  f11_like_33 S (-1000000001) I J
def f11_like (S : mm_Sh) (v0 : Nat) (v1 : Int32) (v2 : Int32) (I : mm_I) (J : mm_J) : Option (Int32) :=
  (f11_isPerson S v0 v1 I J).bind fun o1 => if o1 = 0 then (f11_like_30 S I J) else ((f11_isTrade S v0 v2 I J).bind fun o3 => if o3 = 0 then (f11_like_30 S I J) else (if mm_inb ((6 * v1) + v2) (mm_al S (mm_rf S v0 5)) = true then (f11_like_33 S (I (mm_rf S v0 5) ((6 * v1) + v2).toNatClampNeg) I J) else none))
/-! ForgottenCraftsModel.make(II)I -/
def f11_make (S : mm_Sh) (v0 : Nat) (v1 : Int32) (v2 : Int32) (I : mm_I) (J : mm_J) : Option (Int32 × mm_I × mm_J) :=
  (f11_isTrade S v0 v1 I J).bind fun o1 => if o1 = 0 then (some ((-1000000001), I, J)) else ((f11_in S v2.toInt64 1 100 I J).bind fun o3 => if o3 = 0 then (some ((-1000000002), I, J)) else (if (I v0 48) = 12 then (some ((-1000000004), I, J)) else (if mm_inb (I v0 48) (mm_al S (mm_rf S v0 49)) = true then (if mm_inb ((mm_up I (mm_rf S v0 49) (I v0 48).toNatClampNeg v1) v0 48) (mm_al S (mm_rf S v0 50)) = true then (some ((mm_up (mm_up (mm_up I (mm_rf S v0 49) (I v0 48).toNatClampNeg v1) (mm_rf S v0 50) ((mm_up I (mm_rf S v0 49) (I v0 48).toNatClampNeg v1) v0 48).toNatClampNeg v2) v0 48 (((mm_up (mm_up I (mm_rf S v0 49) (I v0 48).toNatClampNeg v1) (mm_rf S v0 50) ((mm_up I (mm_rf S v0 49) (I v0 48).toNatClampNeg v1) v0 48).toNatClampNeg v2) v0 48) + 1)) v0 48, mm_up (mm_up (mm_up I (mm_rf S v0 49) (I v0 48).toNatClampNeg v1) (mm_rf S v0 50) ((mm_up I (mm_rf S v0 49) (I v0 48).toNatClampNeg v1) v0 48).toNatClampNeg v2) v0 48 (((mm_up (mm_up I (mm_rf S v0 49) (I v0 48).toNatClampNeg v1) (mm_rf S v0 50) ((mm_up I (mm_rf S v0 49) (I v0 48).toNatClampNeg v1) v0 48).toNatClampNeg v2) v0 48) + 1), J)) else none) else none)))
/-! ForgottenCraftsModel.mayGive(IIII)Z -/
def f11_mayGive_26 (S : mm_Sh) (n : Nat) (s0 : Int32) (I : mm_I) (J : mm_J) : Option (Int32) :=
  if mm_bit s0 = true then some s0 else none
def f11_mayGive_25 (S : mm_Sh) (n : Nat)  (I : mm_I) (J : mm_J) : Option (Int32) :=
  f11_mayGive_26 S n 0 I J
def f11_mayGive_69 (S : mm_Sh) (n : Nat) (s0 : Int32) (I : mm_I) (J : mm_J) : Option (Int32) :=
  if mm_bit s0 = true then some s0 else none
def f11_mayGive_68 (S : mm_Sh) (n : Nat)  (I : mm_I) (J : mm_J) : Option (Int32) :=
  f11_mayGive_69 S n 0 I J
def f11_mayGive_112 (S : mm_Sh) (n : Nat) (s0 : Int32) (I : mm_I) (J : mm_J) : Option (Int32) :=
  if mm_bit s0 = true then some s0 else none
def f11_mayGive_111 (S : mm_Sh) (n : Nat)  (I : mm_I) (J : mm_J) : Option (Int32) :=
  f11_mayGive_112 S n 0 I J
def f11_mayGive (S : mm_Sh) (n : Nat) (v0 : Nat) (v1 : Int32) (v2 : Int32) (v3 : Int32) (v4 : Int32) (I : mm_I) (J : mm_J) : Option (Int32) :=
  if 0 ≤ v3 then (if 0 ≤ v4 then (if (I v0 11) = 0 then (f11_mayGive_111 S n I J) else (if mm_inb v4 (mm_al S (mm_rf S v0 13)) = true then (if (I (mm_rf S v0 13) v4.toNatClampNeg) = 0 then (f11_mayGive_111 S n I J) else ((f11_knows S v0 v4 v3 I J).bind fun o6 => if o6 = 0 then (f11_mayGive_111 S n I J) else (if mm_inb v4 (mm_al S (mm_rf S v0 19)) = true then (if 0 ≤ (I (mm_rf S v0 19) v4.toNatClampNeg) then (f11_mayGive_111 S n I J) else (f11_mayGive_112 S n 1 I J)) else none))) else none)) else ((f11_knows S v0 v1 v3 I J).bind fun o10 => if o10 = 0 then (f11_mayGive_68 S n I J) else (if mm_inb v1 (mm_al S (mm_rf S v0 19)) = true then (if 0 ≤ (I (mm_rf S v0 19) v1.toNatClampNeg) then (f11_mayGive_68 S n I J) else (if mm_inb ((4 * v2) + 3) (mm_al S (mm_rf S v0 1)) = true then (if (I (mm_rf S v0 1) ((4 * v2) + 3).toNatClampNeg) = v3 then (f11_mayGive_68 S n I J) else (f11_mayGive_69 S n 1 I J)) else none)) else none))) else (if 0 ≤ v4 then (f11_mayGive_25 S n I J) else ((f11_knownMany S n v0 v1 I J).bind fun o17 => if (I v0 6) ≤ o17 then (f11_mayGive_25 S n I J) else (f11_mayGive_26 S n 1 I J)))
/-! ForgottenCraftsModel.maySwap(I)Z -/
def f11_maySwap_31 (S : mm_Sh) (n : Nat) (s0 : Int32) (I : mm_I) (J : mm_J) : Option (Int32) :=
  if mm_bit s0 = true then some s0 else none
def f11_maySwap_30 (S : mm_Sh) (n : Nat)  (I : mm_I) (J : mm_J) : Option (Int32) :=
  f11_maySwap_31 S n 0 I J
def f11_maySwap (S : mm_Sh) (n : Nat) (v0 : Nat) (v1 : Int32) (I : mm_I) (J : mm_J) : Option (Int32) :=
  if mm_inb v1 (mm_al S (mm_rf S v0 13)) = true then (if (I (mm_rf S v0 13) v1.toNatClampNeg) = 0 then (f11_maySwap_30 S n I J) else (if mm_inb v1 (mm_al S (mm_rf S v0 17)) = true then (if 0 ≤ (I (mm_rf S v0 17) v1.toNatClampNeg) then (f11_maySwap_30 S n I J) else ((f11_knownMany S n v0 v1 I J).bind fun o5 => if o5 ≤ 0 then (f11_maySwap_30 S n I J) else (f11_maySwap_31 S n 1 I J))) else none)) else none
/-! ForgottenCraftsModel.night(II)I -/
def f11_night_16 (S : mm_Sh) (n : Nat)  (I : mm_I) (J : mm_J) : Option (Int32 × mm_I × mm_J) :=
  some ((-1000000001), I, J)
def f11_night_47 (S : mm_Sh) (n : Nat)  (I : mm_I) (J : mm_J) : Option (Int32 × mm_I × mm_J) :=
  some ((-1000000003), I, J)
def f11_night_162 (S : mm_Sh) (n : Nat) (s0 : Int32) (I : mm_I) (J : mm_J) : Option (Int32 × mm_I × mm_J) :=
  some (s0, I, J)
def f11_night_151 (S : mm_Sh) (n : Nat) (v4 : Int32) (s0 : Nat) (s1 : Int32) (s2 : Int32) (I : mm_I) (J : mm_J) : Option (Int32 × mm_I × mm_J) :=
  if mm_inb s1 (mm_al S s0) = true then (if v4 = 0 then (f11_night_162 S n 0 (mm_up I s0 s1.toNatClampNeg s2) J) else (f11_night_162 S n 1 (mm_up I s0 s1.toNatClampNeg s2) J)) else none
def f11_night_145 (S : mm_Sh) (n : Nat) (v0 : Nat) (v1 : Int32) (v4 : Int32) (s0 : Nat) (s1 : Int32) (I : mm_I) (J : mm_J) : Option (Int32 × mm_I × mm_J) :=
  if mm_inb v1 (mm_al S (mm_rf S v0 19)) = true then (f11_night_151 S n v4 s0 s1 (I (mm_rf S v0 19) v1.toNatClampNeg) I J) else none
def f11_night_120 (S : mm_Sh) (n : Nat) (v0 : Nat) (v1 : Int32) (v2 : Int32) (s0 : Int32) (I : mm_I) (J : mm_J) : Option (Int32 × mm_I × mm_J) :=
  if s0 = 0 then (f11_night_145 S n v0 v1 s0 (mm_rf S v0 19) v1 I J) else (if mm_inb v1 (mm_al S (mm_rf S v0 19)) = true then (if 0 ≤ (I (mm_rf S v0 19) v1.toNatClampNeg) then (f11_night_145 S n v0 v1 s0 (mm_rf S v0 19) v1 I J) else (f11_night_151 S n s0 (mm_rf S v0 19) v1 v2 I J)) else none)
def f11_night_86 (S : mm_Sh) (n : Nat) (v0 : Nat) (v1 : Int32) (v2 : Int32) (s0 : Nat) (s1 : Int32) (s2 : Int32) (I : mm_I) (J : mm_J) : Option (Int32 × mm_I × mm_J) :=
  if mm_inb s1 (mm_al S s0) = true then (if mm_inb v1 (mm_al S (mm_rf S v0 22)) = true then ((f11_draw S v0 100 (mm_up (mm_up I s0 s1.toNatClampNeg s2) (mm_rf S v0 22) v1.toNatClampNeg 1) J).bind fun o3 => (f11_livesSet S n v0 o3.2.1 o3.2.2).bind fun o4 => (f11_bits S n o4 o3.2.1 o3.2.2).bind fun o5 => if (10 * (o5 - 1)) ≤ o3.1 then (f11_night_120 S n v0 v1 v2 0 o3.2.1 o3.2.2) else (f11_night_120 S n v0 v1 v2 1 o3.2.1 o3.2.2)) else none) else none
def f11_night (S : mm_Sh) (n : Nat) (v0 : Nat) (v1 : Int32) (v2 : Int32) (I : mm_I) (J : mm_J) : Option (Int32 × mm_I × mm_J) :=
  (f11_isPerson S v0 v1 I J).bind fun o1 => if o1 = 0 then (f11_night_16 S n I J) else ((f11_isTrade S v0 v2 I J).bind fun o3 => if o3 = 0 then (f11_night_16 S n I J) else (if mm_inb v1 (mm_al S (mm_rf S v0 13)) = true then (if (I (mm_rf S v0 13) v1.toNatClampNeg) = 0 then (f11_night_47 S n I J) else ((f11_knows S v0 v1 v2 I J).bind fun o7 => if o7 = 0 then (f11_night_47 S n I J) else (if mm_inb v1 (mm_al S (mm_rf S v0 22)) = true then (if (I (mm_rf S v0 22) v1.toNatClampNeg) = 0 then (if mm_inb ((6 * v1) + v2) (mm_al S (mm_rf S v0 14)) = true then (if ((I (mm_rf S v0 14) ((6 * v1) + v2).toNatClampNeg) + 5) ≤ 100 then (f11_night_86 S n v0 v1 v2 (mm_rf S v0 14) ((6 * v1) + v2) ((I (mm_rf S v0 14) ((6 * v1) + v2).toNatClampNeg) + 5) I J) else (f11_night_86 S n v0 v1 v2 (mm_rf S v0 14) ((6 * v1) + v2) 100 I J)) else none) else (f11_night_47 S n I J)) else none))) else none))
/-! ForgottenCraftsModel.person(II)I -/
def f11_person_115 (S : mm_Sh) (n : Nat) (s0 : Int32) (I : mm_I) (J : mm_J) : Option (Int32) :=
  some s0
def f11_person_130 (S : mm_Sh) (n : Nat) (s0 : Int32) (I : mm_I) (J : mm_J) : Option (Int32) :=
  some s0
def f11_person (S : mm_Sh) (n : Nat) (v0 : Nat) (v1 : Int32) (v2 : Int32) (I : mm_I) (J : mm_J) : Option (Int32) :=
  (f11_isPerson S v0 v1 I J).bind fun o1 => if o1 = 0 then (some (-1000000001)) else (if v2 = 0 then (if mm_inb v1 (mm_al S (mm_rf S v0 12)) = true then (some (I (mm_rf S v0 12) v1.toNatClampNeg)) else none) else (if v2 = 1 then (if mm_inb v1 (mm_al S (mm_rf S v0 16)) = true then (some (I (mm_rf S v0 16) v1.toNatClampNeg)) else none) else (if v2 = 2 then (if mm_inb v1 (mm_al S (mm_rf S v0 17)) = true then (some (I (mm_rf S v0 17) v1.toNatClampNeg)) else none) else (if v2 = 3 then (if mm_inb v1 (mm_al S (mm_rf S v0 19)) = true then (some (I (mm_rf S v0 19) v1.toNatClampNeg)) else none) else (if v2 = 4 then ((f11_knownSet S n v0 v1 I J).bind fun o16 => some o16) else (if v2 = 5 then (if mm_inb v1 (mm_al S (mm_rf S v0 20)) = true then (some (I (mm_rf S v0 20) v1.toNatClampNeg)) else none) else (if v2 = 6 then (if mm_inb v1 (mm_al S (mm_rf S v0 21)) = true then (if (I (mm_rf S v0 21) v1.toNatClampNeg) = 0 then (f11_person_115 S n 0 I J) else (f11_person_115 S n 1 I J)) else none) else (if v2 = 7 then (if mm_inb v1 (mm_al S (mm_rf S v0 22)) = true then (if (I (mm_rf S v0 22) v1.toNatClampNeg) = 0 then (f11_person_130 S n 0 I J) else (f11_person_130 S n 1 I J)) else none) else (some (-1000000002))))))))))
/-! ForgottenCraftsModel.practise(II)I -/
def f11_practise_16 (S : mm_Sh)  (I : mm_I) (J : mm_J) : Option (Int32 × mm_I × mm_J) :=
  some ((-1000000001), I, J)
def f11_practise_38 (S : mm_Sh)  (I : mm_I) (J : mm_J) : Option (Int32 × mm_I × mm_J) :=
  some ((-1000000003), I, J)
def f11_practise (S : mm_Sh) (v0 : Nat) (v1 : Int32) (v2 : Int32) (I : mm_I) (J : mm_J) : Option (Int32 × mm_I × mm_J) :=
  (f11_isPerson S v0 v1 I J).bind fun o1 => if o1 = 0 then (f11_practise_16 S I J) else ((f11_isTrade S v0 v2 I J).bind fun o3 => if o3 = 0 then (f11_practise_16 S I J) else (if mm_inb v1 (mm_al S (mm_rf S v0 13)) = true then (if (I (mm_rf S v0 13) v1.toNatClampNeg) = 0 then (f11_practise_38 S I J) else ((f11_knows S v0 v1 v2 I J).bind fun o7 => if o7 = 0 then (f11_practise_38 S I J) else (if mm_inb v1 (mm_al S (mm_rf S v0 16)) = true then (if mm_inb v1 (mm_al S (mm_rf S v0 16)) = true then (some (I (mm_rf S v0 16) v1.toNatClampNeg, mm_up I (mm_rf S v0 16) v1.toNatClampNeg v2, J)) else none) else none))) else none))
/-! ForgottenCraftsModel.skill(II)I -/
def f11_skill_33 (S : mm_Sh) (s0 : Int32) (I : mm_I) (J : mm_J) : Option (Int32) :=
  some s0
def f11_skill_30 (S : mm_Sh)  (I : mm_I) (J : mm_J) : Option (Int32) :=
  f11_skill_33 S (-1000000001) I J
def f11_skill (S : mm_Sh) (v0 : Nat) (v1 : Int32) (v2 : Int32) (I : mm_I) (J : mm_J) : Option (Int32) :=
  (f11_isPerson S v0 v1 I J).bind fun o1 => if o1 = 0 then (f11_skill_30 S I J) else ((f11_isTrade S v0 v2 I J).bind fun o3 => if o3 = 0 then (f11_skill_30 S I J) else (if mm_inb ((6 * v1) + v2) (mm_al S (mm_rf S v0 14)) = true then (f11_skill_33 S (I (mm_rf S v0 14) ((6 * v1) + v2).toNatClampNeg) I J) else none))
/-! ForgottenCraftsModel.told(I)I -/
def f11_told_129 (S : mm_Sh) (n : Nat) (s0 : Int32) (I : mm_I) (J : mm_J) : Option (Int32) :=
  some s0
def f11_told (S : mm_Sh) (n : Nat) (v0 : Nat) (v1 : Int32) (I : mm_I) (J : mm_J) : Option (Int32) :=
  if v1 = 0 then (some (I v0 0)) else (if v1 = 1 then (some (I v0 2)) else (if v1 = 2 then ((f11_livesSet S n v0 I J).bind fun o17 => some o17) else (if v1 = 3 then (some (I v0 23)) else (if v1 = 4 then (some (I v0 6)) else (if v1 = 5 then (some (I v0 7)) else (if v1 = 6 then (some (I v0 8)) else (if v1 = 7 then (some (I v0 9)) else (if v1 = 8 then (some (I v0 10)) else (if v1 = 9 then (if (I v0 11) = 0 then (f11_told_129 S n 0 I J) else (f11_told_129 S n 1 I J)) else (if v1 = 10 then (some (I v0 27)) else (if v1 = 11 then (some (I v0 48)) else (if v1 = 12 then (some (I v0 51)) else (if v1 = 13 then ((f11_deadSet S n v0 I J).bind fun o15 => some o15) else (some (-1000000002)))))))))))))))
/-! ForgottenCraftsModel.trade(II)I -/
def f11_trade (S : mm_Sh) (n : Nat) (v0 : Nat) (v1 : Int32) (v2 : Int32) (I : mm_I) (J : mm_J) : Option (Int32) :=
  (f11_isTrade S v0 v1 I J).bind fun o1 => if o1 = 0 then (some (-1000000001)) else (if v2 = 0 then (if mm_inb ((4 * v1) + v2) (mm_al S (mm_rf S v0 1)) = true then (some (I (mm_rf S v0 1) ((4 * v1) + v2).toNatClampNeg)) else none) else (if v2 = 1 then (if mm_inb ((4 * v1) + v2) (mm_al S (mm_rf S v0 1)) = true then (some (I (mm_rf S v0 1) ((4 * v1) + v2).toNatClampNeg)) else none) else (if v2 = 2 then (if mm_inb ((4 * v1) + v2) (mm_al S (mm_rf S v0 1)) = true then (some (I (mm_rf S v0 1) ((4 * v1) + v2).toNatClampNeg)) else none) else (if v2 = 3 then (if mm_inb ((4 * v1) + v2) (mm_al S (mm_rf S v0 1)) = true then (some (I (mm_rf S v0 1) ((4 * v1) + v2).toNatClampNeg)) else none) else (if v2 = 4 then ((f11_knowers S n v0 v1 1 I J).bind fun o12 => some o12) else (if v2 = 5 then ((f11_knowers S n v0 v1 50 I J).bind fun o11 => some o11) else (if v2 = 6 then (if mm_inb v1 (mm_al S (mm_rf S v0 25)) = true then (some (I (mm_rf S v0 25) v1.toNatClampNeg)) else none) else (some (-1000000002)))))))))
/-! ForgottenCraftsModel.tradeYear(II)V -/
def f11_tradeYear_73 (S : mm_Sh) (n : Nat)  (I : mm_I) (J : mm_J) : Option (mm_I × mm_J) :=
  some (I, J)
def f11_tradeYear_199 (S : mm_Sh) (n : Nat)  (I : mm_I) (J : mm_J) : Option (mm_I × mm_J) :=
  some (I, J)
def f11_tradeYear_132 (S : mm_Sh) (n : Nat) (s0 : Nat) (s1 : Int32) (s2 : Int32) (I : mm_I) (J : mm_J) : Option (mm_I × mm_J) :=
  if mm_inb s1 (mm_al S s0) = true then (f11_tradeYear_199 S n (mm_up I s0 s1.toNatClampNeg s2) J) else none
def f11_tradeYear_63 (S : mm_Sh) (n : Nat) (v0 : Nat) (v1 : Int32) (v2 : Int32) (v3 : Int32) (v4 : Int32) (v5 : Int32) (I : mm_I) (J : mm_J) : Option (mm_I × mm_J) :=
  if v4 = 0 then (if v5 = 0 then (if mm_inb v3 (mm_al S (mm_rf S v0 14)) = true then (if (I (mm_rf S v0 14) v3.toNatClampNeg) ≤ 0 then (if mm_inb (4 * v2) (mm_al S (mm_rf S v0 1)) = true then (if (I (mm_rf S v0 1) (4 * v2).toNatClampNeg) = 1 then (if mm_inb v3 (mm_al S (mm_rf S v0 15)) = true then (if (I (mm_rf S v0 15) v3.toNatClampNeg) < 0 then (f11_tradeYear_199 S n I J) else (if mm_inb v3 (mm_al S (mm_rf S v0 15)) = true then (if (I v0 23) < ((I (mm_rf S v0 15) v3.toNatClampNeg) + 9) then (f11_tradeYear_199 S n I J) else ((f11_knownMany S n v0 v1 I J).bind fun o11 => if (I v0 6) ≤ o11 then (f11_tradeYear_199 S n I J) else (if mm_inb v3 (mm_al S (mm_rf S v0 14)) = true then (if mm_inb v3 (mm_al S (mm_rf S v0 15)) = true then (f11_tradeYear_199 S n (mm_up (mm_up I (mm_rf S v0 14) v3.toNatClampNeg 1) (mm_rf S v0 15) v3.toNatClampNeg (-1)) J) else none) else none))) else none)) else none) else (f11_tradeYear_199 S n I J)) else none) else (if mm_inb v3 (mm_al S (mm_rf S v0 14)) = true then (if mm_inb v1 (mm_al S (mm_rf S v0 16)) = true then (if (I (mm_rf S v0 16) v1.toNatClampNeg) = v2 then (if mm_inb v3 (mm_al S (mm_rf S v0 14)) = true then (f11_tradeYear_132 S n (mm_rf S v0 14) v3 (I (mm_rf S v0 14) v3.toNatClampNeg) I J) else none) else (if 1 ≤ ((I (mm_rf S v0 14) v3.toNatClampNeg) - (I v0 9)) then (f11_tradeYear_132 S n (mm_rf S v0 14) v3 ((I (mm_rf S v0 14) v3.toNatClampNeg) - (I v0 9)) I J) else (f11_tradeYear_132 S n (mm_rf S v0 14) v3 1 I J))) else none) else none)) else none) else (f11_tradeYear_73 S n I J)) else (f11_tradeYear_73 S n I J)
def f11_tradeYear_52 (S : mm_Sh) (n : Nat) (v0 : Nat) (v1 : Int32) (v2 : Int32) (v3 : Int32) (v4 : Int32) (v5 : Int32) (I : mm_I) (J : mm_J) : Option (mm_I × mm_J) :=
  if v5 = 0 then (f11_tradeYear_63 S n v0 v1 v2 v3 v4 v5 I J) else ((f11_learnOn S v0 v1 v2 I J).bind fun o2 => f11_tradeYear_63 S n v0 v1 v2 v3 v4 v5 o2.1 o2.2)
def f11_tradeYear_39 (S : mm_Sh) (n : Nat) (v0 : Nat) (v1 : Int32) (v2 : Int32) (v3 : Int32) (v4 : Int32) (s0 : Int32) (I : mm_I) (J : mm_J) : Option (mm_I × mm_J) :=
  if v4 = 0 then (f11_tradeYear_52 S n v0 v1 v2 v3 v4 s0 I J) else ((f11_forgetOn S v0 v1 v2 I J).bind fun o2 => f11_tradeYear_52 S n v0 v1 v2 v3 v4 s0 o2.1 o2.2)
def f11_tradeYear_22 (S : mm_Sh) (n : Nat) (v0 : Nat) (v1 : Int32) (v2 : Int32) (v3 : Int32) (s0 : Int32) (I : mm_I) (J : mm_J) : Option (mm_I × mm_J) :=
  if mm_inb v1 (mm_al S (mm_rf S v0 17)) = true then (if (I (mm_rf S v0 17) v1.toNatClampNeg) = v2 then (f11_tradeYear_39 S n v0 v1 v2 v3 s0 1 I J) else (f11_tradeYear_39 S n v0 v1 v2 v3 s0 0 I J)) else none
def f11_tradeYear (S : mm_Sh) (n : Nat) (v0 : Nat) (v1 : Int32) (v2 : Int32) (I : mm_I) (J : mm_J) : Option (mm_I × mm_J) :=
  if mm_inb v1 (mm_al S (mm_rf S v0 19)) = true then (if (I (mm_rf S v0 19) v1.toNatClampNeg) = v2 then (f11_tradeYear_22 S n v0 v1 v2 ((6 * v1) + v2) 1 I J) else (f11_tradeYear_22 S n v0 v1 v2 ((6 * v1) + v2) 0 I J)) else none
/-! ForgottenCraftsModel.want(II)I -/
def f11_want (S : mm_Sh) (v0 : Nat) (v1 : Int32) (v2 : Int32) (I : mm_I) (J : mm_J) : Option (Int32 × mm_I × mm_J) :=
  (f11_isTrade S v0 v1 I J).bind fun o1 => if o1 = 0 then (some ((-1000000001), I, J)) else ((f11_in S v2.toInt64 0 8 I J).bind fun o3 => if o3 = 0 then (some ((-1000000002), I, J)) else (if mm_inb v1 (mm_al S (mm_rf S v0 25)) = true then (if mm_inb v1 (mm_al S (mm_rf S v0 25)) = true then (some (I (mm_rf S v0 25) v1.toNatClampNeg, mm_up I (mm_rf S v0 25) v1.toNatClampNeg v2, J)) else none) else none))
/-! ForgottenCraftsModel.write(III)I -/
def f11_write_16 (S : mm_Sh)  (I : mm_I) (J : mm_J) : Option (Int32 × mm_I × mm_J) :=
  some ((-1000000001), I, J)
def f11_write (S : mm_Sh) (v0 : Nat) (v1 : Int32) (v2 : Int32) (v3 : Int32) (I : mm_I) (J : mm_J) : Option (Int32 × mm_I × mm_J) :=
  (f11_isPerson S v0 v1 I J).bind fun o1 => if o1 = 0 then (f11_write_16 S I J) else ((f11_isTrade S v0 v2 I J).bind fun o3 => if o3 = 0 then (f11_write_16 S I J) else ((f11_in S v3.toInt64 0 100 I J).bind fun o5 => if o5 = 0 then (some ((-1000000002), I, J)) else (if (I v0 51) = 40 then (some ((-1000000004), I, J)) else (if mm_inb (I v0 51) (mm_al S (mm_rf S v0 52)) = true then (if mm_inb ((mm_up I (mm_rf S v0 52) (I v0 51).toNatClampNeg v1) v0 51) (mm_al S (mm_rf S v0 53)) = true then (if mm_inb ((mm_up (mm_up I (mm_rf S v0 52) (I v0 51).toNatClampNeg v1) (mm_rf S v0 53) ((mm_up I (mm_rf S v0 52) (I v0 51).toNatClampNeg v1) v0 51).toNatClampNeg v2) v0 51) (mm_al S (mm_rf S v0 54)) = true then (some ((mm_up (mm_up (mm_up (mm_up I (mm_rf S v0 52) (I v0 51).toNatClampNeg v1) (mm_rf S v0 53) ((mm_up I (mm_rf S v0 52) (I v0 51).toNatClampNeg v1) v0 51).toNatClampNeg v2) (mm_rf S v0 54) ((mm_up (mm_up I (mm_rf S v0 52) (I v0 51).toNatClampNeg v1) (mm_rf S v0 53) ((mm_up I (mm_rf S v0 52) (I v0 51).toNatClampNeg v1) v0 51).toNatClampNeg v2) v0 51).toNatClampNeg v3) v0 51 (((mm_up (mm_up (mm_up I (mm_rf S v0 52) (I v0 51).toNatClampNeg v1) (mm_rf S v0 53) ((mm_up I (mm_rf S v0 52) (I v0 51).toNatClampNeg v1) v0 51).toNatClampNeg v2) (mm_rf S v0 54) ((mm_up (mm_up I (mm_rf S v0 52) (I v0 51).toNatClampNeg v1) (mm_rf S v0 53) ((mm_up I (mm_rf S v0 52) (I v0 51).toNatClampNeg v1) v0 51).toNatClampNeg v2) v0 51).toNatClampNeg v3) v0 51) + 1)) v0 51, mm_up (mm_up (mm_up (mm_up I (mm_rf S v0 52) (I v0 51).toNatClampNeg v1) (mm_rf S v0 53) ((mm_up I (mm_rf S v0 52) (I v0 51).toNatClampNeg v1) v0 51).toNatClampNeg v2) (mm_rf S v0 54) ((mm_up (mm_up I (mm_rf S v0 52) (I v0 51).toNatClampNeg v1) (mm_rf S v0 53) ((mm_up I (mm_rf S v0 52) (I v0 51).toNatClampNeg v1) v0 51).toNatClampNeg v2) v0 51).toNatClampNeg v3) v0 51 (((mm_up (mm_up (mm_up I (mm_rf S v0 52) (I v0 51).toNatClampNeg v1) (mm_rf S v0 53) ((mm_up I (mm_rf S v0 52) (I v0 51).toNatClampNeg v1) v0 51).toNatClampNeg v2) (mm_rf S v0 54) ((mm_up (mm_up I (mm_rf S v0 52) (I v0 51).toNatClampNeg v1) (mm_rf S v0 53) ((mm_up I (mm_rf S v0 52) (I v0 51).toNatClampNeg v1) v0 51).toNatClampNeg v2) v0 51).toNatClampNeg v3) v0 51) + 1), J)) else none) else none) else none))))
/-! ForgottenCrafts$Folk.bestOf(I)I -/
def f1_bestOf_27 (S : mm_Sh) (n : Nat) (rec4 : Nat → Int32 → Int32 → Int32 → mm_I → mm_J → Option (Int32)) (v0 : Nat) (v1 : Int32) (v2 : Int32) (v3 : Int32) (I : mm_I) (J : mm_J) : Option (Int32) :=
  rec4 v0 v1 v2 (v3 + 1) I J
def f1_bestOf_4_b (S : mm_Sh) (n : Nat) (rec4 : Nat → Int32 → Int32 → Int32 → mm_I → mm_J → Option (Int32)) (v0 : Nat) (v1 : Int32) (v2 : Int32) (v3 : Int32) (I : mm_I) (J : mm_J) : Option (Int32) :=
  if 6 ≤ v3 then (some v2) else ((f1_skillOf S v0 v1 v3 I J).bind fun o2 => (f1_skillOf S v0 v1 v2 I J).bind fun o3 => if o2 ≤ o3 then (f1_bestOf_27 S n rec4 v0 v1 v2 v3 I J) else (f1_bestOf_27 S n rec4 v0 v1 v3 v3 I J))
def f1_bestOf_4 (S : mm_Sh) (n : Nat) : Nat → Nat → Int32 → Int32 → Int32 → mm_I → mm_J → Option (Int32)
  | 0 => fun _ _ _ _ _ _ => none
  | k + 1 => f1_bestOf_4_b S n (f1_bestOf_4 S n k)
def f1_bestOf (S : mm_Sh) (n : Nat) (v0 : Nat) (v1 : Int32) (I : mm_I) (J : mm_J) : Option (Int32) :=
  f1_bestOf_4 S n n v0 v1 (-1) 0 I J
/-! ForgottenCrafts$Folk.clear()V -/
def f1_clear_27_b (S : mm_Sh) (n : Nat) (rec27 : Nat → Int32 → mm_I → mm_J → Option (mm_I × mm_J)) (v0 : Nat) (v1 : Int32) (I : mm_I) (J : mm_J) : Option (mm_I × mm_J) :=
  if 8 ≤ v1 then (some (I, J)) else ((f1_empty S n v0 v1 I J).bind fun o2 => (f6_put S (mm_rf S v0 0) v1 0 o2.1 o2.2).bind fun o3 => (f6_put S (mm_rf S v0 7) v1 0 o3.1 o3.2).bind fun o4 => rec27 v0 (v1 + 1) o4.1 o4.2)
def f1_clear_27 (S : mm_Sh) (n : Nat) : Nat → Nat → Int32 → mm_I → mm_J → Option (mm_I × mm_J)
  | 0 => fun _ _ _ _ => none
  | k + 1 => f1_clear_27_b S n (f1_clear_27 S n k)
def f1_clear (S : mm_Sh) (n : Nat) (v0 : Nat) (I : mm_I) (J : mm_J) : Option (mm_I × mm_J) :=
  f1_clear_27 S n n v0 0 (mm_up (mm_up (mm_up (mm_up (mm_up I v0 8 0) v0 9 0) v0 10 0) v0 11 0) v0 12 0) J
/-! ForgottenCrafts$Folk.withSkill(II)I -/
def f1_withSkill_30 (S : mm_Sh) (n : Nat) (rec5 : Nat → Int32 → Int32 → Int32 → Int32 → mm_I → mm_J → Option (Int32)) (v0 : Nat) (v1 : Int32) (v2 : Int32) (v3 : Int32) (v4 : Int32) (I : mm_I) (J : mm_J) : Option (Int32) :=
  rec5 v0 v1 v2 v3 (v4 + 1) I J
def f1_withSkill_5_b (S : mm_Sh) (n : Nat) (rec5 : Nat → Int32 → Int32 → Int32 → Int32 → mm_I → mm_J → Option (Int32)) (v0 : Nat) (v1 : Int32) (v2 : Int32) (v3 : Int32) (v4 : Int32) (I : mm_I) (J : mm_J) : Option (Int32) :=
  if 8 ≤ v4 then (some v3) else ((f1_skillOf S v0 v4 v1 I J).bind fun o2 => if o2 < v2 then (f1_withSkill_30 S n rec5 v0 v1 v2 v3 v4 I J) else (f1_withSkill_30 S n rec5 v0 v1 v2 (v3 ||| ((1 : Int32) <<< (v4 &&& 31))) v4 I J))
def f1_withSkill_5 (S : mm_Sh) (n : Nat) : Nat → Nat → Int32 → Int32 → Int32 → Int32 → mm_I → mm_J → Option (Int32)
  | 0 => fun _ _ _ _ _ _ _ => none
  | k + 1 => f1_withSkill_5_b S n (f1_withSkill_5 S n k)
def f1_withSkill (S : mm_Sh) (n : Nat) (v0 : Nat) (v1 : Int32) (v2 : Int32) (I : mm_I) (J : mm_J) : Option (Int32) :=
  f1_withSkill_5 S n n v0 v1 v2 0 0 I J
/-! ForgottenCrafts$Life.bearChild(I)V -/
def f2_bearChild_88 (S : mm_Sh)  (I : mm_I) (J : mm_J) : Option (mm_I × mm_J) :=
  some (I, J)
def f2_bearChild (S : mm_Sh) (v0 : Nat) (v1 : Int32) (I : mm_I) (J : mm_J) : Option (mm_I × mm_J) :=
  (f6_put S (mm_rf S (mm_rf S v0 2) 0) v1 0 (mm_up I (mm_rf S v0 2) 8 ((I (mm_rf S v0 2) 8) ||| ((1 : Int32) <<< (v1 &&& 31)))) J).bind fun o1 => (f6_put S (mm_rf S (mm_rf S v0 2) 7) v1 0 o1.1 o1.2).bind fun o2 => (f1_draw S (mm_rf S v0 2) (o2.1 (mm_rf S v0 0) 5) o2.1 o2.2).bind fun o3 => (f0_isForbidden S (mm_rf S v0 0) o3.1 o3.2.1 o3.2.2).bind fun o4 => if o4 = 0 then ((f1_setSkill S (mm_rf S v0 2) v1 o3.1 50 o3.2.1 o3.2.2).bind fun o6 => (f6_put S (mm_rf S (mm_rf S v0 2) 3) v1 o3.1 o6.1 o6.2).bind fun o7 => f2_bearChild_88 S o7.1 o7.2) else (f2_bearChild_88 S o3.2.1 o3.2.2)
/-! ForgottenCrafts$Life.fade(II)V -/
def f2_fade_129 (S : mm_Sh)  (I : mm_I) (J : mm_J) : Option (mm_I × mm_J) :=
  some (I, J)
def f2_fade_117 (S : mm_Sh) (v0 : Nat) (v1 : Int32) (I : mm_I) (J : mm_J) : Option (mm_I × mm_J) :=
  (f6_put S (mm_rf S (mm_rf S v0 2) 6) v1 (-1) I J).bind fun o1 => f2_fade_129 S o1.1 o1.2
def f2_fade_107 (S : mm_Sh) (v0 : Nat) (v1 : Int32) (v4 : Int32) (v5 : Int32) (I : mm_I) (J : mm_J) : Option (mm_I × mm_J) :=
  if v5 = 0 then (if 0 < v4 then (f2_fade_129 S I J) else (f2_fade_117 S v0 v1 I J)) else (f2_fade_117 S v0 v1 I J)
def f2_fade_65 (S : mm_Sh) (v0 : Nat) (v1 : Int32) (v2 : Int32) (v4 : Int32) (v5 : Int32) (I : mm_I) (J : mm_J) : Option (mm_I × mm_J) :=
  (f1_setSkill S (mm_rf S v0 2) v1 v2 (if 0 < v4 then v4 else 0) I J).bind fun o1 => if 0 < v4 then (f2_fade_107 S v0 v1 v4 v5 o1.1 o1.2) else ((f10_cell S v1 v2 o1.1 o1.2).bind fun o3 => (f6_put S (mm_rf S (mm_rf S v0 2) 2) o3 (o1.1 (mm_rf S v0 2) 11) o1.1 o1.2).bind fun o4 => f2_fade_107 S v0 v1 v4 v5 o4.1 o4.2)
def f2_fade_54 (S : mm_Sh) (v0 : Nat) (v1 : Int32) (v2 : Int32) (v4 : Int32) (s0 : Int32) (I : mm_I) (J : mm_J) : Option (mm_I × mm_J) :=
  if s0 = 0 then (f2_fade_65 S v0 v1 v2 v4 s0 I J) else (f2_fade_65 S v0 v1 v2 50 s0 I J)
def f2_fade_53 (S : mm_Sh) (v0 : Nat) (v1 : Int32) (v2 : Int32) (v4 : Int32) (I : mm_I) (J : mm_J) : Option (mm_I × mm_J) :=
  f2_fade_54 S v0 v1 v2 v4 0 I J
def f2_fade (S : mm_Sh) (v0 : Nat) (v1 : Int32) (v2 : Int32) (I : mm_I) (J : mm_J) : Option (mm_I × mm_J) :=
  (f1_skillOf S (mm_rf S v0 2) v1 v2 I J).bind fun o1 => (f6_at S (mm_rf S (mm_rf S v0 0) 0) v2 I J).bind fun o2 => if o2 = 2 then (if o1 < 50 then (f2_fade_53 S v0 v1 v2 (o1 - (I (mm_rf S v0 1) 2)) I J) else (if 50 < (o1 - (I (mm_rf S v0 1) 2)) then (f2_fade_53 S v0 v1 v2 (o1 - (I (mm_rf S v0 1) 2)) I J) else (f2_fade_54 S v0 v1 v2 (o1 - (I (mm_rf S v0 1) 2)) 1 I J))) else (f2_fade_53 S v0 v1 v2 (o1 - (I (mm_rf S v0 1) 2)) I J)
/-! ForgottenCrafts$Life.hasRoom(I)Z -/
def f2_hasRoom_26 (S : mm_Sh) (n : Nat) (s0 : Int32) (I : mm_I) (J : mm_J) : Option (Int32) :=
  if mm_bit s0 = true then some s0 else none
def f2_hasRoom (S : mm_Sh) (n : Nat) (v0 : Nat) (v1 : Int32) (I : mm_I) (J : mm_J) : Option (Int32) :=
  (f1_knownBy S n (mm_rf S v0 2) v1 I J).bind fun o1 => (fJ6_bitCount S o1 I J).bind fun o2 => if (I (mm_rf S v0 1) 0) ≤ o2 then (f2_hasRoom_26 S n 0 I J) else (f2_hasRoom_26 S n 1 I J)
/-! ForgottenCrafts$Life.learnOn(II)V -/
def f2_learnOn_106 (S : mm_Sh)  (I : mm_I) (J : mm_J) : Option (mm_I × mm_J) :=
  some (I, J)
def f2_learnOn_62 (S : mm_Sh) (v0 : Nat) (v1 : Int32) (v2 : Int32) (v3 : Int32) (s0 : Int32) (I : mm_I) (J : mm_J) : Option (mm_I × mm_J) :=
  (f1_setSkill S (mm_rf S v0 2) v1 v2 s0 I J).bind fun o1 => (f6_put S (mm_rf S (mm_rf S v0 2) 5) v1 v3 o1.1 o1.2).bind fun o2 => if s0 = 100 then ((f6_put S (mm_rf S (mm_rf S v0 2) 4) v1 (-1) o2.1 o2.2).bind fun o4 => f2_learnOn_106 S o4.1 o4.2) else (f2_learnOn_106 S o2.1 o2.2)
def f2_learnOn (S : mm_Sh) (v0 : Nat) (v1 : Int32) (v2 : Int32) (I : mm_I) (J : mm_J) : Option (mm_I × mm_J) :=
  (f6_at S (mm_rf S (mm_rf S v0 2) 5) v1 I J).bind fun o1 => (f6_at S (mm_rf S (mm_rf S v0 0) 1) v2 I J).bind fun o2 => if (o1 + 1) < (if 1 < o2 then o2 else 1) then ((f1_skillOf S (mm_rf S v0 2) v1 v2 I J).bind fun o4 => if (if 1 < o2 then o2 else 1) = 0 then none else (f2_learnOn_62 S v0 v1 v2 (o1 + 1) (if (o4 + (100 / (if 1 < o2 then o2 else 1))) < 100 then (o4 + (100 / (if 1 < o2 then o2 else 1))) else 100) I J)) else (f2_learnOn_62 S v0 v1 v2 (o1 + 1) 100 I J)
/-! ForgottenCrafts$Life.leastLiked(I)I -/
def f2_leastLiked_55 (S : mm_Sh) (n : Nat) (rec4 : Nat → Int32 → Int32 → Int32 → mm_I → mm_J → Option (Int32)) (v0 : Nat) (v1 : Int32) (v2 : Int32) (v3 : Int32) (I : mm_I) (J : mm_J) : Option (Int32) :=
  rec4 v0 v1 v2 (v3 + 1) I J
def f2_leastLiked_53 (S : mm_Sh) (n : Nat) (rec4 : Nat → Int32 → Int32 → Int32 → mm_I → mm_J → Option (Int32)) (v0 : Nat) (v1 : Int32) (v3 : Int32) (I : mm_I) (J : mm_J) : Option (Int32) :=
  f2_leastLiked_55 S n rec4 v0 v1 v3 v3 I J
def f2_leastLiked_4_b (S : mm_Sh) (n : Nat) (rec4 : Nat → Int32 → Int32 → Int32 → mm_I → mm_J → Option (Int32)) (v0 : Nat) (v1 : Int32) (v2 : Int32) (v3 : Int32) (I : mm_I) (J : mm_J) : Option (Int32) :=
  if (I (mm_rf S v0 0) 5) ≤ v3 then (some v2) else ((f1_knows S (mm_rf S v0 2) v1 v3 I J).bind fun o2 => if o2 = 0 then (f2_leastLiked_55 S n rec4 v0 v1 v2 v3 I J) else (if v2 = (-1) then (f2_leastLiked_53 S n rec4 v0 v1 v3 I J) else ((f0_likeOf S (mm_rf S v0 0) v1 v3 I J).bind fun o5 => (f0_likeOf S (mm_rf S v0 0) v1 v2 I J).bind fun o6 => if o6 ≤ o5 then (f2_leastLiked_55 S n rec4 v0 v1 v2 v3 I J) else (f2_leastLiked_53 S n rec4 v0 v1 v3 I J))))
def f2_leastLiked_4 (S : mm_Sh) (n : Nat) : Nat → Nat → Int32 → Int32 → Int32 → mm_I → mm_J → Option (Int32)
  | 0 => fun _ _ _ _ _ _ => none
  | k + 1 => f2_leastLiked_4_b S n (f2_leastLiked_4 S n k)
def f2_leastLiked (S : mm_Sh) (n : Nat) (v0 : Nat) (v1 : Int32) (I : mm_I) (J : mm_J) : Option (Int32) :=
  f2_leastLiked_4 S n n v0 v1 (-1) 0 I J
/-! ForgottenCrafts$Life.mayGiveUp(III)Z -/
def f2_mayGiveUp_47 (S : mm_Sh) (s0 : Int32) (I : mm_I) (J : mm_J) : Option (Int32) :=
  if mm_bit s0 = true then some s0 else none
def f2_mayGiveUp_46 (S : mm_Sh)  (I : mm_I) (J : mm_J) : Option (Int32) :=
  f2_mayGiveUp_47 S 0 I J
def f2_mayGiveUp (S : mm_Sh) (v0 : Nat) (v1 : Int32) (v2 : Int32) (v3 : Int32) (I : mm_I) (J : mm_J) : Option (Int32) :=
  (f1_knows S (mm_rf S v0 2) v1 v3 I J).bind fun o1 => if o1 = 0 then (f2_mayGiveUp_46 S I J) else ((f6_at S (mm_rf S (mm_rf S v0 2) 6) v1 I J).bind fun o3 => if o3 = (-1) then ((f6_at S (mm_rf S (mm_rf S v0 0) 3) v2 I J).bind fun o5 => if o5 = v3 then (f2_mayGiveUp_46 S I J) else (f2_mayGiveUp_47 S 1 I J)) else (f2_mayGiveUp_46 S I J))
/-! ForgottenCrafts$Life.mayLearn(II)Z -/
def f2_mayLearn_49 (S : mm_Sh)  (I : mm_I) (J : mm_J) : Option (Int32) :=
  some 0
def f2_mayLearn_85 (S : mm_Sh) (s0 : Int32) (I : mm_I) (J : mm_J) : Option (Int32) :=
  if mm_bit s0 = true then some s0 else none
def f2_mayLearn_80 (S : mm_Sh)  (I : mm_I) (J : mm_J) : Option (Int32) :=
  f2_mayLearn_85 S 1 I J
def f2_mayLearn (S : mm_Sh) (v0 : Nat) (v1 : Int32) (v2 : Int32) (I : mm_I) (J : mm_J) : Option (Int32) :=
  (f1_lives S (mm_rf S v0 2) v1 I J).bind fun o1 => if o1 = 0 then (f2_mayLearn_49 S I J) else ((f6_at S (mm_rf S (mm_rf S v0 2) 4) v1 I J).bind fun o3 => if o3 = (-1) then ((f1_knows S (mm_rf S v0 2) v1 v2 I J).bind fun o5 => if o5 = 0 then ((f0_isForbidden S (mm_rf S v0 0) v2 I J).bind fun o7 => if o7 = 0 then ((f6_at S (mm_rf S (mm_rf S v0 0) 3) v2 I J).bind fun o9 => if o9 = (-1) then (f2_mayLearn_80 S I J) else ((f1_knows S (mm_rf S v0 2) v1 o9 I J).bind fun o11 => if o11 = 0 then (f2_mayLearn_85 S 0 I J) else (f2_mayLearn_80 S I J))) else (f2_mayLearn_49 S I J)) else (f2_mayLearn_49 S I J)) else (f2_mayLearn_49 S I J))
/-! ForgottenCrafts$Life.mayLend(II)Z -/
def f2_mayLend_42 (S : mm_Sh) (s0 : Int32) (I : mm_I) (J : mm_J) : Option (Int32) :=
  if mm_bit s0 = true then some s0 else none
def f2_mayLend_41 (S : mm_Sh)  (I : mm_I) (J : mm_J) : Option (Int32) :=
  f2_mayLend_42 S 0 I J
def f2_mayLend (S : mm_Sh) (v0 : Nat) (v1 : Int32) (v2 : Int32) (I : mm_I) (J : mm_J) : Option (Int32) :=
  if (I (mm_rf S v0 1) 5) = 0 then (f2_mayLend_41 S I J) else ((f1_knows S (mm_rf S v0 2) v1 v2 I J).bind fun o2 => if o2 = 0 then (f2_mayLend_41 S I J) else ((f6_at S (mm_rf S (mm_rf S v0 2) 6) v1 I J).bind fun o4 => if o4 = (-1) then (f2_mayLend_42 S 1 I J) else (f2_mayLend_41 S I J)))
/-! ForgottenCrafts$Life.witnessesFor(II)I -/
def f2_witnessesFor_108 (S : mm_Sh) (n : Nat) (rec14 : Nat → Int32 → Int32 → Int32 → Int32 → Int32 → mm_I → mm_J → Option (Int32)) (v0 : Nat) (v1 : Int32) (v2 : Int32) (v3 : Int32) (v4 : Int32) (v5 : Int32) (I : mm_I) (J : mm_J) : Option (Int32) :=
  rec14 v0 v1 v2 v3 v4 (v5 + 1) I J
def f2_witnessesFor_79 (S : mm_Sh) (n : Nat) (rec14 : Nat → Int32 → Int32 → Int32 → Int32 → Int32 → mm_I → mm_J → Option (Int32)) (v0 : Nat) (v1 : Int32) (v2 : Int32) (v3 : Int32) (v4 : Int32) (v5 : Int32) (s0 : Int32) (I : mm_I) (J : mm_J) : Option (Int32) :=
  if s0 = 0 then (f2_witnessesFor_108 S n rec14 v0 v1 v2 v3 v4 v5 I J) else (if v5 = v1 then (f2_witnessesFor_108 S n rec14 v0 v1 v2 v3 v4 v5 I J) else (if v5 = v2 then (f2_witnessesFor_108 S n rec14 v0 v1 v2 v3 v4 v5 I J) else (f2_witnessesFor_108 S n rec14 v0 v1 v2 (v3 ||| ((1 : Int32) <<< (v5 &&& 31))) (v4 + (-1)) v5 I J)))
def f2_witnessesFor_78 (S : mm_Sh) (n : Nat) (rec14 : Nat → Int32 → Int32 → Int32 → Int32 → Int32 → mm_I → mm_J → Option (Int32)) (v0 : Nat) (v1 : Int32) (v2 : Int32) (v3 : Int32) (v4 : Int32) (v5 : Int32) (I : mm_I) (J : mm_J) : Option (Int32) :=
  f2_witnessesFor_79 S n rec14 v0 v1 v2 v3 v4 v5 0 I J
def f2_witnessesFor_125 (S : mm_Sh) (n : Nat) (s0 : Int32) (I : mm_I) (J : mm_J) : Option (Int32) :=
  some s0
def f2_witnessesFor_114 (S : mm_Sh) (n : Nat) (v3 : Int32) (v4 : Int32) (I : mm_I) (J : mm_J) : Option (Int32) :=
  if v4 ≤ 0 then (f2_witnessesFor_125 S n v3 I J) else (f2_witnessesFor_125 S n (-1000000003) I J)
def f2_witnessesFor_14_b (S : mm_Sh) (n : Nat) (rec14 : Nat → Int32 → Int32 → Int32 → Int32 → Int32 → mm_I → mm_J → Option (Int32)) (v0 : Nat) (v1 : Int32) (v2 : Int32) (v3 : Int32) (v4 : Int32) (v5 : Int32) (I : mm_I) (J : mm_J) : Option (Int32) :=
  if (I (mm_rf S v0 0) 6) ≤ v5 then (f2_witnessesFor_114 S n v3 v4 I J) else (if v4 ≤ 0 then (f2_witnessesFor_114 S n v3 v4 I J) else ((f1_lives S (mm_rf S v0 2) v5 I J).bind fun o3 => if o3 = 0 then (f2_witnessesFor_78 S n rec14 v0 v1 v2 v3 v4 v5 I J) else ((f6_at S (mm_rf S (mm_rf S v0 2) 4) v5 I J).bind fun o5 => if o5 = (-1) then ((f10_has S (I (mm_rf S v0 2) 9) v5 I J).bind fun o7 => if o7 = 0 then (f2_witnessesFor_79 S n rec14 v0 v1 v2 v3 v4 v5 1 I J) else (f2_witnessesFor_78 S n rec14 v0 v1 v2 v3 v4 v5 I J)) else (f2_witnessesFor_78 S n rec14 v0 v1 v2 v3 v4 v5 I J))))
def f2_witnessesFor_14 (S : mm_Sh) (n : Nat) : Nat → Nat → Int32 → Int32 → Int32 → Int32 → Int32 → mm_I → mm_J → Option (Int32)
  | 0 => fun _ _ _ _ _ _ _ _ => none
  | k + 1 => f2_witnessesFor_14_b S n (f2_witnessesFor_14 S n k)
def f2_witnessesFor (S : mm_Sh) (n : Nat) (v0 : Nat) (v1 : Int32) (v2 : Int32) (I : mm_I) (J : mm_J) : Option (Int32) :=
  f2_witnessesFor_14 S n n v0 v1 v2 0 (I (mm_rf S v0 1) 1) 0 I J
/-! ForgottenCrafts$Life.workByNight(II)Z -/
def f2_workByNight_112 (S : mm_Sh) (v4 : Int32) (I : mm_I) (J : mm_J) : Option (Int32 × mm_I × mm_J) :=
  if mm_bit v4 = true then some (v4, I, J) else none
def f2_workByNight_78 (S : mm_Sh) (v0 : Nat) (v1 : Int32) (v2 : Int32) (s0 : Int32) (I : mm_I) (J : mm_J) : Option (Int32 × mm_I × mm_J) :=
  if s0 = 0 then (f2_workByNight_112 S s0 I J) else ((f6_at S (mm_rf S (mm_rf S v0 2) 6) v1 I J).bind fun o2 => if o2 = (-1) then ((f6_put S (mm_rf S (mm_rf S v0 2) 6) v1 v2 I J).bind fun o4 => f2_workByNight_112 S s0 o4.1 o4.2) else (f2_workByNight_112 S s0 I J))
def f2_workByNight (S : mm_Sh) (v0 : Nat) (v1 : Int32) (v2 : Int32) (I : mm_I) (J : mm_J) : Option (Int32 × mm_I × mm_J) :=
  (f1_skillOf S (mm_rf S v0 2) v1 v2 I J).bind fun o1 => (f1_setSkill S (mm_rf S v0 2) v1 v2 (if (o1 + 5) < 100 then (o1 + 5) else 100) I J).bind fun o2 => (fJ6_bitCount S (((mm_up o2.1 (mm_rf S v0 2) 10 ((o2.1 (mm_rf S v0 2) 10) ||| ((1 : Int32) <<< (v1 &&& 31)))) (mm_rf S v0 2) 8) &&& (((1 : Int32) <<< (v1 &&& 31)) ^^^ (-1))) (mm_up o2.1 (mm_rf S v0 2) 10 ((o2.1 (mm_rf S v0 2) 10) ||| ((1 : Int32) <<< (v1 &&& 31)))) o2.2).bind fun o3 => (f1_draw S (mm_rf S v0 2) 100 (mm_up o2.1 (mm_rf S v0 2) 10 ((o2.1 (mm_rf S v0 2) 10) ||| ((1 : Int32) <<< (v1 &&& 31)))) o2.2).bind fun o4 => if (10 * o3) ≤ o4.1 then (f2_workByNight_78 S v0 v1 v2 0 o4.2.1 o4.2.2) else (f2_workByNight_78 S v0 v1 v2 1 o4.2.1 o4.2.2)
/-! ForgottenCrafts$Plan.costOf(II)I -/
def f3_costOf_122 (S : mm_Sh) (s0 : Int32) (I : mm_I) (J : mm_J) : Option (Int32) :=
  some s0
def f3_costOf_108 (S : mm_Sh) (v4 : Int32) (s0 : Int32) (I : mm_I) (J : mm_J) : Option (Int32) :=
  if s0 = 0 then (f3_costOf_122 S 1000000 I J) else (f3_costOf_122 S v4 I J)
def f3_costOf_103 (S : mm_Sh) (v4 : Int32) (I : mm_I) (J : mm_J) : Option (Int32) :=
  f3_costOf_108 S v4 1 I J
def f3_costOf_107 (S : mm_Sh) (v4 : Int32) (I : mm_I) (J : mm_J) : Option (Int32) :=
  f3_costOf_108 S v4 0 I J
def f3_costOf (S : mm_Sh) (v0 : Nat) (v1 : Int32) (v2 : Int32) (I : mm_I) (J : mm_J) : Option (Int32) :=
  (f1_skillOf S (mm_rf S v0 1) v1 v2 I J).bind fun o1 => (f6_at S (mm_rf S (mm_rf S v0 0) 1) v2 I J).bind fun o2 => if o1 < 50 then (if o1 ≤ 0 then ((f6_at S (mm_rf S (mm_rf S v0 0) 3) v2 I J).bind fun o5 => (f1_lives S (mm_rf S v0 1) v1 I J).bind fun o6 => if o6 = 0 then (f3_costOf_107 S o2 I J) else ((f0_isForbidden S (mm_rf S v0 0) v2 I J).bind fun o8 => if o8 = 0 then (if o5 = (-1) then (f3_costOf_103 S o2 I J) else ((f1_knows S (mm_rf S v0 1) v1 o5 I J).bind fun o11 => if o11 = 0 then (f3_costOf_107 S o2 I J) else (f3_costOf_103 S o2 I J))) else (f3_costOf_107 S o2 I J))) else (some (((o2 * (100 - o1)) + 99) / 100))) else (some 0)
/-! ForgottenCrafts$Plan.sumWith(III)I -/
def f3_sumWith (S : mm_Sh) (v0 : Nat) (v1 : Int32) (v2 : Int32) (v3 : Int32) (I : mm_I) (J : mm_J) : Option (Int32) :=
  if v3 = (-1) then ((f6_at S (mm_rf S v0 5) (((v1 + 1) * (I v0 7)) + v2) I J).bind fun o8 => some o8) else ((f3_stillWanted S v0 v2 v3 I J).bind fun o2 => if o2 = 0 then (some 1000000) else ((f10_cell S v1 v3 I J).bind fun o4 => (f6_at S (mm_rf S v0 4) o4 I J).bind fun o5 => (f6_at S (mm_rf S v0 3) v3 I J).bind fun o6 => (f6_at S (mm_rf S v0 5) ((((v1 + 1) * (I v0 7)) + v2) - o6) I J).bind fun o7 => some (if (o5 + o7) < 1000000 then (o5 + o7) else 1000000)))
/-! ForgottenCrafts$Reader.closeClause()V -/
def f4_closeClause_28 (S : mm_Sh) (n : Nat)  (I : mm_I) (J : mm_J) : Option (mm_I × mm_J) :=
  some (I, J)
def f4_closeClause_17 (S : mm_Sh) (n : Nat) (v0 : Nat) (I : mm_I) (J : mm_J) : Option (mm_I × mm_J) :=
  (f4_isSound S v0 I J).bind fun o1 => if o1 = 0 then (f4_closeClause_28 S n I J) else ((f4_advance S n v0 I J).bind fun o3 => f4_closeClause_28 S n o3.1 o3.2)
def f4_closeClause (S : mm_Sh) (n : Nat) (v0 : Nat) (I : mm_I) (J : mm_J) : Option (mm_I × mm_J) :=
  if (I v0 2) = 3 then (f4_closeClause_17 S n v0 I J) else ((f4_blame S v0 1 (I v0 3) I J).bind fun o2 => f4_closeClause_17 S n v0 o2.1 o2.2)
/-! ForgottenCrafts$Reader.number(II)I -/
def f4_number_54 (S : mm_Sh) (n : Nat) (v0 : Nat) (I : mm_I) (J : mm_J) : Option (Int32 × mm_I × mm_J) :=
  (f4_isSound S v0 I J).bind fun o1 => if o1 = 0 then (some ((-1), I, J)) else ((f4_figures S n v0 I J).bind fun o3 => (f4_advance S n v0 I J).bind fun o4 => some (o3, o4.1, o4.2))
def f4_number_45 (S : mm_Sh) (n : Nat) (v0 : Nat) (I : mm_I) (J : mm_J) : Option (Int32 × mm_I × mm_J) :=
  (f4_blame S v0 2 (I v0 3) I J).bind fun o1 => f4_number_54 S n v0 o1.1 o1.2
def f4_number (S : mm_Sh) (n : Nat) (v0 : Nat) (v1 : Int32) (v2 : Int32) (I : mm_I) (J : mm_J) : Option (Int32 × mm_I × mm_J) :=
  if (I v0 2) = 2 then (if 3 < ((I v0 4) - (I v0 3)) then (f4_number_45 S n v0 I J) else ((f4_figures S n v0 I J).bind fun o3 => (f10_within S o3 v1 v2 I J).bind fun o4 => if o4 = 0 then (f4_number_45 S n v0 I J) else (f4_number_54 S n v0 I J))) else ((f4_blame S v0 1 (I v0 3) I J).bind fun o6 => f4_number_54 S n v0 o6.1 o6.2)
/-! ForgottenCrafts$Reader.open()V -/
def f4_open (S : mm_Sh) (n : Nat) (v0 : Nat) (I : mm_I) (J : mm_J) : Option (mm_I × mm_J) :=
  (f4_advance S n v0 (mm_up (mm_up (mm_up I v0 4 0) v0 5 0) v0 6 (-1)) J).bind fun o1 => some (o1.1, o1.2)
/-! ForgottenCrafts$Rings.gainOf(III)I -/
def f5_gainOf_84 (S : mm_Sh) (s0 : Int32) (I : mm_I) (J : mm_J) : Option (Int32) :=
  some s0
def f5_gainOf_44 (S : mm_Sh) (v0 : Nat) (v1 : Int32) (v2 : Int32) (v3 : Int32) (s0 : Int32) (I : mm_I) (J : mm_J) : Option (Int32) :=
  if s0 = 0 then (f5_gainOf_84 S 0 I J) else ((f0_likeOf S (mm_rf S (mm_rf S v0 0) 0) v1 v3 I J).bind fun o2 => (f0_likeOf S (mm_rf S (mm_rf S v0 0) 0) v1 v2 I J).bind fun o3 => f5_gainOf_84 S (if 0 < (o2 - o3) then (o2 - o3) else 0) I J)
def f5_gainOf_43 (S : mm_Sh) (v0 : Nat) (v1 : Int32) (v2 : Int32) (v3 : Int32) (I : mm_I) (J : mm_J) : Option (Int32) :=
  f5_gainOf_44 S v0 v1 v2 v3 0 I J
def f5_gainOf (S : mm_Sh) (v0 : Nat) (v1 : Int32) (v2 : Int32) (v3 : Int32) (I : mm_I) (J : mm_J) : Option (Int32) :=
  if v2 = (-1) then (f5_gainOf_43 S v0 v1 v2 v3 I J) else (if v3 = (-1) then (f5_gainOf_43 S v0 v1 v2 v3 I J) else ((f1_knows S (mm_rf S (mm_rf S v0 0) 2) v1 v3 I J).bind fun o3 => if o3 = 0 then ((f0_isForbidden S (mm_rf S (mm_rf S v0 0) 0) v3 I J).bind fun o5 => if o5 = 0 then (f5_gainOf_44 S v0 v1 v2 v3 1 I J) else (f5_gainOf_43 S v0 v1 v2 v3 I J)) else (f5_gainOf_43 S v0 v1 v2 v3 I J)))
/-! ForgottenCrafts$Rings.walkOn(LForgottenCrafts$Rings;III)V -/
def f5_walkOn_102 (S : mm_Sh) (n : Nat) (self : Nat → Int32 → Int32 → Int32 → mm_I → mm_J → Option (mm_I × mm_J)) (rec48 : Nat → Int32 → Int32 → Int32 → Int32 → Int32 → mm_I → mm_J → Option (mm_I × mm_J)) (v0 : Nat) (v1 : Int32) (v2 : Int32) (v3 : Int32) (v5 : Int32) (v6 : Int32) (I : mm_I) (J : mm_J) : Option (mm_I × mm_J) :=
  rec48 v0 v1 v2 v3 v5 (v6 + 1) I J
def f5_walkOn_48_b (S : mm_Sh) (n : Nat) (self : Nat → Int32 → Int32 → Int32 → mm_I → mm_J → Option (mm_I × mm_J)) (rec48 : Nat → Int32 → Int32 → Int32 → Int32 → Int32 → mm_I → mm_J → Option (mm_I × mm_J)) (v0 : Nat) (v1 : Int32) (v2 : Int32) (v3 : Int32) (v5 : Int32) (v6 : Int32) (I : mm_I) (J : mm_J) : Option (mm_I × mm_J) :=
  if 8 ≤ v6 then (some (I, J)) else ((f5_gainFrom S v0 v5 v6 I J).bind fun o2 => if o2 ≤ 0 then (f5_walkOn_102 S n self rec48 v0 v1 v2 v3 v5 v6 I J) else ((f5_isOnPath S n v0 v6 v1 I J).bind fun o4 => if o4 = 0 then ((f6_put S (mm_rf S v0 3) v1 v6 I J).bind fun o6 => (self v0 (v1 + 1) v2 (v3 + o2) o6.1 o6.2).bind fun o7 => f5_walkOn_102 S n self rec48 v0 v1 v2 v3 v5 v6 o7.1 o7.2) else (f5_walkOn_102 S n self rec48 v0 v1 v2 v3 v5 v6 I J)))
def f5_walkOn_48 (S : mm_Sh) (n : Nat) (self : Nat → Int32 → Int32 → Int32 → mm_I → mm_J → Option (mm_I × mm_J)) : Nat → Nat → Int32 → Int32 → Int32 → Int32 → Int32 → mm_I → mm_J → Option (mm_I × mm_J)
  | 0 => fun _ _ _ _ _ _ _ _ => none
  | k + 1 => f5_walkOn_48_b S n self (f5_walkOn_48 S n self k)
def f5_walkOn_b (S : mm_Sh) (n : Nat) (self : Nat → Int32 → Int32 → Int32 → mm_I → mm_J → Option (mm_I × mm_J)) (v0 : Nat) (v1 : Int32) (v2 : Int32) (v3 : Int32) (I : mm_I) (J : mm_J) : Option (mm_I × mm_J) :=
  (f6_at S (mm_rf S v0 3) 0 I J).bind fun o1 => (f6_at S (mm_rf S v0 3) (v1 - 1) I J).bind fun o2 => if v1 < v2 then (f5_walkOn_48 S n self n v0 v1 v2 v3 o2 (o1 + 1) I J) else ((f5_gainFrom S v0 o2 o1 I J).bind fun o4 => (f5_closeRing S n v0 v2 v3 o4 I J).bind fun o5 => some (o5.1, o5.2))
def f5_walkOn : Nat → mm_Sh → Nat → Nat → Int32 → Int32 → Int32 → mm_I → mm_J → Option (mm_I × mm_J)
  | 0 => fun _ _ _ _ _ _ _ _ => none
  | d + 1 => fun S n => f5_walkOn_b S n (f5_walkOn d S n)
/-! ForgottenCrafts$Shelf.firstWrong(LForgottenCrafts$Folk;)I -/
def f8_firstWrong_2_b (S : mm_Sh) (n : Nat) (rec2 : Nat → Nat → Int32 → mm_I → mm_J → Option (Int32)) (v0 : Nat) (v1 : Nat) (v2 : Int32) (I : mm_I) (J : mm_J) : Option (Int32) :=
  if (I v0 7) ≤ v2 then (some (-1)) else ((f6_at S (mm_rf S v0 3) v2 I J).bind fun o2 => (f6_at S (mm_rf S v0 4) v2 I J).bind fun o3 => (f1_skillOf S v1 o2 o3 I J).bind fun o4 => (f6_at S (mm_rf S v0 5) v2 I J).bind fun o5 => if o4 = o5 then (rec2 v0 v1 (v2 + 1) I J) else (some v2))
def f8_firstWrong_2 (S : mm_Sh) (n : Nat) : Nat → Nat → Nat → Int32 → mm_I → mm_J → Option (Int32)
  | 0 => fun _ _ _ _ _ => none
  | k + 1 => f8_firstWrong_2_b S n (f8_firstWrong_2 S n k)
def f8_firstWrong (S : mm_Sh) (n : Nat) (v0 : Nat) (v1 : Nat) (I : mm_I) (J : mm_J) : Option (Int32) :=
  f8_firstWrong_2 S n n v0 v1 0 I J
/-! ForgottenCrafts$TownTeller.openClause(Z)V -/
def f9_openClause_19 (S : mm_Sh) (n : Nat) (v0 : Nat) (I : mm_I) (J : mm_J) : Option (mm_I × mm_J) :=
  (f4_advance S n (mm_rf S v0 0) I J).bind fun o1 => some (o1.1, o1.2)
def f9_openClause (S : mm_Sh) (n : Nat) (v0 : Nat) (v1 : Int32) (I : mm_I) (J : mm_J) : Option (mm_I × mm_J) :=
  if v1 = 0 then ((f4_blame S (mm_rf S v0 0) 3 (I (mm_rf S v0 0) 3) I J).bind fun o2 => f9_openClause_19 S n v0 o2.1 o2.2) else (f9_openClause_19 S n v0 I J)
/-! ForgottenCrafts.begin()I -/
def f10_begin (S : mm_Sh) (n : Nat) (v0 : Nat) (I : mm_I) (J : mm_J) : Option (Int32 × mm_I × mm_J) :=
  (f10_startAnew S n v0 I J).bind fun o1 => some (I (mm_rf S v0 6) 11, o1.1, o1.2)
/-! ForgottenCrafts.judge()I -/
def f10_judge (S : mm_Sh) (n : Nat) (v0 : Nat) (I : mm_I) (J : mm_J) : Option (Int32) :=
  (f8_firstWrong S n (mm_rf S v0 13) (mm_rf S v0 6) I J).bind fun o1 => some o1
/-! ForgottenCrafts.lastHand(II)I -/
def f10_lastHand_101 (S : mm_Sh) (n : Nat) (s0 : Int32) (I : mm_I) (J : mm_J) : Option (Int32) :=
  some s0
def f10_lastHand (S : mm_Sh) (n : Nat) (v0 : Nat) (v1 : Int32) (v2 : Int32) (I : mm_I) (J : mm_J) : Option (Int32) :=
  (f0_hasTrade S (mm_rf S v0 1) v1 I J).bind fun o1 => if o1 = 0 then (some (-1000000001)) else ((f10_within S v2 0 1 I J).bind fun o3 => if o3 = 0 then (some (-1000000002)) else ((f1_withSkill S n (mm_rf S v0 6) v1 1 I J).bind fun o5 => (fJ6_bitCount S o5 I J).bind fun o6 => if o6 = 1 then ((f10_leastOf S n o5 I J).bind fun o8 => (f6_at S (mm_rf S (mm_rf S v0 6) 0) o8 I J).bind fun o9 => if v2 = 0 then (f10_lastHand_101 S n o8 I J) else ((f6_at S (mm_rf S (mm_rf S v0 1) 2) v1 I J).bind fun o11 => f10_lastHand_101 S n (o11 * (if 0 < ((I (mm_rf S v0 3) 4) - o9) then ((I (mm_rf S v0 3) 4) - o9) else 0)) I J)) else (some (-1))))
/-! ForgottenCrafts.night(II)I -/
def f10_night_38 (S : mm_Sh)  (I : mm_I) (J : mm_J) : Option (Int32 × mm_I × mm_J) :=
  some ((-1000000003), I, J)
def f10_night_58 (S : mm_Sh) (s0 : Int32) (I : mm_I) (J : mm_J) : Option (Int32 × mm_I × mm_J) :=
  some (s0, I, J)
def f10_night (S : mm_Sh) (v0 : Nat) (v1 : Int32) (v2 : Int32) (I : mm_I) (J : mm_J) : Option (Int32 × mm_I × mm_J) :=
  (f10_isKnownPair S v0 v1 v2 I J).bind fun o1 => if o1 = 0 then (some ((-1000000001), I, J)) else ((f1_knows S (mm_rf S v0 6) v1 v2 I J).bind fun o3 => if o3 = 0 then (f10_night_38 S I J) else ((f10_has S (I (mm_rf S v0 6) 10) v1 I J).bind fun o5 => if o5 = 0 then ((f2_workByNight S (mm_rf S v0 15) v1 v2 I J).bind fun o7 => if o7.1 = 0 then (f10_night_58 S 0 o7.2.1 o7.2.2) else (f10_night_58 S 1 o7.2.1 o7.2.2)) else (f10_night_38 S I J)))
/-! ForgottenCrafts.trade(II)I -/
def f10_trade (S : mm_Sh) (n : Nat) (v0 : Nat) (v1 : Int32) (v2 : Int32) (I : mm_I) (J : mm_J) : Option (Int32) :=
  (f0_hasTrade S (mm_rf S v0 1) v1 I J).bind fun o1 => if o1 = 0 then (some (-1000000001)) else (if v2 = 0 then ((f6_at S (mm_rf S (mm_rf S v0 1) 0) v1 I J).bind fun o16 => some o16) else (if v2 = 1 then ((f6_at S (mm_rf S (mm_rf S v0 1) 1) v1 I J).bind fun o15 => some o15) else (if v2 = 2 then ((f6_at S (mm_rf S (mm_rf S v0 1) 2) v1 I J).bind fun o14 => some o14) else (if v2 = 3 then ((f6_at S (mm_rf S (mm_rf S v0 1) 3) v1 I J).bind fun o13 => some o13) else (if v2 = 4 then ((f1_withSkill S n (mm_rf S v0 6) v1 1 I J).bind fun o12 => some o12) else (if v2 = 5 then ((f1_withSkill S n (mm_rf S v0 6) v1 50 I J).bind fun o11 => some o11) else (if v2 = 6 then ((f6_at S (mm_rf S v0 12) v1 I J).bind fun o10 => some o10) else (some (-1000000002)))))))))
/-! ForgottenCraftsModel.changeNow(IIII)I -/
def f11_changeNow_21 (S : mm_Sh) (n : Nat)  (I : mm_I) (J : mm_J) : Option (Int32 × mm_I × mm_J) :=
  some ((-1000000003), I, J)
def f11_changeNow_92 (S : mm_Sh) (n : Nat) (rec52 : Nat → Int32 → Int32 → Int32 → Int32 → Int32 → Int32 → mm_I → mm_J → Option (Int32 × mm_I × mm_J)) (v0 : Nat) (v1 : Int32) (v2 : Int32) (v3 : Int32) (v4 : Int32) (v5 : Int32) (v6 : Int32) (s0 : Nat) (s1 : Int32) (s2 : Int32) (I : mm_I) (J : mm_J) : Option (Int32 × mm_I × mm_J) :=
  if mm_inb s1 (mm_al S s0) = true then (if mm_bit s2 = true then (rec52 v0 v1 v2 v3 v4 v5 (v6 + 1) (mm_up I s0 s1.toNatClampNeg s2) J) else none) else none
def f11_changeNow_87 (S : mm_Sh) (n : Nat) (rec52 : Nat → Int32 → Int32 → Int32 → Int32 → Int32 → Int32 → mm_I → mm_J → Option (Int32 × mm_I × mm_J)) (v0 : Nat) (v1 : Int32) (v2 : Int32) (v3 : Int32) (v4 : Int32) (v5 : Int32) (v6 : Int32) (s0 : Nat) (s1 : Int32) (I : mm_I) (J : mm_J) : Option (Int32 × mm_I × mm_J) :=
  f11_changeNow_92 S n rec52 v0 v1 v2 v3 v4 v5 v6 s0 s1 1 I J
def f11_changeNow_134 (S : mm_Sh) (n : Nat) (v5 : Int32) (I : mm_I) (J : mm_J) : Option (Int32 × mm_I × mm_J) :=
  some (v5, I, J)
def f11_changeNow_132 (S : mm_Sh) (n : Nat) (v3 : Int32) (v5 : Int32) (s0 : Nat) (s1 : Int32) (I : mm_I) (J : mm_J) : Option (Int32 × mm_I × mm_J) :=
  if mm_inb s1 (mm_al S s0) = true then (f11_changeNow_134 S n v5 (mm_up I s0 s1.toNatClampNeg v3) J) else none
def f11_changeNow_52_b (S : mm_Sh) (n : Nat) (rec52 : Nat → Int32 → Int32 → Int32 → Int32 → Int32 → Int32 → mm_I → mm_J → Option (Int32 × mm_I × mm_J)) (v0 : Nat) (v1 : Int32) (v2 : Int32) (v3 : Int32) (v4 : Int32) (v5 : Int32) (v6 : Int32) (I : mm_I) (J : mm_J) : Option (Int32 × mm_I × mm_J) :=
  if (I v0 2) ≤ v6 then (if mm_inb v1 (mm_al S (mm_rf S v0 17)) = true then (if mm_inb v1 (mm_al S (mm_rf S v0 18)) = true then (if v3 < 0 then (f11_changeNow_134 S n v5 (mm_up (mm_up I (mm_rf S v0 17) v1.toNatClampNeg v2) (mm_rf S v0 18) v1.toNatClampNeg 0) J) else (if 0 ≤ v4 then (f11_changeNow_132 S n v3 v5 (mm_rf S v0 19) v4 (mm_up (mm_up I (mm_rf S v0 17) v1.toNatClampNeg v2) (mm_rf S v0 18) v1.toNatClampNeg 0) J) else (f11_changeNow_132 S n v3 v5 (mm_rf S v0 19) v1 (mm_up (mm_up I (mm_rf S v0 17) v1.toNatClampNeg v2) (mm_rf S v0 18) v1.toNatClampNeg 0) J))) else none) else none) else (if mm_inb v6 (mm_al S (mm_rf S v0 21)) = true then (if (I (mm_rf S v0 21) v6.toNatClampNeg) = 0 then ((f11_has S v5 v6 I J).bind fun o8 => if o8 = 0 then (f11_changeNow_92 S n rec52 v0 v1 v2 v3 v4 v5 v6 (mm_rf S v0 21) v6 0 I J) else (f11_changeNow_87 S n rec52 v0 v1 v2 v3 v4 v5 v6 (mm_rf S v0 21) v6 I J)) else (f11_changeNow_87 S n rec52 v0 v1 v2 v3 v4 v5 v6 (mm_rf S v0 21) v6 I J)) else none)
def f11_changeNow_52 (S : mm_Sh) (n : Nat) : Nat → Nat → Int32 → Int32 → Int32 → Int32 → Int32 → Int32 → mm_I → mm_J → Option (Int32 × mm_I × mm_J)
  | 0 => fun _ _ _ _ _ _ _ _ _ => none
  | k + 1 => f11_changeNow_52_b S n (f11_changeNow_52 S n k)
def f11_changeNow_39 (S : mm_Sh) (n : Nat) (v0 : Nat) (v1 : Int32) (v2 : Int32) (v3 : Int32) (v4 : Int32) (s0 : Int32) (I : mm_I) (J : mm_J) : Option (Int32 × mm_I × mm_J) :=
  if 0 ≤ s0 then (f11_changeNow_52 S n n v0 v1 v2 v3 v4 s0 0 I J) else (some ((-1000000003), I, J))
def f11_changeNow (S : mm_Sh) (n : Nat) (v0 : Nat) (v1 : Int32) (v2 : Int32) (v3 : Int32) (v4 : Int32) (I : mm_I) (J : mm_J) : Option (Int32 × mm_I × mm_J) :=
  (f11_mayLearn S v0 v1 v2 I J).bind fun o1 => if o1 = 0 then (f11_changeNow_21 S n I J) else ((f11_mayGive S n v0 v1 v2 v3 v4 I J).bind fun o3 => if o3 = 0 then (f11_changeNow_21 S n I J) else (if 0 ≤ v3 then ((f11_findWitnesses S n v0 v1 v4 I J).bind fun o6 => f11_changeNow_39 S n v0 v1 v2 v3 v4 o6 I J) else (f11_changeNow_39 S n v0 v1 v2 v3 v4 0 I J)))
/-! ForgottenCraftsModel.findLeast()Z -/
def f11_findLeast_63 (S : mm_Sh) (n : Nat) (rec9 : Nat → Int32 → Int32 → mm_I → mm_J → Option (Int32 × mm_I × mm_J)) (v0 : Nat) (v1 : Int32) (v2 : Int32) (s0 : Nat) (s1 : Int32) (I : mm_I) (J : mm_J) : Option (Int32 × mm_I × mm_J) :=
  rec9 v0 v1 (v2 + 1) (mm_up I s0 44 s1) J
def f11_findLeast_215 (S : mm_Sh) (n : Nat) (rec85 : Nat → Int32 → mm_I → mm_J → Option (Int32 × mm_I × mm_J)) (rec91 : Nat → Int32 → Int32 → mm_I → mm_J → Option (Int32 × mm_I × mm_J)) (rec143 : Nat → Int32 → Int32 → Int32 → mm_I → mm_J → Option (Int32 × mm_I × mm_J)) (v0 : Nat) (v2 : Int32) (v3 : Int32) (v4 : Int32) (s0 : Nat) (s1 : Int32) (s2 : Int32) (I : mm_I) (J : mm_J) : Option (Int32 × mm_I × mm_J) :=
  if mm_inb s1 (mm_al S s0) = true then (rec143 v0 v2 v3 (v4 + 1) (mm_up I s0 s1.toNatClampNeg s2) J) else none
def f11_findLeast_222 (S : mm_Sh) (n : Nat) (rec85 : Nat → Int32 → mm_I → mm_J → Option (Int32 × mm_I × mm_J)) (rec91 : Nat → Int32 → Int32 → mm_I → mm_J → Option (Int32 × mm_I × mm_J)) (v0 : Nat) (v2 : Int32) (v3 : Int32) (I : mm_I) (J : mm_J) : Option (Int32 × mm_I × mm_J) :=
  rec91 v0 v2 (v3 + 1) I J
def f11_findLeast_143_b (S : mm_Sh) (n : Nat) (rec85 : Nat → Int32 → mm_I → mm_J → Option (Int32 × mm_I × mm_J)) (rec91 : Nat → Int32 → Int32 → mm_I → mm_J → Option (Int32 × mm_I × mm_J)) (rec143 : Nat → Int32 → Int32 → Int32 → mm_I → mm_J → Option (Int32 × mm_I × mm_J)) (v0 : Nat) (v2 : Int32) (v3 : Int32) (v4 : Int32) (I : mm_I) (J : mm_J) : Option (Int32 × mm_I × mm_J) :=
  if (I v0 0) ≤ v4 then (f11_findLeast_222 S n rec85 rec91 v0 v2 v3 I J) else (if (I v0 2) ≤ v2 then (f11_findLeast_222 S n rec85 rec91 v0 v2 v3 I J) else ((f11_byGiving S v0 v2 v3 v4 I J).bind fun o3 => if mm_inb ((256 * v2) + v3) (mm_al S (mm_rf S v0 42)) = true then (if (I (mm_rf S v0 42) ((256 * v2) + v3).toNatClampNeg) ≤ o3 then (if mm_inb ((256 * v2) + v3) (mm_al S (mm_rf S v0 42)) = true then (f11_findLeast_215 S n rec85 rec91 rec143 v0 v2 v3 v4 (mm_rf S v0 42) ((256 * v2) + v3) (I (mm_rf S v0 42) ((256 * v2) + v3).toNatClampNeg) I J) else none) else (f11_findLeast_215 S n rec85 rec91 rec143 v0 v2 v3 v4 (mm_rf S v0 42) ((256 * v2) + v3) o3 I J)) else none))
def f11_findLeast_143 (S : mm_Sh) (n : Nat) (rec85 : Nat → Int32 → mm_I → mm_J → Option (Int32 × mm_I × mm_J)) (rec91 : Nat → Int32 → Int32 → mm_I → mm_J → Option (Int32 × mm_I × mm_J)) : Nat → Nat → Int32 → Int32 → Int32 → mm_I → mm_J → Option (Int32 × mm_I × mm_J)
  | 0 => fun _ _ _ _ _ _ => none
  | k + 1 => f11_findLeast_143_b S n rec85 rec91 (f11_findLeast_143 S n rec85 rec91 k)
def f11_findLeast_139 (S : mm_Sh) (n : Nat) (rec85 : Nat → Int32 → mm_I → mm_J → Option (Int32 × mm_I × mm_J)) (rec91 : Nat → Int32 → Int32 → mm_I → mm_J → Option (Int32 × mm_I × mm_J)) (v0 : Nat) (v2 : Int32) (v3 : Int32) (s0 : Nat) (s1 : Int32) (s2 : Int32) (I : mm_I) (J : mm_J) : Option (Int32 × mm_I × mm_J) :=
  if mm_inb s1 (mm_al S s0) = true then (f11_findLeast_143 S n rec85 rec91 n v0 v2 v3 0 (mm_up I s0 s1.toNatClampNeg s2) J) else none
def f11_findLeast_91_b (S : mm_Sh) (n : Nat) (rec85 : Nat → Int32 → mm_I → mm_J → Option (Int32 × mm_I × mm_J)) (rec91 : Nat → Int32 → Int32 → mm_I → mm_J → Option (Int32 × mm_I × mm_J)) (v0 : Nat) (v2 : Int32) (v3 : Int32) (I : mm_I) (J : mm_J) : Option (Int32 × mm_I × mm_J) :=
  if (I v0 44) ≤ v3 then (rec85 v0 (v2 + (-1)) I J) else (if v2 = (I v0 2) then (if v3 = 0 then (f11_findLeast_139 S n rec85 rec91 v0 v2 v3 (mm_rf S v0 42) ((256 * v2) + v3) 0 I J) else (f11_findLeast_139 S n rec85 rec91 v0 v2 v3 (mm_rf S v0 42) ((256 * v2) + v3) 1000000 I J)) else ((f11_byGiving S v0 v2 v3 (-1) I J).bind fun o3 => f11_findLeast_139 S n rec85 rec91 v0 v2 v3 (mm_rf S v0 42) ((256 * v2) + v3) o3 I J))
def f11_findLeast_91 (S : mm_Sh) (n : Nat) (rec85 : Nat → Int32 → mm_I → mm_J → Option (Int32 × mm_I × mm_J)) : Nat → Nat → Int32 → Int32 → mm_I → mm_J → Option (Int32 × mm_I × mm_J)
  | 0 => fun _ _ _ _ _ => none
  | k + 1 => f11_findLeast_91_b S n rec85 (f11_findLeast_91 S n rec85 k)
def f11_findLeast_256 (S : mm_Sh) (n : Nat) (s0 : Int32) (I : mm_I) (J : mm_J) : Option (Int32 × mm_I × mm_J) :=
  if mm_bit s0 = true then some (s0, I, J) else none
def f11_findLeast_85_b (S : mm_Sh) (n : Nat) (rec85 : Nat → Int32 → mm_I → mm_J → Option (Int32 × mm_I × mm_J)) (v0 : Nat) (v2 : Int32) (I : mm_I) (J : mm_J) : Option (Int32 × mm_I × mm_J) :=
  if v2 < 0 then (if mm_inb ((I v0 44) - 1) (mm_al S (mm_rf S v0 42)) = true then (if 1000000 ≤ (I (mm_rf S v0 42) ((I v0 44) - 1).toNatClampNeg) then (f11_findLeast_256 S n 0 I J) else (f11_findLeast_256 S n 1 I J)) else none) else (f11_findLeast_91 S n rec85 n v0 v2 0 I J)
def f11_findLeast_85 (S : mm_Sh) (n : Nat) : Nat → Nat → Int32 → mm_I → mm_J → Option (Int32 × mm_I × mm_J)
  | 0 => fun _ _ _ _ => none
  | k + 1 => f11_findLeast_85_b S n (f11_findLeast_85 S n k)
def f11_findLeast_9_b (S : mm_Sh) (n : Nat) (rec9 : Nat → Int32 → Int32 → mm_I → mm_J → Option (Int32 × mm_I × mm_J)) (v0 : Nat) (v1 : Int32) (v2 : Int32) (I : mm_I) (J : mm_J) : Option (Int32 × mm_I × mm_J) :=
  if (I v0 0) ≤ v2 then (if v1 ≤ 8 then (f11_findLeast_85 S n n v0 (I v0 2) I J) else (some (0, I, J))) else (if mm_inb v2 (mm_al S (mm_rf S v0 25)) = true then (if mm_inb v2 (mm_al S (mm_rf S v0 43)) = true then (if (v1 + (I (mm_rf S v0 25) v2.toNatClampNeg)) ≤ 8 then (if mm_inb v2 (mm_al S (mm_rf S v0 25)) = true then (f11_findLeast_63 S n rec9 v0 (v1 + (I (mm_rf S v0 25) v2.toNatClampNeg)) v2 v0 (((mm_up I (mm_rf S v0 43) v2.toNatClampNeg (I v0 44)) v0 44) * (((mm_up I (mm_rf S v0 43) v2.toNatClampNeg (I v0 44)) (mm_rf S v0 25) v2.toNatClampNeg) + 1)) (mm_up I (mm_rf S v0 43) v2.toNatClampNeg (I v0 44)) J) else none) else (f11_findLeast_63 S n rec9 v0 (v1 + (I (mm_rf S v0 25) v2.toNatClampNeg)) v2 v0 ((mm_up I (mm_rf S v0 43) v2.toNatClampNeg (I v0 44)) v0 44) (mm_up I (mm_rf S v0 43) v2.toNatClampNeg (I v0 44)) J)) else none) else none)
def f11_findLeast_9 (S : mm_Sh) (n : Nat) : Nat → Nat → Int32 → Int32 → mm_I → mm_J → Option (Int32 × mm_I × mm_J)
  | 0 => fun _ _ _ _ _ => none
  | k + 1 => f11_findLeast_9_b S n (f11_findLeast_9 S n k)
def f11_findLeast (S : mm_Sh) (n : Nat) (v0 : Nat) (I : mm_I) (J : mm_J) : Option (Int32 × mm_I × mm_J) :=
  f11_findLeast_9 S n n v0 0 0 (mm_up I v0 44 1) J
/-! ForgottenCraftsModel.ringSum(I)I -/
def f11_ringSum_32_b (S : mm_Sh) (n : Nat) (rec32 : Nat → Int32 → Int32 → Int32 → mm_I → mm_J → Option (Int32)) (v0 : Nat) (v1 : Int32) (v2 : Int32) (v3 : Int32) (I : mm_I) (J : mm_J) : Option (Int32) :=
  if v1 ≤ v3 then (some v2) else (if mm_inb v3 (mm_al S (mm_rf S v0 45)) = true then (if v1 = 0 then none else (if mm_inb ((v3 + 1) - (v3 + 1) / v1 * v1) (mm_al S (mm_rf S v0 45)) = true then ((f11_gainBy S n v0 (I (mm_rf S v0 45) v3.toNatClampNeg) (I (mm_rf S v0 45) ((v3 + 1) - (v3 + 1) / v1 * v1).toNatClampNeg) I J).bind fun o4 => if o4 = 0 then (some 0) else (rec32 v0 v1 (v2 + o4) (v3 + 1) I J)) else none)) else none)
def f11_ringSum_32 (S : mm_Sh) (n : Nat) : Nat → Nat → Int32 → Int32 → Int32 → mm_I → mm_J → Option (Int32)
  | 0 => fun _ _ _ _ _ _ => none
  | k + 1 => f11_ringSum_32_b S n (f11_ringSum_32 S n k)
def f11_ringSum_4_b (S : mm_Sh) (n : Nat) (rec4 : Nat → Int32 → Int32 → Int32 → mm_I → mm_J → Option (Int32)) (v0 : Nat) (v1 : Int32) (v2 : Int32) (v3 : Int32) (I : mm_I) (J : mm_J) : Option (Int32) :=
  if v1 ≤ v3 then (f11_ringSum_32 S n n v0 v1 v2 0 I J) else (if mm_inb v3 (mm_al S (mm_rf S v0 45)) = true then ((f11_maySwap S n v0 (I (mm_rf S v0 45) v3.toNatClampNeg) I J).bind fun o3 => if o3 = 0 then (some 0) else (rec4 v0 v1 v2 (v3 + 1) I J)) else none)
def f11_ringSum_4 (S : mm_Sh) (n : Nat) : Nat → Nat → Int32 → Int32 → Int32 → mm_I → mm_J → Option (Int32)
  | 0 => fun _ _ _ _ _ _ => none
  | k + 1 => f11_ringSum_4_b S n (f11_ringSum_4 S n k)
def f11_ringSum (S : mm_Sh) (n : Nat) (v0 : Nat) (v1 : Int32) (I : mm_I) (J : mm_J) : Option (Int32) :=
  f11_ringSum_4 S n n v0 v1 0 0 I J
/-! ForgottenCraftsModel.takeLaw()I -/
def f11_takeLaw_217 (S : mm_Sh) (n : Nat) (v0 : Nat) (s0 : Nat) (s1 : Int32) (I : mm_I) (J : mm_J) : Option (Int32 × mm_I × mm_J) :=
  (f11_fails S s0 s1 (I v0 29) I J).bind fun o1 => some (o1.1, o1.2.1, o1.2.2)
def f11_takeLaw_207 (S : mm_Sh) (n : Nat) (v0 : Nat) (v2 : Int32) (I : mm_I) (J : mm_J) : Option (Int32 × mm_I × mm_J) :=
  if 0 ≤ v2 then (f11_takeLaw_217 S n v0 v0 3 I J) else (f11_takeLaw_217 S n v0 v0 1 I J)
def f11_takeLaw_317 (S : mm_Sh) (n : Nat) (s0 : Int32) (I : mm_I) (J : mm_J) : Option (Int32 × mm_I × mm_J) :=
  some (s0, I, J)
def f11_takeLaw_305 (S : mm_Sh) (n : Nat) (v0 : Nat) (v3 : Int32) (I : mm_I) (J : mm_J) : Option (Int32 × mm_I × mm_J) :=
  if v3 ≤ 0 then ((f11_takeStop S n v0 I J).bind fun o2 => f11_takeLaw_317 S n o2.1 o2.2.1 o2.2.2) else (f11_takeLaw_317 S n v3 I J)
def f11_takeLaw_301 (S : mm_Sh) (n : Nat) (v0 : Nat) (s0 : Nat) (s1 : Nat) (s2 : Int32) (s3 : Int32) (s4 : Int32) (I : mm_I) (J : mm_J) : Option (Int32 × mm_I × mm_J) :=
  (f11_into S n s0 s1 s2 s3 s4 I J).bind fun o1 => f11_takeLaw_305 S n v0 o1.1 o1.2.1 o1.2.2
def f11_takeLaw_271 (S : mm_Sh) (n : Nat) (v0 : Nat) (v2 : Int32) (s0 : Nat) (s1 : Nat) (s2 : Int32) (s3 : Int32) (I : mm_I) (J : mm_J) : Option (Int32 × mm_I × mm_J) :=
  if v2 = 0 then (f11_takeLaw_301 S n v0 s0 s1 s2 s3 6 I J) else (if v2 = 1 then (f11_takeLaw_301 S n v0 s0 s1 s2 s3 3 I J) else (if v2 = 4 then (f11_takeLaw_301 S n v0 s0 s1 s2 s3 120 I J) else (f11_takeLaw_301 S n v0 s0 s1 s2 s3 100 I J)))
def f11_takeLaw_266 (S : mm_Sh) (n : Nat) (v0 : Nat) (v2 : Int32) (s0 : Nat) (s1 : Nat) (s2 : Int32) (I : mm_I) (J : mm_J) : Option (Int32 × mm_I × mm_J) :=
  f11_takeLaw_271 S n v0 v2 s0 s1 s2 0 I J
def f11_takeLaw_193 (S : mm_Sh) (n : Nat) (v0 : Nat) (s0 : Int32) (I : mm_I) (J : mm_J) : Option (Int32 × mm_I × mm_J) :=
  if s0 < 0 then (f11_takeLaw_207 S n v0 s0 I J) else (if mm_inb s0 (mm_al S (mm_rf S v0 41)) = true then (if (I (mm_rf S v0 41) s0.toNatClampNeg) < 0 then (if s0 = 5 then (if mm_inb 5 (mm_al S (mm_rf S v0 41)) = true then (f11_takeLaw_305 S n v0 0 (mm_up (mm_up I v0 29 (I v0 31)) (mm_rf S v0 41) (5 : Int32).toNatClampNeg 1) J) else none) else (if s0 = 1 then (f11_takeLaw_266 S n v0 s0 v0 (mm_rf S v0 41) s0 (mm_up I v0 29 (I v0 31)) J) else (if s0 = 3 then (f11_takeLaw_266 S n v0 s0 v0 (mm_rf S v0 41) s0 (mm_up I v0 29 (I v0 31)) J) else (f11_takeLaw_271 S n v0 s0 v0 (mm_rf S v0 41) s0 1 (mm_up I v0 29 (I v0 31)) J)))) else (f11_takeLaw_207 S n v0 s0 I J)) else none)
def f11_takeLaw_109 (S : mm_Sh) (n : Nat) (v0 : Nat) (s0 : Int32) (I : mm_I) (J : mm_J) : Option (Int32 × mm_I × mm_J) :=
  if s0 < 0 then ((f11_code S 114 117 115 116 I J).bind fun o2 => (f11_longer S o2 115 I J).bind fun o3 => if (lg_cmp (J v0 30) o3) = 0 then (f11_takeLaw_193 S n v0 3 I J) else ((f11_code S 100 105 101 115 I J).bind fun o5 => if (lg_cmp (J v0 30) o5) = 0 then (f11_takeLaw_193 S n v0 4 I J) else ((f11_code S 108 101 110 116 I J).bind fun o7 => if (lg_cmp (J v0 30) o7) = 0 then (f11_takeLaw_193 S n v0 5 I J) else (f11_takeLaw_193 S n v0 (-1) I J)))) else (f11_takeLaw_193 S n v0 s0 I J)
def f11_takeLaw (S : mm_Sh) (n : Nat) (v0 : Nat) (I : mm_I) (J : mm_J) : Option (Int32 × mm_I × mm_J) :=
  (f11_readWord S n v0 I J).bind fun o1 => (f11_code S 104 111 108 100 o1.1 o1.2).bind fun o2 => (f11_longer S o2 115 o1.1 o1.2).bind fun o3 => if (lg_cmp (o1.2 v0 30) o3) = 0 then (f11_takeLaw_109 S n v0 0 o1.1 o1.2) else ((f11_code S 119 105 116 110 o1.1 o1.2).bind fun o5 => (f11_longer S o5 101 o1.1 o1.2).bind fun o6 => (f11_longer S o6 115 o1.1 o1.2).bind fun o7 => (f11_longer S o7 115 o1.1 o1.2).bind fun o8 => (f11_longer S o8 101 o1.1 o1.2).bind fun o9 => (f11_longer S o9 115 o1.1 o1.2).bind fun o10 => if (lg_cmp (o1.2 v0 30) o10) = 0 then (f11_takeLaw_109 S n v0 1 o1.1 o1.2) else ((f11_code S 102 97 100 101 o1.1 o1.2).bind fun o12 => (f11_longer S o12 115 o1.1 o1.2).bind fun o13 => if (lg_cmp (o1.2 v0 30) o13) = 0 then (f11_takeLaw_109 S n v0 2 o1.1 o1.2) else (f11_takeLaw_109 S n v0 (-1) o1.1 o1.2)))
/-! ForgottenCraftsModel.takeLikes()I -/
def f11_takeLikes (S : mm_Sh) (n : Nat) (v0 : Nat) (I : mm_I) (J : mm_J) : Option (Int32 × mm_I × mm_J) :=
  (f11_takeNumber S n v0 0 ((I v0 36) - 1) I J).bind fun o1 => if o1.1 ≤ 0 then ((f11_takeNumber S n v0 0 ((o1.2.1 v0 34) - 1) o1.2.1 o1.2.2).bind fun o3 => if o3.1 ≤ 0 then (if mm_inb ((6 * (o1.2.1 v0 32)) + (o3.2.1 v0 32)) (mm_al S (mm_rf S v0 40)) = true then (if (o3.2.1 (mm_rf S v0 40) ((6 * (o1.2.1 v0 32)) + (o3.2.1 v0 32)).toNatClampNeg) < 0 then ((f11_into S n v0 (mm_rf S v0 40) ((6 * (o1.2.1 v0 32)) + (o3.2.1 v0 32)) 0 99 (mm_up o3.2.1 v0 39 ((o3.2.1 v0 39) + 1)) o3.2.2).bind fun o7 => some (o7.1, o7.2.1, o7.2.2)) else ((f11_fails S v0 4 (o3.2.1 v0 33) o3.2.1 o3.2.2).bind fun o8 => some (o8.1, o8.2.1, o8.2.2))) else none) else (some (o3.1, o3.2.1, o3.2.2))) else (some (o1.1, o1.2.1, o1.2.2))
/-! ForgottenCraftsModel.takePerson()I -/
def f11_takePerson_161 (S : mm_Sh) (n : Nat) (rec66 : Nat → Int32 → Int32 → mm_I → mm_J → Option (Int32 × mm_I × mm_J)) (v0 : Nat) (v1 : Int32) (s0 : Int32) (I : mm_I) (J : mm_J) : Option (Int32 × mm_I × mm_J) :=
  rec66 v0 v1 s0 I J
def f11_takePerson_135 (S : mm_Sh) (n : Nat) (rec66 : Nat → Int32 → Int32 → mm_I → mm_J → Option (Int32 × mm_I × mm_J)) (v0 : Nat) (v1 : Int32) (v3 : Int32) (s0 : Int32) (I : mm_I) (J : mm_J) : Option (Int32 × mm_I × mm_J) :=
  if s0 ≤ 0 then ((f11_into S n v0 (mm_rf S v0 38) ((6 * v1) + v3) 1 100 I J).bind fun o2 => f11_takePerson_161 S n rec66 v0 v1 o2.1 o2.2.1 o2.2.2) else (f11_takePerson_161 S n rec66 v0 v1 s0 I J)
def f11_takePerson_134 (S : mm_Sh) (n : Nat) (rec66 : Nat → Int32 → Int32 → mm_I → mm_J → Option (Int32 × mm_I × mm_J)) (v0 : Nat) (v1 : Int32) (v2 : Int32) (v3 : Int32) (I : mm_I) (J : mm_J) : Option (Int32 × mm_I × mm_J) :=
  f11_takePerson_135 S n rec66 v0 v1 v3 v2 I J
def f11_takePerson_165 (S : mm_Sh) (n : Nat) (v2 : Int32) (I : mm_I) (J : mm_J) : Option (Int32 × mm_I × mm_J) :=
  some (v2, I, J)
def f11_takePerson_66_b (S : mm_Sh) (n : Nat) (rec66 : Nat → Int32 → Int32 → mm_I → mm_J → Option (Int32 × mm_I × mm_J)) (v0 : Nat) (v1 : Int32) (v2 : Int32) (I : mm_I) (J : mm_J) : Option (Int32 × mm_I × mm_J) :=
  if v2 = 0 then ((f11_here S n v0 I J).bind fun o2 => (f11_in S o2.1.toInt64 48 57 o2.2.1 o2.2.2).bind fun o3 => if o3 = 0 then (f11_takePerson_165 S n v2 o2.2.1 o2.2.2) else ((f11_takeNumber S n v0 0 ((o2.2.1 v0 34) - 1) o2.2.1 o2.2.2).bind fun o5 => if o5.1 = 0 then (if mm_inb ((6 * v1) + (o5.2.1 v0 32)) (mm_al S (mm_rf S v0 38)) = true then (if (o5.2.1 (mm_rf S v0 38) ((6 * v1) + (o5.2.1 v0 32)).toNatClampNeg) ≤ 0 then (f11_takePerson_134 S n rec66 v0 v1 o5.1 (o5.2.1 v0 32) o5.2.1 o5.2.2) else ((f11_fails S v0 4 (o5.2.1 v0 33) o5.2.1 o5.2.2).bind fun o9 => f11_takePerson_135 S n rec66 v0 v1 (o5.2.1 v0 32) o9.1 o9.2.1 o9.2.2)) else none) else (f11_takePerson_134 S n rec66 v0 v1 o5.1 (o5.2.1 v0 32) o5.2.1 o5.2.2))) else (f11_takePerson_165 S n v2 I J)
def f11_takePerson_66 (S : mm_Sh) (n : Nat) : Nat → Nat → Int32 → Int32 → mm_I → mm_J → Option (Int32 × mm_I × mm_J)
  | 0 => fun _ _ _ _ _ => none
  | k + 1 => f11_takePerson_66_b S n (f11_takePerson_66 S n k)
def f11_takePerson_17_b (S : mm_Sh) (n : Nat) (rec17 : Nat → Int32 → Int32 → mm_I → mm_J → Option (Int32 × mm_I × mm_J)) (v0 : Nat) (v1 : Int32) (v2 : Int32) (I : mm_I) (J : mm_J) : Option (Int32 × mm_I × mm_J) :=
  if 6 ≤ v2 then ((f11_into S n v0 (mm_rf S v0 37) v1 0 99 I J).bind fun o2 => f11_takePerson_66 S n n v0 v1 o2.1 o2.2.1 o2.2.2) else (if mm_inb ((6 * v1) + v2) (mm_al S (mm_rf S v0 38)) = true then (if mm_inb ((6 * v1) + v2) (mm_al S (mm_rf S v0 40)) = true then (rec17 v0 v1 (v2 + 1) (mm_up (mm_up I (mm_rf S v0 38) ((6 * v1) + v2).toNatClampNeg 0) (mm_rf S v0 40) ((6 * v1) + v2).toNatClampNeg (-1)) J) else none) else none)
def f11_takePerson_17 (S : mm_Sh) (n : Nat) : Nat → Nat → Int32 → Int32 → mm_I → mm_J → Option (Int32 × mm_I × mm_J)
  | 0 => fun _ _ _ _ _ => none
  | k + 1 => f11_takePerson_17_b S n (f11_takePerson_17 S n k)
def f11_takePerson (S : mm_Sh) (n : Nat) (v0 : Nat) (I : mm_I) (J : mm_J) : Option (Int32 × mm_I × mm_J) :=
  f11_takePerson_17 S n n v0 (I v0 36) 0 (mm_up I v0 36 ((I v0 36) + 1)) J
/-! ForgottenCraftsModel.takeTrade()I -/
def f11_takeTrade_272 (S : mm_Sh) (n : Nat) (v0 : Nat) (v3 : Int32) (I : mm_I) (J : mm_J) : Option (Int32 × mm_I × mm_J) :=
  some (v3, mm_up I v0 34 ((I v0 34) + 1), J)
def f11_takeTrade_210 (S : mm_Sh) (n : Nat) (v0 : Nat) (v1 : Int32) (s0 : Int32) (I : mm_I) (J : mm_J) : Option (Int32 × mm_I × mm_J) :=
  if s0 ≤ 0 then ((f11_readWord S n v0 I J).bind fun o2 => (f11_code S 110 101 101 100 o2.1 o2.2).bind fun o3 => (f11_longer S o3 115 o2.1 o2.2).bind fun o4 => if (lg_cmp (o2.2 v0 30) o4) = 0 then ((f11_into S n v0 (mm_rf S v0 35) (v1 + 3) 0 (((mm_up o2.1 v0 29 (o2.1 v0 31)) v0 34) - 1) (mm_up o2.1 v0 29 (o2.1 v0 31)) o2.2).bind fun o6 => f11_takeTrade_272 S n v0 o6.1 o6.2.1 o6.2.2) else (f11_takeTrade_272 S n v0 s0 o2.1 o2.2)) else (some (s0, I, J))
def f11_takeTrade_134 (S : mm_Sh) (n : Nat) (v0 : Nat) (v1 : Int32) (s0 : Int32) (I : mm_I) (J : mm_J) : Option (Int32 × mm_I × mm_J) :=
  if 0 ≤ s0 then (if mm_inb v1 (mm_al S (mm_rf S v0 35)) = true then (if mm_inb (v1 + 3) (mm_al S (mm_rf S v0 35)) = true then ((f11_into S n v0 (mm_rf S v0 35) (v1 + 1) 1 9 (mm_up (mm_up (mm_up I v0 29 (I v0 31)) (mm_rf S v0 35) v1.toNatClampNeg s0) (mm_rf S v0 35) (v1 + 3).toNatClampNeg (-1)) J).bind fun o4 => if o4.1 ≤ 0 then ((f11_into S n v0 (mm_rf S v0 35) (v1 + 2) 0 99 o4.2.1 o4.2.2).bind fun o6 => f11_takeTrade_210 S n v0 v1 o6.1 o6.2.1 o6.2.2) else (f11_takeTrade_210 S n v0 v1 o4.1 o4.2.1 o4.2.2)) else none) else none) else ((f11_fails S v0 1 (I v0 29) I J).bind fun o7 => some (o7.1, o7.2.1, o7.2.2))
def f11_takeTrade (S : mm_Sh) (n : Nat) (v0 : Nat) (I : mm_I) (J : mm_J) : Option (Int32 × mm_I × mm_J) :=
  (f11_readWord S n v0 I J).bind fun o1 => (f11_code S 112 108 97 105 o1.1 o1.2).bind fun o2 => (f11_longer S o2 110 o1.1 o1.2).bind fun o3 => if (lg_cmp (o1.2 v0 30) o3) = 0 then (f11_takeTrade_134 S n v0 (4 * (o1.1 v0 34)) 0 o1.1 o1.2) else ((f11_code S 98 97 99 107 o1.1 o1.2).bind fun o5 => if (lg_cmp (o1.2 v0 30) o5) = 0 then (f11_takeTrade_134 S n v0 (4 * (o1.1 v0 34)) 1 o1.1 o1.2) else ((f11_code S 104 97 108 102 o1.1 o1.2).bind fun o7 => if (lg_cmp (o1.2 v0 30) o7) = 0 then (f11_takeTrade_134 S n v0 (4 * (o1.1 v0 34)) 2 o1.1 o1.2) else ((f11_code S 102 111 114 98 o1.1 o1.2).bind fun o9 => (f11_longer S o9 105 o1.1 o1.2).bind fun o10 => (f11_longer S o10 100 o1.1 o1.2).bind fun o11 => (f11_longer S o11 100 o1.1 o1.2).bind fun o12 => (f11_longer S o12 101 o1.1 o1.2).bind fun o13 => (f11_longer S o13 110 o1.1 o1.2).bind fun o14 => if (lg_cmp (o1.2 v0 30) o14) = 0 then (f11_takeTrade_134 S n v0 (4 * (o1.1 v0 34)) 3 o1.1 o1.2) else (f11_takeTrade_134 S n v0 (4 * (o1.1 v0 34)) (-1) o1.1 o1.2))))
/-! ForgottenCraftsModel.yearNow()I -/
def f11_yearNow_172 (S : mm_Sh) (n : Nat) (rec4 : Nat → Int32 → Int32 → mm_I → mm_J → Option (Int32 × mm_I × mm_J)) (v0 : Nat) (v1 : Int32) (v2 : Int32) (I : mm_I) (J : mm_J) : Option (Int32 × mm_I × mm_J) :=
  rec4 v0 v1 (v2 + 1) I J
def f11_yearNow_171 (S : mm_Sh) (n : Nat) (rec4 : Nat → Int32 → Int32 → mm_I → mm_J → Option (Int32 × mm_I × mm_J)) (v0 : Nat) (v1 : Int32) (v2 : Int32) (s0 : Nat) (s1 : Int32) (s2 : Int32) (I : mm_I) (J : mm_J) : Option (Int32 × mm_I × mm_J) :=
  if mm_inb s1 (mm_al S s0) = true then (f11_yearNow_172 S n rec4 v0 v1 v2 (mm_up I s0 s1.toNatClampNeg s2) J) else none
def f11_yearNow_166 (S : mm_Sh) (n : Nat) (rec4 : Nat → Int32 → Int32 → mm_I → mm_J → Option (Int32 × mm_I × mm_J)) (v0 : Nat) (v1 : Int32) (v2 : Int32) (s0 : Nat) (s1 : Int32) (I : mm_I) (J : mm_J) : Option (Int32 × mm_I × mm_J) :=
  (f11_bestOf S n v0 v2 I J).bind fun o1 => f11_yearNow_171 S n rec4 v0 v1 v2 s0 s1 o1 I J
def f11_yearNow_129 (S : mm_Sh) (n : Nat) (rec4 : Nat → Int32 → Int32 → mm_I → mm_J → Option (Int32 × mm_I × mm_J)) (v0 : Nat) (v1 : Int32) (v2 : Int32) (I : mm_I) (J : mm_J) : Option (Int32 × mm_I × mm_J) :=
  if mm_inb v2 (mm_al S (mm_rf S v0 16)) = true then (if (I (mm_rf S v0 16) v2.toNatClampNeg) < 0 then (f11_yearNow_166 S n rec4 v0 v1 v2 (mm_rf S v0 16) v2 I J) else (if mm_inb v2 (mm_al S (mm_rf S v0 16)) = true then ((f11_knows S v0 v2 (I (mm_rf S v0 16) v2.toNatClampNeg) I J).bind fun o4 => if o4 = 0 then (f11_yearNow_166 S n rec4 v0 v1 v2 (mm_rf S v0 16) v2 I J) else (if mm_inb v2 (mm_al S (mm_rf S v0 16)) = true then (f11_yearNow_171 S n rec4 v0 v1 v2 (mm_rf S v0 16) v2 (I (mm_rf S v0 16) v2.toNatClampNeg) I J) else none)) else none)) else none
def f11_yearNow_73_b (S : mm_Sh) (n : Nat) (rec4 : Nat → Int32 → Int32 → mm_I → mm_J → Option (Int32 × mm_I × mm_J)) (rec73 : Nat → Int32 → Int32 → Int32 → mm_I → mm_J → Option (Int32 × mm_I × mm_J)) (v0 : Nat) (v1 : Int32) (v2 : Int32) (v4 : Int32) (I : mm_I) (J : mm_J) : Option (Int32 × mm_I × mm_J) :=
  if (I v0 0) ≤ v4 then (if mm_inb v2 (mm_al S (mm_rf S v0 12)) = true then (if mm_inb v2 (mm_al S (mm_rf S v0 12)) = true then (if mm_inb v2 (mm_al S (mm_rf S v0 12)) = true then (if ((mm_up I (mm_rf S v0 12) v2.toNatClampNeg ((I (mm_rf S v0 12) v2.toNatClampNeg) + 1)) (mm_rf S v0 12) v2.toNatClampNeg) < ((mm_up I (mm_rf S v0 12) v2.toNatClampNeg ((I (mm_rf S v0 12) v2.toNatClampNeg) + 1)) v0 10) then (f11_yearNow_129 S n rec4 v0 v1 v2 (mm_up I (mm_rf S v0 12) v2.toNatClampNeg ((I (mm_rf S v0 12) v2.toNatClampNeg) + 1)) J) else ((f11_die S n v0 v2 (mm_up I (mm_rf S v0 12) v2.toNatClampNeg ((I (mm_rf S v0 12) v2.toNatClampNeg) + 1)) J).bind fun o6 => f11_yearNow_129 S n rec4 v0 (v1 ||| ((1 : Int32) <<< (v2 &&& 31))) v2 o6.1 o6.2)) else none) else none) else none) else ((f11_tradeYear S n v0 v2 v4 I J).bind fun o7 => rec73 v0 v1 v2 (v4 + 1) o7.1 o7.2)
def f11_yearNow_73 (S : mm_Sh) (n : Nat) (rec4 : Nat → Int32 → Int32 → mm_I → mm_J → Option (Int32 × mm_I × mm_J)) : Nat → Nat → Int32 → Int32 → Int32 → mm_I → mm_J → Option (Int32 × mm_I × mm_J)
  | 0 => fun _ _ _ _ _ _ => none
  | k + 1 => f11_yearNow_73_b S n rec4 (f11_yearNow_73 S n rec4 k)
def f11_yearNow_68 (S : mm_Sh) (n : Nat) (rec4 : Nat → Int32 → Int32 → mm_I → mm_J → Option (Int32 × mm_I × mm_J)) (v0 : Nat) (v1 : Int32) (v2 : Int32) (s0 : Nat) (s1 : Int32) (s2 : Int32) (s3 : Int32) (I : mm_I) (J : mm_J) : Option (Int32 × mm_I × mm_J) :=
  if mm_inb s1 (mm_al S s0) = true then (f11_yearNow_73 S n rec4 n v0 v1 v2 0 (mm_up I s0 s1.toNatClampNeg (s2 + s3)) J) else none
def f11_yearNow_190_b (S : mm_Sh) (n : Nat) (rec190 : Nat → Int32 → Int32 → mm_I → mm_J → Option (Int32 × mm_I × mm_J)) (v0 : Nat) (v1 : Int32) (v2 : Int32) (I : mm_I) (J : mm_J) : Option (Int32 × mm_I × mm_J) :=
  if (I v0 2) ≤ v2 then (some (v1, I, J)) else (if mm_inb v2 (mm_al S (mm_rf S v0 21)) = true then (if mm_inb v2 (mm_al S (mm_rf S v0 22)) = true then (rec190 v0 v1 (v2 + 1) (mm_up (mm_up I (mm_rf S v0 21) v2.toNatClampNeg 0) (mm_rf S v0 22) v2.toNatClampNeg 0) J) else none) else none)
def f11_yearNow_190 (S : mm_Sh) (n : Nat) : Nat → Nat → Int32 → Int32 → mm_I → mm_J → Option (Int32 × mm_I × mm_J)
  | 0 => fun _ _ _ _ _ => none
  | k + 1 => f11_yearNow_190_b S n (f11_yearNow_190 S n k)
def f11_yearNow_4_b (S : mm_Sh) (n : Nat) (rec4 : Nat → Int32 → Int32 → mm_I → mm_J → Option (Int32 × mm_I × mm_J)) (v0 : Nat) (v1 : Int32) (v2 : Int32) (I : mm_I) (J : mm_J) : Option (Int32 × mm_I × mm_J) :=
  if (I v0 2) ≤ v2 then (f11_yearNow_190 S n n v0 v1 0 (mm_up I v0 23 ((I v0 23) + 1)) J) else (if mm_inb v2 (mm_al S (mm_rf S v0 13)) = true then (if (I (mm_rf S v0 13) v2.toNatClampNeg) = 0 then (f11_yearNow_172 S n rec4 v0 v1 v2 I J) else (if mm_inb v2 (mm_al S (mm_rf S v0 16)) = true then (if mm_inb v2 (mm_al S (mm_rf S v0 20)) = true then (if 0 ≤ (I (mm_rf S v0 16) v2.toNatClampNeg) then (if mm_inb ((4 * (I (mm_rf S v0 16) v2.toNatClampNeg)) + 2) (mm_al S (mm_rf S v0 1)) = true then (if mm_inb ((6 * v2) + (I (mm_rf S v0 16) v2.toNatClampNeg)) (mm_al S (mm_rf S v0 14)) = true then (f11_yearNow_68 S n rec4 v0 v1 v2 (mm_rf S v0 20) v2 (I (mm_rf S v0 20) v2.toNatClampNeg) (((I (mm_rf S v0 1) ((4 * (I (mm_rf S v0 16) v2.toNatClampNeg)) + 2).toNatClampNeg) * (I (mm_rf S v0 14) ((6 * v2) + (I (mm_rf S v0 16) v2.toNatClampNeg)).toNatClampNeg)) / 100) I J) else none) else none) else (f11_yearNow_68 S n rec4 v0 v1 v2 (mm_rf S v0 20) v2 (I (mm_rf S v0 20) v2.toNatClampNeg) 0 I J)) else none) else none)) else none)
def f11_yearNow_4 (S : mm_Sh) (n : Nat) : Nat → Nat → Int32 → Int32 → mm_I → mm_J → Option (Int32 × mm_I × mm_J)
  | 0 => fun _ _ _ _ _ => none
  | k + 1 => f11_yearNow_4_b S n (f11_yearNow_4 S n k)
def f11_yearNow (S : mm_Sh) (n : Nat) (v0 : Nat) (I : mm_I) (J : mm_J) : Option (Int32 × mm_I × mm_J) :=
  f11_yearNow_4 S n n v0 0 0 I J
/-! ForgottenCrafts$Life.bearChildren(I)V -/
def f2_bearChildren_26 (S : mm_Sh) (n : Nat) (rec2 : Nat → Int32 → Int32 → mm_I → mm_J → Option (mm_I × mm_J)) (v0 : Nat) (v1 : Int32) (v2 : Int32) (I : mm_I) (J : mm_J) : Option (mm_I × mm_J) :=
  rec2 v0 v1 (v2 + 1) I J
def f2_bearChildren_2_b (S : mm_Sh) (n : Nat) (rec2 : Nat → Int32 → Int32 → mm_I → mm_J → Option (mm_I × mm_J)) (v0 : Nat) (v1 : Int32) (v2 : Int32) (I : mm_I) (J : mm_J) : Option (mm_I × mm_J) :=
  if (I (mm_rf S v0 0) 6) ≤ v2 then (some (I, J)) else ((f10_has S v1 v2 I J).bind fun o2 => if o2 = 0 then (f2_bearChildren_26 S n rec2 v0 v1 v2 I J) else ((f2_bearChild S v0 v2 I J).bind fun o4 => f2_bearChildren_26 S n rec2 v0 v1 v2 o4.1 o4.2))
def f2_bearChildren_2 (S : mm_Sh) (n : Nat) : Nat → Nat → Int32 → Int32 → mm_I → mm_J → Option (mm_I × mm_J)
  | 0 => fun _ _ _ _ _ => none
  | k + 1 => f2_bearChildren_2_b S n (f2_bearChildren_2 S n k)
def f2_bearChildren (S : mm_Sh) (n : Nat) (v0 : Nat) (v1 : Int32) (I : mm_I) (J : mm_J) : Option (mm_I × mm_J) :=
  f2_bearChildren_2 S n n v0 v1 0 I J
/-! ForgottenCrafts$Life.beginChange(IIII)I -/
def f2_beginChange_31 (S : mm_Sh) (n : Nat)  (I : mm_I) (J : mm_J) : Option (Int32 × mm_I × mm_J) :=
  some ((-1000000003), I, J)
def f2_beginChange_129 (S : mm_Sh) (n : Nat) (v0 : Nat) (v1 : Int32) (v2 : Int32) (v3 : Int32) (v6 : Int32) (s0 : Nat) (s1 : Int32) (I : mm_I) (J : mm_J) : Option (Int32 × mm_I × mm_J) :=
  (f6_put S s0 s1 v3 I J).bind fun o1 => (f2_startLearning S v0 v1 v2 o1.1 o1.2).bind fun o2 => some (v6, o2.1, o2.2)
def f2_beginChange_84 (S : mm_Sh) (n : Nat) (v0 : Nat) (v1 : Int32) (v2 : Int32) (v3 : Int32) (v4 : Int32) (s0 : Int32) (I : mm_I) (J : mm_J) : Option (Int32 × mm_I × mm_J) :=
  if s0 = (-1000000003) then (some ((-1000000003), I, J)) else (if v4 = (-1) then (f2_beginChange_129 S n v0 v1 v2 v3 s0 (mm_rf S (mm_rf S v0 2) 6) v1 (mm_up I (mm_rf S v0 2) 9 ((I (mm_rf S v0 2) 9) ||| s0)) J) else (f2_beginChange_129 S n v0 v1 v2 v3 s0 (mm_rf S (mm_rf S v0 2) 6) v4 (mm_up I (mm_rf S v0 2) 9 ((I (mm_rf S v0 2) 9) ||| s0)) J))
def f2_beginChange_65 (S : mm_Sh) (n : Nat) (v0 : Nat) (v1 : Int32) (v2 : Int32) (v3 : Int32) (v4 : Int32) (s0 : Int32) (I : mm_I) (J : mm_J) : Option (Int32 × mm_I × mm_J) :=
  if s0 = 0 then (f2_beginChange_84 S n v0 v1 v2 v3 v4 (-1000000003) I J) else ((f2_witnessesFor S n v0 v1 v4 I J).bind fun o2 => f2_beginChange_84 S n v0 v1 v2 v3 v4 o2 I J)
def f2_beginChange (S : mm_Sh) (n : Nat) (v0 : Nat) (v1 : Int32) (v2 : Int32) (v3 : Int32) (v4 : Int32) (I : mm_I) (J : mm_J) : Option (Int32 × mm_I × mm_J) :=
  (f2_mayLearn S v0 v1 v2 I J).bind fun o1 => if o1 = 0 then (some ((-1000000003), I, J)) else (if v3 = (-1) then (if v4 = (-1) then ((f2_hasRoom S n v0 v1 I J).bind fun o8 => if o8 = 0 then (f2_beginChange_31 S n I J) else ((f2_startLearning S v0 v1 v2 I J).bind fun o10 => some (0, o10.1, o10.2))) else (f2_beginChange_31 S n I J)) else (if v4 = (-1) then ((f2_mayGiveUp S v0 v1 v2 v3 I J).bind fun o6 => f2_beginChange_65 S n v0 v1 v2 v3 v4 o6 I J) else ((f2_mayLend S v0 v4 v3 I J).bind fun o5 => f2_beginChange_65 S n v0 v1 v2 v3 v4 o5 I J)))
/-! ForgottenCrafts$Life.deadTrades()I -/
def f2_deadTrades_33 (S : mm_Sh) (n : Nat) (rec4 : Nat → Int32 → Int32 → mm_I → mm_J → Option (Int32)) (v0 : Nat) (v1 : Int32) (v2 : Int32) (I : mm_I) (J : mm_J) : Option (Int32) :=
  rec4 v0 v1 (v2 + 1) I J
def f2_deadTrades_4_b (S : mm_Sh) (n : Nat) (rec4 : Nat → Int32 → Int32 → mm_I → mm_J → Option (Int32)) (v0 : Nat) (v1 : Int32) (v2 : Int32) (I : mm_I) (J : mm_J) : Option (Int32) :=
  if (I (mm_rf S v0 0) 5) ≤ v2 then (some v1) else ((f1_withSkill S n (mm_rf S v0 2) v2 1 I J).bind fun o2 => if o2 = 0 then (f2_deadTrades_33 S n rec4 v0 (v1 ||| ((1 : Int32) <<< (v2 &&& 31))) v2 I J) else (f2_deadTrades_33 S n rec4 v0 v1 v2 I J))
def f2_deadTrades_4 (S : mm_Sh) (n : Nat) : Nat → Nat → Int32 → Int32 → mm_I → mm_J → Option (Int32)
  | 0 => fun _ _ _ _ _ => none
  | k + 1 => f2_deadTrades_4_b S n (f2_deadTrades_4 S n k)
def f2_deadTrades (S : mm_Sh) (n : Nat) (v0 : Nat) (I : mm_I) (J : mm_J) : Option (Int32) :=
  f2_deadTrades_4 S n n v0 0 0 I J
/-! ForgottenCrafts$Life.leaveAside(II)V -/
def f2_leaveAside_87 (S : mm_Sh) (n : Nat)  (I : mm_I) (J : mm_J) : Option (mm_I × mm_J) :=
  some (I, J)
def f2_leaveAside (S : mm_Sh) (n : Nat) (v0 : Nat) (v1 : Int32) (v2 : Int32) (I : mm_I) (J : mm_J) : Option (mm_I × mm_J) :=
  (f1_knows S (mm_rf S v0 2) v1 v2 I J).bind fun o1 => if o1 = 0 then ((f2_isBackDue S v0 v1 v2 I J).bind fun o7 => if o7 = 0 then (f2_leaveAside_87 S n I J) else ((f2_hasRoom S n v0 v1 I J).bind fun o9 => if o9 = 0 then (f2_leaveAside_87 S n I J) else ((f1_setSkill S (mm_rf S v0 2) v1 v2 1 I J).bind fun o11 => f2_leaveAside_87 S n o11.1 o11.2))) else ((f6_at S (mm_rf S (mm_rf S v0 2) 3) v1 I J).bind fun o3 => if o3 = v2 then (f2_leaveAside_87 S n I J) else ((f1_skillOf S (mm_rf S v0 2) v1 v2 I J).bind fun o5 => (f1_setSkill S (mm_rf S v0 2) v1 v2 (if 1 < (o5 - (I (mm_rf S v0 1) 3)) then (o5 - (I (mm_rf S v0 1) 3)) else 1) I J).bind fun o6 => f2_leaveAside_87 S n o6.1 o6.2))
/-! ForgottenCrafts$Plan.fillCosts()V -/
def f3_fillCosts_15_b (S : mm_Sh) (n : Nat) (rec2 : Nat → Int32 → mm_I → mm_J → Option (mm_I × mm_J)) (rec15 : Nat → Int32 → Int32 → mm_I → mm_J → Option (mm_I × mm_J)) (v0 : Nat) (v1 : Int32) (v2 : Int32) (I : mm_I) (J : mm_J) : Option (mm_I × mm_J) :=
  if (I (mm_rf S v0 0) 5) ≤ v2 then (rec2 v0 (v1 + 1) I J) else ((f10_cell S v1 v2 I J).bind fun o2 => (f3_costOf S v0 v1 v2 I J).bind fun o3 => (f6_put S (mm_rf S v0 4) o2 o3 I J).bind fun o4 => rec15 v0 v1 (v2 + 1) o4.1 o4.2)
def f3_fillCosts_15 (S : mm_Sh) (n : Nat) (rec2 : Nat → Int32 → mm_I → mm_J → Option (mm_I × mm_J)) : Nat → Nat → Int32 → Int32 → mm_I → mm_J → Option (mm_I × mm_J)
  | 0 => fun _ _ _ _ _ => none
  | k + 1 => f3_fillCosts_15_b S n rec2 (f3_fillCosts_15 S n rec2 k)
def f3_fillCosts_2_b (S : mm_Sh) (n : Nat) (rec2 : Nat → Int32 → mm_I → mm_J → Option (mm_I × mm_J)) (v0 : Nat) (v1 : Int32) (I : mm_I) (J : mm_J) : Option (mm_I × mm_J) :=
  if (I (mm_rf S v0 0) 6) ≤ v1 then (some (I, J)) else (f3_fillCosts_15 S n rec2 n v0 v1 0 I J)
def f3_fillCosts_2 (S : mm_Sh) (n : Nat) : Nat → Nat → Int32 → mm_I → mm_J → Option (mm_I × mm_J)
  | 0 => fun _ _ _ _ => none
  | k + 1 => f3_fillCosts_2_b S n (f3_fillCosts_2 S n k)
def f3_fillCosts (S : mm_Sh) (n : Nat) (v0 : Nat) (I : mm_I) (J : mm_J) : Option (mm_I × mm_J) :=
  f3_fillCosts_2 S n n v0 0 I J
/-! ForgottenCrafts$Plan.fillSums()V -/
def f3_fillSums_38 (S : mm_Sh) (n : Nat) (rec2 : Nat → Int32 → mm_I → mm_J → Option (mm_I × mm_J)) (v0 : Nat) (v1 : Int32) (s0 : Nat) (s1 : Int32) (s2 : Int32) (I : mm_I) (J : mm_J) : Option (mm_I × mm_J) :=
  (f6_put S s0 s1 s2 I J).bind fun o1 => rec2 v0 (v1 + 1) o1.1 o1.2
def f3_fillSums_82_b (S : mm_Sh) (n : Nat) (rec57 : Nat → Int32 → mm_I → mm_J → Option (mm_I × mm_J)) (rec63 : Nat → Int32 → Int32 → mm_I → mm_J → Option (mm_I × mm_J)) (rec82 : Nat → Int32 → Int32 → Int32 → Int32 → mm_I → mm_J → Option (mm_I × mm_J)) (v0 : Nat) (v1 : Int32) (v2 : Int32) (v3 : Int32) (v4 : Int32) (I : mm_I) (J : mm_J) : Option (mm_I × mm_J) :=
  if (I (mm_rf S v0 0) 5) ≤ v4 then ((f6_put S (mm_rf S v0 5) ((v1 * (I v0 7)) + v2) v3 I J).bind fun o2 => rec63 v0 v1 (v2 + 1) o2.1 o2.2) else ((f3_sumWith S v0 v1 v2 v4 I J).bind fun o3 => rec82 v0 v1 v2 (if o3 < v3 then o3 else v3) (v4 + 1) I J)
def f3_fillSums_82 (S : mm_Sh) (n : Nat) (rec57 : Nat → Int32 → mm_I → mm_J → Option (mm_I × mm_J)) (rec63 : Nat → Int32 → Int32 → mm_I → mm_J → Option (mm_I × mm_J)) : Nat → Nat → Int32 → Int32 → Int32 → Int32 → mm_I → mm_J → Option (mm_I × mm_J)
  | 0 => fun _ _ _ _ _ _ _ => none
  | k + 1 => f3_fillSums_82_b S n rec57 rec63 (f3_fillSums_82 S n rec57 rec63 k)
def f3_fillSums_63_b (S : mm_Sh) (n : Nat) (rec57 : Nat → Int32 → mm_I → mm_J → Option (mm_I × mm_J)) (rec63 : Nat → Int32 → Int32 → mm_I → mm_J → Option (mm_I × mm_J)) (v0 : Nat) (v1 : Int32) (v2 : Int32) (I : mm_I) (J : mm_J) : Option (mm_I × mm_J) :=
  if (I v0 7) ≤ v2 then (rec57 v0 (v1 + (-1)) I J) else ((f3_sumWith S v0 v1 v2 (-1) I J).bind fun o2 => f3_fillSums_82 S n rec57 rec63 n v0 v1 v2 o2 0 I J)
def f3_fillSums_63 (S : mm_Sh) (n : Nat) (rec57 : Nat → Int32 → mm_I → mm_J → Option (mm_I × mm_J)) : Nat → Nat → Int32 → Int32 → mm_I → mm_J → Option (mm_I × mm_J)
  | 0 => fun _ _ _ _ _ => none
  | k + 1 => f3_fillSums_63_b S n rec57 (f3_fillSums_63 S n rec57 k)
def f3_fillSums_57_b (S : mm_Sh) (n : Nat) (rec57 : Nat → Int32 → mm_I → mm_J → Option (mm_I × mm_J)) (v0 : Nat) (v1 : Int32) (I : mm_I) (J : mm_J) : Option (mm_I × mm_J) :=
  if v1 < 0 then (some (I, J)) else (f3_fillSums_63 S n rec57 n v0 v1 0 I J)
def f3_fillSums_57 (S : mm_Sh) (n : Nat) : Nat → Nat → Int32 → mm_I → mm_J → Option (mm_I × mm_J)
  | 0 => fun _ _ _ _ => none
  | k + 1 => f3_fillSums_57_b S n (f3_fillSums_57 S n k)
def f3_fillSums_2_b (S : mm_Sh) (n : Nat) (rec2 : Nat → Int32 → mm_I → mm_J → Option (mm_I × mm_J)) (v0 : Nat) (v1 : Int32) (I : mm_I) (J : mm_J) : Option (mm_I × mm_J) :=
  if (I v0 7) ≤ v1 then (f3_fillSums_57 S n n v0 ((I (mm_rf S v0 0) 6) - 1) I J) else (if v1 = 0 then (f3_fillSums_38 S n rec2 v0 v1 (mm_rf S v0 5) (((I (mm_rf S v0 0) 6) * (I v0 7)) + v1) 0 I J) else (f3_fillSums_38 S n rec2 v0 v1 (mm_rf S v0 5) (((I (mm_rf S v0 0) 6) * (I v0 7)) + v1) 1000000 I J))
def f3_fillSums_2 (S : mm_Sh) (n : Nat) : Nat → Nat → Int32 → mm_I → mm_J → Option (mm_I × mm_J)
  | 0 => fun _ _ _ _ => none
  | k + 1 => f3_fillSums_2_b S n (f3_fillSums_2 S n k)
def f3_fillSums (S : mm_Sh) (n : Nat) (v0 : Nat) (I : mm_I) (J : mm_J) : Option (mm_I × mm_J) :=
  f3_fillSums_2 S n n v0 0 I J
/-! ForgottenCrafts$Plan.giveTrades()V -/
def f3_giveTrades_103 (S : mm_Sh) (n : Nat) (rec9 : Nat → Int32 → Int32 → mm_I → mm_J → Option (mm_I × mm_J)) (v0 : Nat) (v1 : Int32) (v2 : Int32) (I : mm_I) (J : mm_J) : Option (mm_I × mm_J) :=
  rec9 v0 v1 (v2 + 1) I J
def f3_giveTrades_69 (S : mm_Sh) (n : Nat) (rec9 : Nat → Int32 → Int32 → mm_I → mm_J → Option (mm_I × mm_J)) (v0 : Nat) (v1 : Int32) (v2 : Int32) (v4 : Int32) (I : mm_I) (J : mm_J) : Option (mm_I × mm_J) :=
  if (I (mm_rf S v0 0) 5) ≤ v4 then (f3_giveTrades_103 S n rec9 v0 v1 v2 I J) else ((f6_put S (mm_rf S v0 6) v2 v4 I J).bind fun o2 => (f6_at S (mm_rf S v0 3) v4 o2.1 o2.2).bind fun o3 => f3_giveTrades_103 S n rec9 v0 (v1 - o3) v2 o2.1 o2.2)
def f3_giveTrades_39_b (S : mm_Sh) (n : Nat) (rec9 : Nat → Int32 → Int32 → mm_I → mm_J → Option (mm_I × mm_J)) (rec39 : Nat → Int32 → Int32 → Int32 → Int32 → mm_I → mm_J → Option (mm_I × mm_J)) (v0 : Nat) (v1 : Int32) (v2 : Int32) (v3 : Int32) (v4 : Int32) (I : mm_I) (J : mm_J) : Option (mm_I × mm_J) :=
  if (I (mm_rf S v0 0) 5) ≤ v4 then (f3_giveTrades_69 S n rec9 v0 v1 v2 v4 I J) else ((f3_sumWith S v0 v2 v1 v4 I J).bind fun o2 => if o2 = v3 then (f3_giveTrades_69 S n rec9 v0 v1 v2 v4 I J) else (rec39 v0 v1 v2 v3 (v4 + 1) I J))
def f3_giveTrades_39 (S : mm_Sh) (n : Nat) (rec9 : Nat → Int32 → Int32 → mm_I → mm_J → Option (mm_I × mm_J)) : Nat → Nat → Int32 → Int32 → Int32 → Int32 → mm_I → mm_J → Option (mm_I × mm_J)
  | 0 => fun _ _ _ _ _ _ _ => none
  | k + 1 => f3_giveTrades_39_b S n rec9 (f3_giveTrades_39 S n rec9 k)
def f3_giveTrades_9_b (S : mm_Sh) (n : Nat) (rec9 : Nat → Int32 → Int32 → mm_I → mm_J → Option (mm_I × mm_J)) (v0 : Nat) (v1 : Int32) (v2 : Int32) (I : mm_I) (J : mm_J) : Option (mm_I × mm_J) :=
  if (I (mm_rf S v0 0) 6) ≤ v2 then (some (I, J)) else ((f6_at S (mm_rf S v0 5) ((v2 * (I v0 7)) + v1) I J).bind fun o2 => f3_giveTrades_39 S n rec9 n v0 v1 v2 o2 0 I J)
def f3_giveTrades_9 (S : mm_Sh) (n : Nat) : Nat → Nat → Int32 → Int32 → mm_I → mm_J → Option (mm_I × mm_J)
  | 0 => fun _ _ _ _ _ => none
  | k + 1 => f3_giveTrades_9_b S n (f3_giveTrades_9 S n k)
def f3_giveTrades (S : mm_Sh) (n : Nat) (v0 : Nat) (I : mm_I) (J : mm_J) : Option (mm_I × mm_J) :=
  f3_giveTrades_9 S n n v0 ((I v0 7) - 1) 0 I J
/-! ForgottenCrafts$Rings.fillGains()V -/
def f5_fillGains_67 (S : mm_Sh) (n : Nat) (rec2 : Nat → Int32 → mm_I → mm_J → Option (mm_I × mm_J)) (v0 : Nat) (v1 : Int32) (s0 : Nat) (s1 : Int32) (s2 : Int32) (I : mm_I) (J : mm_J) : Option (mm_I × mm_J) :=
  (f6_put S s0 s1 s2 I J).bind fun o1 => rec2 v0 (v1 + 1) o1.1 o1.2
def f5_fillGains_45 (S : mm_Sh) (n : Nat) (rec2 : Nat → Int32 → mm_I → mm_J → Option (mm_I × mm_J)) (v0 : Nat) (v1 : Int32) (s0 : Int32) (I : mm_I) (J : mm_J) : Option (mm_I × mm_J) :=
  if s0 = 0 then (f5_fillGains_67 S n rec2 v0 v1 (mm_rf S v0 1) v1 (-1) I J) else ((f2_leastLiked S n (mm_rf S v0 0) v1 I J).bind fun o2 => f5_fillGains_67 S n rec2 v0 v1 (mm_rf S v0 1) v1 o2 I J)
def f5_fillGains_44 (S : mm_Sh) (n : Nat) (rec2 : Nat → Int32 → mm_I → mm_J → Option (mm_I × mm_J)) (v0 : Nat) (v1 : Int32) (I : mm_I) (J : mm_J) : Option (mm_I × mm_J) :=
  f5_fillGains_45 S n rec2 v0 v1 0 I J
def f5_fillGains_86_b (S : mm_Sh) (n : Nat) (rec78 : Nat → Int32 → mm_I → mm_J → Option (mm_I × mm_J)) (rec86 : Nat → Int32 → Int32 → mm_I → mm_J → Option (mm_I × mm_J)) (v0 : Nat) (v1 : Int32) (v2 : Int32) (I : mm_I) (J : mm_J) : Option (mm_I × mm_J) :=
  if 8 ≤ v2 then (rec78 v0 (v1 + 1) I J) else ((f6_at S (mm_rf S v0 1) v1 I J).bind fun o2 => (f6_at S (mm_rf S v0 1) v2 I J).bind fun o3 => (f5_gainOf S v0 v1 o2 o3 I J).bind fun o4 => (f6_put S (mm_rf S v0 2) ((v1 * 8) + v2) o4 I J).bind fun o5 => rec86 v0 v1 (v2 + 1) o5.1 o5.2)
def f5_fillGains_86 (S : mm_Sh) (n : Nat) (rec78 : Nat → Int32 → mm_I → mm_J → Option (mm_I × mm_J)) : Nat → Nat → Int32 → Int32 → mm_I → mm_J → Option (mm_I × mm_J)
  | 0 => fun _ _ _ _ _ => none
  | k + 1 => f5_fillGains_86_b S n rec78 (f5_fillGains_86 S n rec78 k)
def f5_fillGains_78_b (S : mm_Sh) (n : Nat) (rec78 : Nat → Int32 → mm_I → mm_J → Option (mm_I × mm_J)) (v0 : Nat) (v1 : Int32) (I : mm_I) (J : mm_J) : Option (mm_I × mm_J) :=
  if 8 ≤ v1 then (some (I, J)) else (f5_fillGains_86 S n rec78 n v0 v1 0 I J)
def f5_fillGains_78 (S : mm_Sh) (n : Nat) : Nat → Nat → Int32 → mm_I → mm_J → Option (mm_I × mm_J)
  | 0 => fun _ _ _ _ => none
  | k + 1 => f5_fillGains_78_b S n (f5_fillGains_78 S n k)
def f5_fillGains_2_b (S : mm_Sh) (n : Nat) (rec2 : Nat → Int32 → mm_I → mm_J → Option (mm_I × mm_J)) (v0 : Nat) (v1 : Int32) (I : mm_I) (J : mm_J) : Option (mm_I × mm_J) :=
  if 8 ≤ v1 then (f5_fillGains_78 S n n v0 0 I J) else ((f1_lives S (mm_rf S (mm_rf S v0 0) 2) v1 I J).bind fun o2 => if o2 = 0 then (f5_fillGains_44 S n rec2 v0 v1 I J) else ((f6_at S (mm_rf S (mm_rf S (mm_rf S v0 0) 2) 4) v1 I J).bind fun o4 => if o4 = (-1) then (f5_fillGains_45 S n rec2 v0 v1 1 I J) else (f5_fillGains_44 S n rec2 v0 v1 I J)))
def f5_fillGains_2 (S : mm_Sh) (n : Nat) : Nat → Nat → Int32 → mm_I → mm_J → Option (mm_I × mm_J)
  | 0 => fun _ _ _ _ => none
  | k + 1 => f5_fillGains_2_b S n (f5_fillGains_2 S n k)
def f5_fillGains (S : mm_Sh) (n : Nat) (v0 : Nat) (I : mm_I) (J : mm_J) : Option (mm_I × mm_J) :=
  f5_fillGains_2 S n n v0 0 I J
/-! ForgottenCrafts$Shelf.makersOf(ILForgottenCrafts$Folk;)I -/
def f8_makersOf (S : mm_Sh) (n : Nat) (v0 : Nat) (v1 : Int32) (v2 : Nat) (I : mm_I) (J : mm_J) : Option (Int32) :=
  (f6_at S (mm_rf S v0 0) v1 I J).bind fun o1 => (f6_at S (mm_rf S v0 1) v1 I J).bind fun o2 => (f1_withSkill S n v2 o1 o2 I J).bind fun o3 => some o3
/-! ForgottenCrafts$TownTeller.tellLike()V -/
def f9_tellLike_106 (S : mm_Sh) (n : Nat) (v0 : Nat) (v1 : Int32) (v3 : Int32) (v4 : Int64) (I : mm_I) (J : mm_J) : Option (mm_I × mm_J) :=
  (f10_cell S v1 v3 I (mm_upJ J v0 4 ((J v0 4) ||| v4))).bind fun o1 => (f4_number S n (mm_rf S v0 0) 0 99 I (mm_upJ J v0 4 ((J v0 4) ||| v4))).bind fun o2 => (f6_put S (mm_rf S (mm_rf S v0 1) 4) o1 o2.1 o2.2.1 o2.2.2).bind fun o3 => some (mm_up o3.1 v0 3 ((o3.1 v0 3) + 1), o3.2)
def f9_tellLike_15 (S : mm_Sh) (n : Nat) (v0 : Nat) (s0 : Nat) (s1 : Int32) (I : mm_I) (J : mm_J) : Option (mm_I × mm_J) :=
  (f9_openClause S n s0 s1 I J).bind fun o1 => (f4_number S n (mm_rf S v0 0) 0 ((o1.1 (mm_rf S v0 1) 6) - 1) o1.1 o1.2).bind fun o2 => (f4_number S n (mm_rf S v0 0) 0 ((o2.2.1 (mm_rf S v0 1) 5) - 1) o2.2.1 o2.2.2).bind fun o3 => (f10_cell S o2.1 o3.1 o3.2.1 o3.2.2).bind fun o4 => (f4_isSound S (mm_rf S v0 0) o3.2.1 o3.2.2).bind fun o5 => if o5 = 0 then (f9_tellLike_106 S n v0 o2.1 o3.1 ((1 : Int64) <<< ((if 0 < o4 then o4 else 0).toInt64 &&& 63)) o3.2.1 o3.2.2) else (if (lg_cmp ((o3.2.2 v0 4) &&& ((1 : Int64) <<< ((if 0 < o4 then o4 else 0).toInt64 &&& 63))) 0) = 0 then (f9_tellLike_106 S n v0 o2.1 o3.1 ((1 : Int64) <<< ((if 0 < o4 then o4 else 0).toInt64 &&& 63)) o3.2.1 o3.2.2) else ((f4_blame S (mm_rf S v0 0) 4 (o2.2.1 (mm_rf S v0 0) 3) o3.2.1 o3.2.2).bind fun o8 => f9_tellLike_106 S n v0 o2.1 o3.1 ((1 : Int64) <<< ((if 0 < o4 then o4 else 0).toInt64 &&& 63)) o8.1 o8.2))
def f9_tellLike (S : mm_Sh) (n : Nat) (v0 : Nat) (I : mm_I) (J : mm_J) : Option (mm_I × mm_J) :=
  if 40 ≤ (I v0 3) then (f9_tellLike_15 S n v0 v0 0 I J) else (f9_tellLike_15 S n v0 v0 1 I J)
/-! ForgottenCrafts$TownTeller.tellSkill(I)V -/
def f9_tellSkill_47 (S : mm_Sh) (n : Nat) (v0 : Nat) (v1 : Int32) (v3 : Int32) (I : mm_I) (J : mm_J) : Option (mm_I × mm_J) :=
  (f4_number S n (mm_rf S v0 0) 1 100 I J).bind fun o1 => (f1_setSkill S (mm_rf S v0 2) v1 v3 o1.1 o1.2.1 o1.2.2).bind fun o2 => some (o2.1, o2.2)
def f9_tellSkill (S : mm_Sh) (n : Nat) (v0 : Nat) (v1 : Int32) (I : mm_I) (J : mm_J) : Option (mm_I × mm_J) :=
  (f4_number S n (mm_rf S v0 0) 0 ((I (mm_rf S v0 1) 5) - 1) I J).bind fun o1 => (f1_knows S (mm_rf S v0 2) v1 o1.1 o1.2.1 o1.2.2).bind fun o2 => if o2 = 0 then (f9_tellSkill_47 S n v0 v1 o1.1 o1.2.1 o1.2.2) else ((f4_blame S (mm_rf S v0 0) 4 (I (mm_rf S v0 0) 3) o1.2.1 o1.2.2).bind fun o4 => f9_tellSkill_47 S n v0 v1 o1.1 o4.1 o4.2)
/-! ForgottenCrafts.change(IIII)I -/
def f10_change_90 (S : mm_Sh) (n : Nat) (s0 : Int32) (I : mm_I) (J : mm_J) : Option (Int32 × mm_I × mm_J) :=
  some (s0, I, J)
def f10_change_88 (S : mm_Sh) (n : Nat)  (I : mm_I) (J : mm_J) : Option (Int32 × mm_I × mm_J) :=
  f10_change_90 S n (-1000000001) I J
def f10_change_61 (S : mm_Sh) (n : Nat) (v0 : Nat) (v1 : Int32) (v2 : Int32) (v3 : Int32) (v4 : Int32) (v5 : Int32) (s0 : Int32) (I : mm_I) (J : mm_J) : Option (Int32 × mm_I × mm_J) :=
  if v5 = 0 then (f10_change_88 S n I J) else (if s0 = 0 then (f10_change_88 S n I J) else ((f2_beginChange S n (mm_rf S v0 15) v1 v2 v3 v4 I J).bind fun o3 => f10_change_90 S n o3.1 o3.2.1 o3.2.2))
def f10_change_56 (S : mm_Sh) (n : Nat) (v0 : Nat) (v1 : Int32) (v2 : Int32) (v3 : Int32) (v4 : Int32) (v5 : Int32) (I : mm_I) (J : mm_J) : Option (Int32 × mm_I × mm_J) :=
  f10_change_61 S n v0 v1 v2 v3 v4 v5 1 I J
def f10_change_60 (S : mm_Sh) (n : Nat) (v0 : Nat) (v1 : Int32) (v2 : Int32) (v3 : Int32) (v4 : Int32) (v5 : Int32) (I : mm_I) (J : mm_J) : Option (Int32 × mm_I × mm_J) :=
  f10_change_61 S n v0 v1 v2 v3 v4 v5 0 I J
def f10_change_30 (S : mm_Sh) (n : Nat) (v0 : Nat) (v1 : Int32) (v2 : Int32) (v3 : Int32) (v4 : Int32) (s0 : Int32) (I : mm_I) (J : mm_J) : Option (Int32 × mm_I × mm_J) :=
  if v4 = (-1) then (f10_change_56 S n v0 v1 v2 v3 v4 s0 I J) else ((f0_hasPerson S (mm_rf S v0 1) v4 I J).bind fun o2 => if o2 = 0 then (f10_change_60 S n v0 v1 v2 v3 v4 s0 I J) else (if v4 = v1 then (f10_change_60 S n v0 v1 v2 v3 v4 s0 I J) else (f10_change_56 S n v0 v1 v2 v3 v4 s0 I J)))
def f10_change_25 (S : mm_Sh) (n : Nat) (v0 : Nat) (v1 : Int32) (v2 : Int32) (v3 : Int32) (v4 : Int32) (I : mm_I) (J : mm_J) : Option (Int32 × mm_I × mm_J) :=
  f10_change_30 S n v0 v1 v2 v3 v4 1 I J
def f10_change_29 (S : mm_Sh) (n : Nat) (v0 : Nat) (v1 : Int32) (v2 : Int32) (v3 : Int32) (v4 : Int32) (I : mm_I) (J : mm_J) : Option (Int32 × mm_I × mm_J) :=
  f10_change_30 S n v0 v1 v2 v3 v4 0 I J
def f10_change (S : mm_Sh) (n : Nat) (v0 : Nat) (v1 : Int32) (v2 : Int32) (v3 : Int32) (v4 : Int32) (I : mm_I) (J : mm_J) : Option (Int32 × mm_I × mm_J) :=
  (f10_isKnownPair S v0 v1 v2 I J).bind fun o1 => if o1 = 0 then (f10_change_29 S n v0 v1 v2 v3 v4 I J) else (if v3 = (-1) then (f10_change_25 S n v0 v1 v2 v3 v4 I J) else ((f0_hasTrade S (mm_rf S v0 1) v3 I J).bind fun o4 => if o4 = 0 then (f10_change_29 S n v0 v1 v2 v3 v4 I J) else (f10_change_25 S n v0 v1 v2 v3 v4 I J)))
/-! ForgottenCrafts.makers(I)I -/
def f10_makers_34 (S : mm_Sh) (n : Nat) (s0 : Int32) (I : mm_I) (J : mm_J) : Option (Int32) :=
  some s0
def f10_makers (S : mm_Sh) (n : Nat) (v0 : Nat) (v1 : Int32) (I : mm_I) (J : mm_J) : Option (Int32) :=
  (f10_within S v1 0 ((I (mm_rf S v0 13) 6) - 1) I J).bind fun o1 => if o1 = 0 then (f10_makers_34 S n (-1000000001) I J) else ((f8_makersOf S n (mm_rf S v0 13) v1 (mm_rf S v0 6) I J).bind fun o3 => f10_makers_34 S n o3 I J)
/-! ForgottenCrafts.told(I)I -/
def f10_told_159 (S : mm_Sh) (n : Nat) (s0 : Int32) (I : mm_I) (J : mm_J) : Option (Int32) :=
  some s0
def f10_told (S : mm_Sh) (n : Nat) (v0 : Nat) (v1 : Int32) (I : mm_I) (J : mm_J) : Option (Int32) :=
  if v1 = 0 then (some (I (mm_rf S v0 1) 5)) else (if v1 = 1 then (some (I (mm_rf S v0 1) 6)) else (if v1 = 2 then (some (I (mm_rf S v0 6) 8)) else (if v1 = 3 then (some (I (mm_rf S v0 6) 11)) else (if v1 = 4 then (some (I (mm_rf S v0 3) 0)) else (if v1 = 5 then (some (I (mm_rf S v0 3) 1)) else (if v1 = 6 then (some (I (mm_rf S v0 3) 2)) else (if v1 = 7 then (some (I (mm_rf S v0 3) 3)) else (if v1 = 8 then (some (I (mm_rf S v0 3) 4)) else (if v1 = 9 then (if (I (mm_rf S v0 3) 5) = 0 then (f10_told_159 S n 0 I J) else (f10_told_159 S n 1 I J)) else (if v1 = 10 then (some (I (mm_rf S v0 0) 1)) else (if v1 = 11 then (some (I (mm_rf S v0 13) 6)) else (if v1 = 12 then (some (I (mm_rf S v0 13) 7)) else (if v1 = 13 then ((f2_deadTrades S n (mm_rf S v0 15) I J).bind fun o15 => some o15) else (some (-1000000002)))))))))))))))
/-! ForgottenCraftsModel.change(IIII)I -/
def f11_change_29 (S : mm_Sh) (n : Nat)  (I : mm_I) (J : mm_J) : Option (Int32 × mm_I × mm_J) :=
  some ((-1000000001), I, J)
def f11_change_54 (S : mm_Sh) (n : Nat)  (I : mm_I) (J : mm_J) : Option (Int32 × mm_I × mm_J) :=
  some ((-1000000001), I, J)
def f11_change_58 (S : mm_Sh) (n : Nat) (v0 : Nat) (v1 : Int32) (v2 : Int32) (v3 : Int32) (v4 : Int32) (I : mm_I) (J : mm_J) : Option (Int32 × mm_I × mm_J) :=
  (f11_changeNow S n v0 v1 v2 v3 v4 I J).bind fun o1 => some (o1.1, o1.2.1, o1.2.2)
def f11_change_33 (S : mm_Sh) (n : Nat) (v0 : Nat) (v1 : Int32) (v2 : Int32) (v3 : Int32) (v4 : Int32) (I : mm_I) (J : mm_J) : Option (Int32 × mm_I × mm_J) :=
  if v4 = (-1) then (f11_change_58 S n v0 v1 v2 v3 v4 I J) else ((f11_isPerson S v0 v4 I J).bind fun o2 => if o2 = 0 then (f11_change_54 S n I J) else (if v4 = v1 then (f11_change_54 S n I J) else (f11_change_58 S n v0 v1 v2 v3 v4 I J)))
def f11_change (S : mm_Sh) (n : Nat) (v0 : Nat) (v1 : Int32) (v2 : Int32) (v3 : Int32) (v4 : Int32) (I : mm_I) (J : mm_J) : Option (Int32 × mm_I × mm_J) :=
  (f11_isPerson S v0 v1 I J).bind fun o1 => if o1 = 0 then (f11_change_29 S n I J) else ((f11_isTrade S v0 v2 I J).bind fun o3 => if o3 = 0 then (f11_change_29 S n I J) else (if v3 = (-1) then (f11_change_33 S n v0 v1 v2 v3 v4 I J) else ((f11_isTrade S v0 v3 I J).bind fun o6 => if o6 = 0 then (f11_change_29 S n I J) else (f11_change_33 S n v0 v1 v2 v3 v4 I J))))
/-! ForgottenCraftsModel.changed(I)I -/
def f11_changed_126 (S : mm_Sh) (n : Nat) (rec55 : Nat → Int32 → Int32 → Int32 → Int32 → mm_I → mm_J → Option (Int32 × mm_I × mm_J)) (rec71 : Nat → Int32 → Int32 → Int32 → Int32 → Int32 → mm_I → mm_J → Option (Int32 × mm_I × mm_J)) (v0 : Nat) (v1 : Int32) (v2 : Int32) (v4 : Int32) (v5 : Int32) (s0 : Int32) (I : mm_I) (J : mm_J) : Option (Int32 × mm_I × mm_J) :=
  rec71 v0 v1 v2 s0 v4 (v5 + (-1)) I J
def f11_changed_125 (S : mm_Sh) (n : Nat) (rec55 : Nat → Int32 → Int32 → Int32 → Int32 → mm_I → mm_J → Option (Int32 × mm_I × mm_J)) (rec71 : Nat → Int32 → Int32 → Int32 → Int32 → Int32 → mm_I → mm_J → Option (Int32 × mm_I × mm_J)) (v0 : Nat) (v1 : Int32) (v2 : Int32) (v3 : Int32) (v4 : Int32) (v5 : Int32) (I : mm_I) (J : mm_J) : Option (Int32 × mm_I × mm_J) :=
  f11_changed_126 S n rec55 rec71 v0 v1 v2 v4 v5 v3 I J
def f11_changed_148 (S : mm_Sh) (n : Nat) (rec55 : Nat → Int32 → Int32 → Int32 → Int32 → mm_I → mm_J → Option (Int32 × mm_I × mm_J)) (v0 : Nat) (v1 : Int32) (v3 : Int32) (v4 : Int32) (s0 : Int32) (s1 : Int32) (I : mm_I) (J : mm_J) : Option (Int32 × mm_I × mm_J) :=
  rec55 v0 v1 (s0 - s1) v3 (v4 + 1) I J
def f11_changed_71_b (S : mm_Sh) (n : Nat) (rec55 : Nat → Int32 → Int32 → Int32 → Int32 → mm_I → mm_J → Option (Int32 × mm_I × mm_J)) (rec71 : Nat → Int32 → Int32 → Int32 → Int32 → Int32 → mm_I → mm_J → Option (Int32 × mm_I × mm_J)) (v0 : Nat) (v1 : Int32) (v2 : Int32) (v3 : Int32) (v4 : Int32) (v5 : Int32) (I : mm_I) (J : mm_J) : Option (Int32 × mm_I × mm_J) :=
  if v5 < 0 then (if 0 ≤ v3 then (if mm_inb v3 (mm_al S (mm_rf S v0 43)) = true then (f11_changed_148 S n rec55 v0 v1 v3 v4 v2 (I (mm_rf S v0 43) v3.toNatClampNeg) I J) else none) else (f11_changed_148 S n rec55 v0 v1 v3 v4 v2 0 I J)) else ((f11_byGiving S v0 v4 v2 v5 I J).bind fun o4 => if mm_inb ((256 * v4) + v2) (mm_al S (mm_rf S v0 42)) = true then (if o4 = (I (mm_rf S v0 42) ((256 * v4) + v2).toNatClampNeg) then (if mm_inb ((256 * v4) + v2) (mm_al S (mm_rf S v0 42)) = true then (if 1000000 ≤ (I (mm_rf S v0 42) ((256 * v4) + v2).toNatClampNeg) then (f11_changed_125 S n rec55 rec71 v0 v1 v2 v3 v4 v5 I J) else (f11_changed_126 S n rec55 rec71 v0 v1 v2 v4 v5 v5 I J)) else none) else (f11_changed_125 S n rec55 rec71 v0 v1 v2 v3 v4 v5 I J)) else none)
def f11_changed_71 (S : mm_Sh) (n : Nat) (rec55 : Nat → Int32 → Int32 → Int32 → Int32 → mm_I → mm_J → Option (Int32 × mm_I × mm_J)) : Nat → Nat → Int32 → Int32 → Int32 → Int32 → Int32 → mm_I → mm_J → Option (Int32 × mm_I × mm_J)
  | 0 => fun _ _ _ _ _ _ _ _ => none
  | k + 1 => f11_changed_71_b S n rec55 (f11_changed_71 S n rec55 k)
def f11_changed_55_b (S : mm_Sh) (n : Nat) (rec55 : Nat → Int32 → Int32 → Int32 → Int32 → mm_I → mm_J → Option (Int32 × mm_I × mm_J)) (v0 : Nat) (v1 : Int32) (v2 : Int32) (v3 : Int32) (v4 : Int32) (I : mm_I) (J : mm_J) : Option (Int32 × mm_I × mm_J) :=
  if v1 < v4 then (some (v3, I, J)) else (f11_changed_71 S n rec55 n v0 v1 v2 (-1) v4 ((I v0 0) - 1) I J)
def f11_changed_55 (S : mm_Sh) (n : Nat) : Nat → Nat → Int32 → Int32 → Int32 → Int32 → mm_I → mm_J → Option (Int32 × mm_I × mm_J)
  | 0 => fun _ _ _ _ _ _ _ => none
  | k + 1 => f11_changed_55_b S n (f11_changed_55 S n k)
def f11_changed_17 (S : mm_Sh) (n : Nat) (v0 : Nat) (v1 : Int32) (I : mm_I) (J : mm_J) : Option (Int32 × mm_I × mm_J) :=
  (f11_findLeast S n v0 I J).bind fun o1 => if o1.1 = 0 then (some ((-1), o1.2.1, o1.2.2)) else (if v1 = (-1) then (if mm_inb ((o1.2.1 v0 44) - 1) (mm_al S (mm_rf S v0 42)) = true then (some (o1.2.1 (mm_rf S v0 42) ((o1.2.1 v0 44) - 1).toNatClampNeg, o1.2.1, o1.2.2)) else none) else (f11_changed_55 S n n v0 v1 ((o1.2.1 v0 44) - 1) (-1) 0 o1.2.1 o1.2.2))
def f11_changed (S : mm_Sh) (n : Nat) (v0 : Nat) (v1 : Int32) (I : mm_I) (J : mm_J) : Option (Int32 × mm_I × mm_J) :=
  if v1 = (-1) then (f11_changed_17 S n v0 v1 I J) else ((f11_isPerson S v0 v1 I J).bind fun o2 => if o2 = 0 then (some ((-1000000001), I, J)) else (f11_changed_17 S n v0 v1 I J))
/-! ForgottenCraftsModel.drawYear(I)V -/
def f11_drawYear_77 (S : mm_Sh) (n : Nat) (rec2 : Nat → Int32 → Int32 → mm_I → mm_J → Option (mm_I × mm_J)) (v0 : Nat) (v1 : Int32) (v2 : Int32) (I : mm_I) (J : mm_J) : Option (mm_I × mm_J) :=
  rec2 v0 v1 (v2 + 1) I J
def f11_drawYear_71 (S : mm_Sh) (n : Nat) (rec2 : Nat → Int32 → Int32 → mm_I → mm_J → Option (mm_I × mm_J)) (v0 : Nat) (v1 : Int32) (v2 : Int32) (s0 : Nat) (s1 : Int32) (s2 : Int32) (s3 : Int32) (I : mm_I) (J : mm_J) : Option (mm_I × mm_J) :=
  (f11_changeNow S n s0 s1 s2 s3 (-1) I J).bind fun o1 => f11_drawYear_77 S n rec2 v0 v1 v2 o1.2.1 o1.2.2
def f11_drawYear_179 (S : mm_Sh) (n : Nat) (rec90 : Nat → Int32 → Int32 → mm_I → mm_J → Option (mm_I × mm_J)) (v0 : Nat) (v2 : Int32) (v3 : Int32) (I : mm_I) (J : mm_J) : Option (mm_I × mm_J) :=
  rec90 v0 v2 (v3 + 1) I J
def f11_drawYear_167 (S : mm_Sh) (n : Nat) (rec90 : Nat → Int32 → Int32 → mm_I → mm_J → Option (mm_I × mm_J)) (v0 : Nat) (v2 : Int32) (v3 : Int32) (s0 : Nat) (s1 : Int32) (s2 : Int32) (I : mm_I) (J : mm_J) : Option (mm_I × mm_J) :=
  if mm_inb s1 (mm_al S s0) = true then ((f11_bestOf S n v0 v3 (mm_up I s0 s1.toNatClampNeg s2) J).bind fun o2 => if mm_inb v3 (mm_al S (mm_rf S v0 16)) = true then (f11_drawYear_179 S n rec90 v0 v2 v3 (mm_up (mm_up I s0 s1.toNatClampNeg s2) (mm_rf S v0 16) v3.toNatClampNeg o2) J) else none) else none
def f11_drawYear_90_b (S : mm_Sh) (n : Nat) (rec90 : Nat → Int32 → Int32 → mm_I → mm_J → Option (mm_I × mm_J)) (v0 : Nat) (v2 : Int32) (v3 : Int32) (I : mm_I) (J : mm_J) : Option (mm_I × mm_J) :=
  if (I v0 2) ≤ v3 then (some (I, J)) else ((f11_has S v2 v3 I J).bind fun o2 => if o2 = 0 then (f11_drawYear_179 S n rec90 v0 v2 v3 I J) else ((f11_draw S v0 (I v0 0) I J).bind fun o4 => if mm_inb v3 (mm_al S (mm_rf S v0 13)) = true then (if mm_inb v3 (mm_al S (mm_rf S v0 12)) = true then (if mm_inb v3 (mm_al S (mm_rf S v0 20)) = true then (if mm_inb (4 * o4.1) (mm_al S (mm_rf S v0 1)) = true then (if ((mm_up (mm_up (mm_up o4.2.1 (mm_rf S v0 13) v3.toNatClampNeg 1) (mm_rf S v0 12) v3.toNatClampNeg 0) (mm_rf S v0 20) v3.toNatClampNeg 0) (mm_rf S v0 1) (4 * o4.1).toNatClampNeg) = 3 then (f11_drawYear_167 S n rec90 v0 v2 v3 (mm_rf S v0 14) ((6 * v3) + o4.1) 0 (mm_up (mm_up (mm_up o4.2.1 (mm_rf S v0 13) v3.toNatClampNeg 1) (mm_rf S v0 12) v3.toNatClampNeg 0) (mm_rf S v0 20) v3.toNatClampNeg 0) o4.2.2) else (f11_drawYear_167 S n rec90 v0 v2 v3 (mm_rf S v0 14) ((6 * v3) + o4.1) 50 (mm_up (mm_up (mm_up o4.2.1 (mm_rf S v0 13) v3.toNatClampNeg 1) (mm_rf S v0 12) v3.toNatClampNeg 0) (mm_rf S v0 20) v3.toNatClampNeg 0) o4.2.2)) else none) else none) else none) else none))
def f11_drawYear_90 (S : mm_Sh) (n : Nat) : Nat → Nat → Int32 → Int32 → mm_I → mm_J → Option (mm_I × mm_J)
  | 0 => fun _ _ _ _ _ => none
  | k + 1 => f11_drawYear_90_b S n (f11_drawYear_90 S n k)
def f11_drawYear_2_b (S : mm_Sh) (n : Nat) (rec2 : Nat → Int32 → Int32 → mm_I → mm_J → Option (mm_I × mm_J)) (v0 : Nat) (v1 : Int32) (v2 : Int32) (I : mm_I) (J : mm_J) : Option (mm_I × mm_J) :=
  if (I v0 2) ≤ v2 then ((f11_yearNow S n v0 I J).bind fun o2 => f11_drawYear_90 S n n v0 o2.1 0 o2.2.1 o2.2.2) else (if mm_inb v2 (mm_al S (mm_rf S v0 13)) = true then (if (I (mm_rf S v0 13) v2.toNatClampNeg) = 0 then (f11_drawYear_77 S n rec2 v0 v1 v2 I J) else (if mm_inb v2 (mm_al S (mm_rf S v0 17)) = true then (if 0 ≤ (I (mm_rf S v0 17) v2.toNatClampNeg) then (f11_drawYear_77 S n rec2 v0 v1 v2 I J) else ((f11_draw S v0 100 I J).bind fun o7 => if v1 ≤ o7.1 then (f11_drawYear_77 S n rec2 v0 v1 v2 o7.2.1 o7.2.2) else ((f11_draw S v0 (o7.2.1 v0 0) o7.2.1 o7.2.2).bind fun o9 => (f11_knownMany S n v0 v2 o9.2.1 o9.2.2).bind fun o10 => if (o9.2.1 v0 6) ≤ o10 then ((f11_leastLiked S n v0 v2 o9.2.1 o9.2.2).bind fun o12 => f11_drawYear_71 S n rec2 v0 v1 v2 v0 v2 o9.1 o12 o9.2.1 o9.2.2) else (f11_drawYear_71 S n rec2 v0 v1 v2 v0 v2 o9.1 (-1) o9.2.1 o9.2.2)))) else none)) else none)
def f11_drawYear_2 (S : mm_Sh) (n : Nat) : Nat → Nat → Int32 → Int32 → mm_I → mm_J → Option (mm_I × mm_J)
  | 0 => fun _ _ _ _ _ => none
  | k + 1 => f11_drawYear_2_b S n (f11_drawYear_2 S n k)
def f11_drawYear (S : mm_Sh) (n : Nat) (v0 : Nat) (v1 : Int32) (I : mm_I) (J : mm_J) : Option (mm_I × mm_J) :=
  f11_drawYear_2 S n n v0 v1 0 I J
/-! ForgottenCraftsModel.findRing()I -/
def f11_findRing_95 (S : mm_Sh) (n : Nat) (rec12 : Nat → Int32 → Int32 → Int32 → mm_I → mm_J → Option (Int32 × mm_I × mm_J)) (rec25 : Nat → Int32 → Int32 → Int32 → Int32 → mm_I → mm_J → Option (Int32 × mm_I × mm_J)) (v0 : Nat) (v1 : Int32) (v2 : Int32) (v3 : Int32) (v4 : Int32) (I : mm_I) (J : mm_J) : Option (Int32 × mm_I × mm_J) :=
  rec25 v0 v1 v2 v3 (v4 + 1) I J
def f11_findRing_69_b (S : mm_Sh) (n : Nat) (rec12 : Nat → Int32 → Int32 → Int32 → mm_I → mm_J → Option (Int32 × mm_I × mm_J)) (rec25 : Nat → Int32 → Int32 → Int32 → Int32 → mm_I → mm_J → Option (Int32 × mm_I × mm_J)) (rec69 : Nat → Int32 → Int32 → Int32 → Int32 → Int32 → mm_I → mm_J → Option (Int32 × mm_I × mm_J)) (v0 : Nat) (v1 : Int32) (v2 : Int32) (v3 : Int32) (v4 : Int32) (v6 : Int32) (I : mm_I) (J : mm_J) : Option (Int32 × mm_I × mm_J) :=
  if v3 ≤ v6 then (f11_findRing_95 S n rec12 rec25 v0 v1 v2 v3 v4 I J) else (if mm_inb v6 (mm_al S (mm_rf S v0 45)) = true then (if mm_inb v6 (mm_al S (mm_rf S v0 46)) = true then (rec69 v0 v1 v2 v3 v4 (v6 + 1) (mm_up I (mm_rf S v0 46) v6.toNatClampNeg (I (mm_rf S v0 45) v6.toNatClampNeg)) J) else none) else none)
def f11_findRing_69 (S : mm_Sh) (n : Nat) (rec12 : Nat → Int32 → Int32 → Int32 → mm_I → mm_J → Option (Int32 × mm_I × mm_J)) (rec25 : Nat → Int32 → Int32 → Int32 → Int32 → mm_I → mm_J → Option (Int32 × mm_I × mm_J)) : Nat → Nat → Int32 → Int32 → Int32 → Int32 → Int32 → mm_I → mm_J → Option (Int32 × mm_I × mm_J)
  | 0 => fun _ _ _ _ _ _ _ _ => none
  | k + 1 => f11_findRing_69_b S n rec12 rec25 (f11_findRing_69 S n rec12 rec25 k)
def f11_findRing_50 (S : mm_Sh) (n : Nat) (rec12 : Nat → Int32 → Int32 → Int32 → mm_I → mm_J → Option (Int32 × mm_I × mm_J)) (rec25 : Nat → Int32 → Int32 → Int32 → Int32 → mm_I → mm_J → Option (Int32 × mm_I × mm_J)) (v0 : Nat) (v1 : Int32) (v2 : Int32) (v3 : Int32) (v4 : Int32) (s0 : Int32) (I : mm_I) (J : mm_J) : Option (Int32 × mm_I × mm_J) :=
  if s0 ≤ v1 then (f11_findRing_95 S n rec12 rec25 v0 v1 v2 v3 v4 I J) else (f11_findRing_69 S n rec12 rec25 n v0 s0 v2 v3 v4 0 (mm_up I v0 47 v3) J)
def f11_findRing_25_b (S : mm_Sh) (n : Nat) (rec12 : Nat → Int32 → Int32 → Int32 → mm_I → mm_J → Option (Int32 × mm_I × mm_J)) (rec25 : Nat → Int32 → Int32 → Int32 → Int32 → mm_I → mm_J → Option (Int32 × mm_I × mm_J)) (v0 : Nat) (v1 : Int32) (v2 : Int32) (v3 : Int32) (v4 : Int32) (I : mm_I) (J : mm_J) : Option (Int32 × mm_I × mm_J) :=
  if v2 ≤ v4 then (rec12 v0 v1 v2 (v3 + 1) I J) else ((f11_isRing S n v0 v4 v3 I J).bind fun o2 => if o2.1 = 0 then (f11_findRing_50 S n rec12 rec25 v0 v1 v2 v3 v4 0 o2.2.1 o2.2.2) else ((f11_ringSum S n v0 v3 o2.2.1 o2.2.2).bind fun o4 => f11_findRing_50 S n rec12 rec25 v0 v1 v2 v3 v4 o4 o2.2.1 o2.2.2))
def f11_findRing_25 (S : mm_Sh) (n : Nat) (rec12 : Nat → Int32 → Int32 → Int32 → mm_I → mm_J → Option (Int32 × mm_I × mm_J)) : Nat → Nat → Int32 → Int32 → Int32 → Int32 → mm_I → mm_J → Option (Int32 × mm_I × mm_J)
  | 0 => fun _ _ _ _ _ _ _ => none
  | k + 1 => f11_findRing_25_b S n rec12 (f11_findRing_25 S n rec12 k)
def f11_findRing_12_b (S : mm_Sh) (n : Nat) (rec12 : Nat → Int32 → Int32 → Int32 → mm_I → mm_J → Option (Int32 × mm_I × mm_J)) (v0 : Nat) (v1 : Int32) (v2 : Int32) (v3 : Int32) (I : mm_I) (J : mm_J) : Option (Int32 × mm_I × mm_J) :=
  if 4 < v3 then (some (v1, I, J)) else (f11_findRing_25 S n rec12 n v0 v1 (v2 * 8) v3 0 I J)
def f11_findRing_12 (S : mm_Sh) (n : Nat) : Nat → Nat → Int32 → Int32 → Int32 → mm_I → mm_J → Option (Int32 × mm_I × mm_J)
  | 0 => fun _ _ _ _ _ _ => none
  | k + 1 => f11_findRing_12_b S n (f11_findRing_12 S n k)
def f11_findRing (S : mm_Sh) (n : Nat) (v0 : Nat) (I : mm_I) (J : mm_J) : Option (Int32 × mm_I × mm_J) :=
  f11_findRing_12 S n n v0 0 8 2 (mm_up I v0 47 0) J
/-! ForgottenCraftsModel.laws()I -/
def f11_laws_216 (S : mm_Sh) (n : Nat) (v2 : Int32) (s0 : Nat) (s1 : Int32) (I : mm_I) (J : mm_J) : Option (Int32 × mm_I × mm_J) :=
  if mm_bit s1 = true then (some (v2, mm_up I s0 11 s1, J)) else none
def f11_laws_198 (S : mm_Sh) (n : Nat) (v0 : Nat) (v2 : Int32) (s0 : Nat) (s1 : Int32) (I : mm_I) (J : mm_J) : Option (Int32 × mm_I × mm_J) :=
  if mm_inb 5 (mm_al S (mm_rf S v0 41)) = true then (if ((mm_up I s0 10 s1) (mm_rf S v0 41) (5 : Int32).toNatClampNeg) ≤ 0 then (f11_laws_216 S n v2 v0 0 (mm_up I s0 10 s1) J) else (f11_laws_216 S n v2 v0 1 (mm_up I s0 10 s1) J)) else none
def f11_laws_174 (S : mm_Sh) (n : Nat) (v0 : Nat) (v2 : Int32) (s0 : Nat) (s1 : Int32) (I : mm_I) (J : mm_J) : Option (Int32 × mm_I × mm_J) :=
  if mm_inb 4 (mm_al S (mm_rf S v0 41)) = true then (if 0 ≤ ((mm_up I s0 9 s1) (mm_rf S v0 41) (4 : Int32).toNatClampNeg) then (if mm_inb 4 (mm_al S (mm_rf S v0 41)) = true then (f11_laws_198 S n v0 v2 v0 ((mm_up I s0 9 s1) (mm_rf S v0 41) (4 : Int32).toNatClampNeg) (mm_up I s0 9 s1) J) else none) else (f11_laws_198 S n v0 v2 v0 70 (mm_up I s0 9 s1) J)) else none
def f11_laws_151 (S : mm_Sh) (n : Nat) (v0 : Nat) (v2 : Int32) (s0 : Nat) (s1 : Int32) (I : mm_I) (J : mm_J) : Option (Int32 × mm_I × mm_J) :=
  if mm_inb 3 (mm_al S (mm_rf S v0 41)) = true then (if 0 ≤ ((mm_up I s0 8 s1) (mm_rf S v0 41) (3 : Int32).toNatClampNeg) then (if mm_inb 3 (mm_al S (mm_rf S v0 41)) = true then (f11_laws_174 S n v0 v2 v0 ((mm_up I s0 8 s1) (mm_rf S v0 41) (3 : Int32).toNatClampNeg) (mm_up I s0 8 s1) J) else none) else (f11_laws_174 S n v0 v2 v0 5 (mm_up I s0 8 s1) J)) else none
def f11_laws_127 (S : mm_Sh) (n : Nat) (v0 : Nat) (v2 : Int32) (s0 : Nat) (s1 : Int32) (I : mm_I) (J : mm_J) : Option (Int32 × mm_I × mm_J) :=
  if mm_inb 2 (mm_al S (mm_rf S v0 41)) = true then (if 0 ≤ ((mm_up I s0 7 s1) (mm_rf S v0 41) (2 : Int32).toNatClampNeg) then (if mm_inb 2 (mm_al S (mm_rf S v0 41)) = true then (f11_laws_151 S n v0 v2 v0 ((mm_up I s0 7 s1) (mm_rf S v0 41) (2 : Int32).toNatClampNeg) (mm_up I s0 7 s1) J) else none) else (f11_laws_151 S n v0 v2 v0 25 (mm_up I s0 7 s1) J)) else none
def f11_laws_104 (S : mm_Sh) (n : Nat) (v0 : Nat) (v2 : Int32) (s0 : Nat) (s1 : Int32) (I : mm_I) (J : mm_J) : Option (Int32 × mm_I × mm_J) :=
  if mm_inb 1 (mm_al S (mm_rf S v0 41)) = true then (if 0 ≤ ((mm_up I s0 6 s1) (mm_rf S v0 41) (1 : Int32).toNatClampNeg) then (if mm_inb 1 (mm_al S (mm_rf S v0 41)) = true then (f11_laws_127 S n v0 v2 v0 ((mm_up I s0 6 s1) (mm_rf S v0 41) (1 : Int32).toNatClampNeg) (mm_up I s0 6 s1) J) else none) else (f11_laws_127 S n v0 v2 v0 2 (mm_up I s0 6 s1) J)) else none
def f11_laws_70 (S : mm_Sh) (n : Nat) (v0 : Nat) (v1 : Int32) (v2 : Int32) (I : mm_I) (J : mm_J) : Option (Int32 × mm_I × mm_J) :=
  if v1 ≤ 0 then (if mm_inb 0 (mm_al S (mm_rf S v0 41)) = true then (if 0 ≤ ((mm_up I v0 27 0) (mm_rf S v0 41) (0 : Int32).toNatClampNeg) then (if mm_inb 0 (mm_al S (mm_rf S v0 41)) = true then (f11_laws_104 S n v0 v2 v0 ((mm_up I v0 27 0) (mm_rf S v0 41) (0 : Int32).toNatClampNeg) (mm_up I v0 27 0) J) else none) else (f11_laws_104 S n v0 v2 v0 2 (mm_up I v0 27 0) J)) else none) else (some ((-10) - v1, mm_up I v0 27 0, J))
def f11_laws_48_b (S : mm_Sh) (n : Nat) (rec48 : Nat → Int32 → Int32 → mm_I → mm_J → Option (Int32 × mm_I × mm_J)) (v0 : Nat) (v1 : Int32) (v2 : Int32) (I : mm_I) (J : mm_J) : Option (Int32 × mm_I × mm_J) :=
  if v1 = 0 then ((f11_here S n v0 I J).bind fun o2 => if o2.1 < 0 then (f11_laws_70 S n v0 v1 v2 o2.2.1 o2.2.2) else ((f11_takeLaw S n v0 o2.2.1 o2.2.2).bind fun o4 => rec48 v0 o4.1 (v2 + 1) o4.2.1 o4.2.2)) else (f11_laws_70 S n v0 v1 v2 I J)
def f11_laws_48 (S : mm_Sh) (n : Nat) : Nat → Nat → Int32 → Int32 → mm_I → mm_J → Option (Int32 × mm_I × mm_J)
  | 0 => fun _ _ _ _ _ => none
  | k + 1 => f11_laws_48_b S n (f11_laws_48 S n k)
def f11_laws_25_b (S : mm_Sh) (n : Nat) (rec25 : Nat → Int32 → mm_I → mm_J → Option (Int32 × mm_I × mm_J)) (v0 : Nat) (v1 : Int32) (I : mm_I) (J : mm_J) : Option (Int32 × mm_I × mm_J) :=
  if 6 ≤ v1 then (f11_laws_48 S n n v0 0 0 I J) else (if mm_inb v1 (mm_al S (mm_rf S v0 41)) = true then (rec25 v0 (v1 + 1) (mm_up I (mm_rf S v0 41) v1.toNatClampNeg (-1)) J) else none)
def f11_laws_25 (S : mm_Sh) (n : Nat) : Nat → Nat → Int32 → mm_I → mm_J → Option (Int32 × mm_I × mm_J)
  | 0 => fun _ _ _ _ => none
  | k + 1 => f11_laws_25_b S n (f11_laws_25 S n k)
def f11_laws (S : mm_Sh) (n : Nat) (v0 : Nat) (I : mm_I) (J : mm_J) : Option (Int32 × mm_I × mm_J) :=
  if (I v0 27) ≤ 200 then (f11_laws_25 S n n v0 0 (mm_up (mm_up I v0 28 (-1)) v0 29 0) J) else (some ((-1000000003), I, J))
/-! ForgottenCraftsModel.takeClause()I -/
def f11_takeClause_110 (S : mm_Sh) (n : Nat) (v0 : Nat) (I : mm_I) (J : mm_J) : Option (Int32 × mm_I × mm_J) :=
  (f11_fails S v0 1 (I v0 29) I J).bind fun o1 => some (o1.1, o1.2.1, o1.2.2)
def f11_takeClause_162 (S : mm_Sh) (n : Nat) (v0 : Nat) (I : mm_I) (J : mm_J) : Option (Int32 × mm_I × mm_J) :=
  (f11_fails S v0 3 (I v0 29) I J).bind fun o1 => some (o1.1, o1.2.1, o1.2.2)
def f11_takeClause_220 (S : mm_Sh) (n : Nat) (s0 : Int32) (I : mm_I) (J : mm_J) : Option (Int32 × mm_I × mm_J) :=
  some (s0, I, J)
def f11_takeClause_207 (S : mm_Sh) (n : Nat) (v0 : Nat) (s0 : Int32) (I : mm_I) (J : mm_J) : Option (Int32 × mm_I × mm_J) :=
  if s0 ≤ 0 then ((f11_takeStop S n v0 I J).bind fun o2 => f11_takeClause_220 S n o2.1 o2.2.1 o2.2.2) else (f11_takeClause_220 S n s0 I J)
def f11_takeClause_172 (S : mm_Sh) (n : Nat) (v0 : Nat) (v1 : Int32) (I : mm_I) (J : mm_J) : Option (Int32 × mm_I × mm_J) :=
  if v1 = 0 then ((f11_takeTrade S n v0 (mm_up I v0 29 (I v0 31)) J).bind fun o5 => f11_takeClause_207 S n v0 o5.1 o5.2.1 o5.2.2) else (if v1 = 1 then ((f11_takePerson S n v0 (mm_up I v0 29 (I v0 31)) J).bind fun o4 => f11_takeClause_207 S n v0 o4.1 o4.2.1 o4.2.2) else ((f11_takeLikes S n v0 (mm_up I v0 29 (I v0 31)) J).bind fun o3 => f11_takeClause_207 S n v0 o3.1 o3.2.1 o3.2.2))
def f11_takeClause_120 (S : mm_Sh) (n : Nat) (v0 : Nat) (v1 : Int32) (I : mm_I) (J : mm_J) : Option (Int32 × mm_I × mm_J) :=
  if v1 = 0 then (if (I v0 34) = 6 then (f11_takeClause_162 S n v0 I J) else (f11_takeClause_172 S n v0 v1 I J)) else (if v1 = 1 then (if (I v0 36) = 8 then (f11_takeClause_162 S n v0 I J) else (f11_takeClause_172 S n v0 v1 I J)) else (if (I v0 39) = 40 then (f11_takeClause_162 S n v0 I J) else (f11_takeClause_172 S n v0 v1 I J)))
def f11_takeClause_94 (S : mm_Sh) (n : Nat) (v0 : Nat) (s0 : Int32) (I : mm_I) (J : mm_J) : Option (Int32 × mm_I × mm_J) :=
  if s0 < 0 then (f11_takeClause_110 S n v0 I J) else (if s0 = 0 then (if (I v0 36) ≤ 0 then (f11_takeClause_120 S n v0 s0 I J) else (f11_takeClause_110 S n v0 I J)) else (f11_takeClause_120 S n v0 s0 I J))
def f11_takeClause (S : mm_Sh) (n : Nat) (v0 : Nat) (I : mm_I) (J : mm_J) : Option (Int32 × mm_I × mm_J) :=
  (f11_readWord S n v0 I J).bind fun o1 => (f11_code S 116 114 97 100 o1.1 o1.2).bind fun o2 => (f11_longer S o2 101 o1.1 o1.2).bind fun o3 => if (lg_cmp (o1.2 v0 30) o3) = 0 then (f11_takeClause_94 S n v0 0 o1.1 o1.2) else ((f11_code S 112 101 114 115 o1.1 o1.2).bind fun o5 => (f11_longer S o5 111 o1.1 o1.2).bind fun o6 => (f11_longer S o6 110 o1.1 o1.2).bind fun o7 => if (lg_cmp (o1.2 v0 30) o7) = 0 then (f11_takeClause_94 S n v0 1 o1.1 o1.2) else ((f11_code S 108 105 107 101 o1.1 o1.2).bind fun o9 => (f11_longer S o9 115 o1.1 o1.2).bind fun o10 => if (lg_cmp (o1.2 v0 30) o10) = 0 then (f11_takeClause_94 S n v0 2 o1.1 o1.2) else (f11_takeClause_94 S n v0 (-1) o1.1 o1.2)))
/-! ForgottenCraftsModel.till(I)I -/
def f11_till_47 (S : mm_Sh) (n : Nat) (v0 : Nat) (v2 : Int32) (I : mm_I) (J : mm_J) : Option (Int32 × mm_I × mm_J) :=
  (f11_load S n v0 2 I J).bind fun o1 => some (v2, o1.1, o1.2)
def f11_till_19_b (S : mm_Sh) (n : Nat) (rec19 : Nat → Int32 → Int32 → mm_I → mm_J → Option (Int32 × mm_I × mm_J)) (v0 : Nat) (v1 : Int32) (v2 : Int32) (I : mm_I) (J : mm_J) : Option (Int32 × mm_I × mm_J) :=
  if 200 ≤ v2 then (f11_till_47 S n v0 v2 I J) else ((f11_knowers S n v0 v1 50 I J).bind fun o2 => if o2 = 0 then (f11_till_47 S n v0 v2 I J) else ((f11_yearNow S n v0 I J).bind fun o4 => rec19 v0 v1 (v2 + 1) o4.2.1 o4.2.2))
def f11_till_19 (S : mm_Sh) (n : Nat) : Nat → Nat → Int32 → Int32 → mm_I → mm_J → Option (Int32 × mm_I × mm_J)
  | 0 => fun _ _ _ _ _ => none
  | k + 1 => f11_till_19_b S n (f11_till_19 S n k)
def f11_till (S : mm_Sh) (n : Nat) (v0 : Nat) (v1 : Int32) (I : mm_I) (J : mm_J) : Option (Int32 × mm_I × mm_J) :=
  (f11_isTrade S v0 v1 I J).bind fun o1 => if o1 = 0 then (some ((-1000000001), I, J)) else ((f11_save S n v0 2 I J).bind fun o3 => f11_till_19 S n n v0 v1 0 o3.1 o3.2)
/-! ForgottenCraftsModel.year(I)I -/
def f11_year_17_b (S : mm_Sh) (n : Nat) (rec17 : Nat → Int32 → Int32 → mm_I → mm_J → Option (Int32 × mm_I × mm_J)) (v0 : Nat) (v1 : Int32) (v2 : Int32) (I : mm_I) (J : mm_J) : Option (Int32 × mm_I × mm_J) :=
  if v1 ≤ v2 then ((f11_livesSet S n v0 I J).bind fun o2 => some (o2, I, J)) else ((f11_yearNow S n v0 I J).bind fun o3 => rec17 v0 v1 (v2 + 1) o3.2.1 o3.2.2)
def f11_year_17 (S : mm_Sh) (n : Nat) : Nat → Nat → Int32 → Int32 → mm_I → mm_J → Option (Int32 × mm_I × mm_J)
  | 0 => fun _ _ _ _ _ => none
  | k + 1 => f11_year_17_b S n (f11_year_17 S n k)
def f11_year (S : mm_Sh) (n : Nat) (v0 : Nat) (v1 : Int32) (I : mm_I) (J : mm_J) : Option (Int32 × mm_I × mm_J) :=
  (f11_in S v1.toInt64 1 99 I J).bind fun o1 => if o1 = 0 then (some ((-1000000002), I, J)) else (f11_year_17 S n n v0 v1 0 I J)
/-! ForgottenCrafts$Life.passYearOf(I)V -/
def f2_passYearOf_163 (S : mm_Sh) (n : Nat) (rec64 : Nat → Int32 → Int32 → Int32 → mm_I → mm_J → Option (mm_I × mm_J)) (v0 : Nat) (v1 : Int32) (v2 : Int32) (v4 : Int32) (I : mm_I) (J : mm_J) : Option (mm_I × mm_J) :=
  rec64 v0 v1 v2 (v4 + 1) I J
def f2_passYearOf_146 (S : mm_Sh) (n : Nat) (rec64 : Nat → Int32 → Int32 → Int32 → mm_I → mm_J → Option (mm_I × mm_J)) (v0 : Nat) (v1 : Int32) (v2 : Int32) (v4 : Int32) (v5 : Int32) (v6 : Int32) (I : mm_I) (J : mm_J) : Option (mm_I × mm_J) :=
  if v5 = 0 then (if v6 = 0 then ((f2_leaveAside S n v0 v1 v4 I J).bind fun o3 => f2_passYearOf_163 S n rec64 v0 v1 v2 v4 o3.1 o3.2) else (f2_passYearOf_163 S n rec64 v0 v1 v2 v4 I J)) else (f2_passYearOf_163 S n rec64 v0 v1 v2 v4 I J)
def f2_passYearOf_134 (S : mm_Sh) (n : Nat) (rec64 : Nat → Int32 → Int32 → Int32 → mm_I → mm_J → Option (mm_I × mm_J)) (v0 : Nat) (v1 : Int32) (v2 : Int32) (v4 : Int32) (v5 : Int32) (v6 : Int32) (I : mm_I) (J : mm_J) : Option (mm_I × mm_J) :=
  if v6 = 0 then (f2_passYearOf_146 S n rec64 v0 v1 v2 v4 v5 v6 I J) else ((f2_learnOn S v0 v1 v4 I J).bind fun o2 => f2_passYearOf_146 S n rec64 v0 v1 v2 v4 v5 v6 o2.1 o2.2)
def f2_passYearOf_120 (S : mm_Sh) (n : Nat) (rec64 : Nat → Int32 → Int32 → Int32 → mm_I → mm_J → Option (mm_I × mm_J)) (v0 : Nat) (v1 : Int32) (v2 : Int32) (v4 : Int32) (v5 : Int32) (s0 : Int32) (I : mm_I) (J : mm_J) : Option (mm_I × mm_J) :=
  if v5 = 0 then (f2_passYearOf_134 S n rec64 v0 v1 v2 v4 v5 s0 I J) else ((f2_fade S v0 v1 v4 I J).bind fun o2 => f2_passYearOf_134 S n rec64 v0 v1 v2 v4 v5 s0 o2.1 o2.2)
def f2_passYearOf_97 (S : mm_Sh) (n : Nat) (rec64 : Nat → Int32 → Int32 → Int32 → mm_I → mm_J → Option (mm_I × mm_J)) (v0 : Nat) (v1 : Int32) (v2 : Int32) (v4 : Int32) (s0 : Int32) (I : mm_I) (J : mm_J) : Option (mm_I × mm_J) :=
  (f6_at S (mm_rf S (mm_rf S v0 2) 4) v1 I J).bind fun o1 => if o1 = v4 then (f2_passYearOf_120 S n rec64 v0 v1 v2 v4 s0 1 I J) else (f2_passYearOf_120 S n rec64 v0 v1 v2 v4 s0 0 I J)
def f2_passYearOf_273 (S : mm_Sh) (n : Nat)  (I : mm_I) (J : mm_J) : Option (mm_I × mm_J) :=
  some (I, J)
def f2_passYearOf_64_b (S : mm_Sh) (n : Nat) (rec64 : Nat → Int32 → Int32 → Int32 → mm_I → mm_J → Option (mm_I × mm_J)) (v0 : Nat) (v1 : Int32) (v2 : Int32) (v4 : Int32) (I : mm_I) (J : mm_J) : Option (mm_I × mm_J) :=
  if (I (mm_rf S v0 0) 5) ≤ v4 then ((f6_at S (mm_rf S (mm_rf S v0 2) 0) v1 I J).bind fun o2 => (f6_put S (mm_rf S (mm_rf S v0 2) 0) v1 (o2 + 1) I J).bind fun o3 => (f6_at S (mm_rf S (mm_rf S v0 2) 0) v1 o3.1 o3.2).bind fun o4 => if o4 < (o3.1 (mm_rf S v0 1) 4) then ((f1_knows S (mm_rf S v0 2) v1 v2 o3.1 o3.2).bind fun o6 => if o6 = 0 then ((f1_bestOf S n (mm_rf S v0 2) v1 o3.1 o3.2).bind fun o8 => (f6_put S (mm_rf S (mm_rf S v0 2) 3) v1 o8 o3.1 o3.2).bind fun o9 => f2_passYearOf_273 S n o9.1 o9.2) else (f2_passYearOf_273 S n o3.1 o3.2)) else ((f1_empty S n (mm_rf S v0 2) v1 o3.1 o3.2).bind fun o10 => f2_passYearOf_273 S n (mm_up o10.1 (mm_rf S v0 2) 8 ((o10.1 (mm_rf S v0 2) 8) &&& (((1 : Int32) <<< (v1 &&& 31)) ^^^ (-1)))) o10.2)) else ((f6_at S (mm_rf S (mm_rf S v0 2) 6) v1 I J).bind fun o11 => if o11 = v4 then (f2_passYearOf_97 S n rec64 v0 v1 v2 v4 1 I J) else (f2_passYearOf_97 S n rec64 v0 v1 v2 v4 0 I J))
def f2_passYearOf_64 (S : mm_Sh) (n : Nat) : Nat → Nat → Int32 → Int32 → Int32 → mm_I → mm_J → Option (mm_I × mm_J)
  | 0 => fun _ _ _ _ _ _ => none
  | k + 1 => f2_passYearOf_64_b S n (f2_passYearOf_64 S n k)
def f2_passYearOf (S : mm_Sh) (n : Nat) (v0 : Nat) (v1 : Int32) (I : mm_I) (J : mm_J) : Option (mm_I × mm_J) :=
  (f6_at S (mm_rf S (mm_rf S v0 2) 3) v1 I J).bind fun o1 => (f6_at S (mm_rf S (mm_rf S v0 0) 2) o1 I J).bind fun o2 => (f1_skillOf S (mm_rf S v0 2) v1 o1 I J).bind fun o3 => (f6_at S (mm_rf S (mm_rf S v0 2) 7) v1 I J).bind fun o4 => (f6_put S (mm_rf S (mm_rf S v0 2) 7) v1 (o4 + ((o2 * o3) / 100)) I J).bind fun o5 => f2_passYearOf_64 S n n v0 v1 o1 0 o5.1 o5.2
/-! ForgottenCrafts$Life.tryDrawnChange(I)V -/
def f2_tryDrawnChange_32 (S : mm_Sh) (n : Nat) (v0 : Nat) (v1 : Int32) (v2 : Int32) (s0 : Int32) (I : mm_I) (J : mm_J) : Option (mm_I × mm_J) :=
  (f2_beginChange S n v0 v1 v2 s0 (-1) I J).bind fun o1 => some (o1.2.1, o1.2.2)
def f2_tryDrawnChange (S : mm_Sh) (n : Nat) (v0 : Nat) (v1 : Int32) (I : mm_I) (J : mm_J) : Option (mm_I × mm_J) :=
  (f1_draw S (mm_rf S v0 2) (I (mm_rf S v0 0) 5) I J).bind fun o1 => (f2_hasRoom S n v0 v1 o1.2.1 o1.2.2).bind fun o2 => if o2 = 0 then ((f2_leastLiked S n v0 v1 o1.2.1 o1.2.2).bind fun o4 => f2_tryDrawnChange_32 S n v0 v1 o1.1 o4 o1.2.1 o1.2.2) else (f2_tryDrawnChange_32 S n v0 v1 o1.1 (-1) o1.2.1 o1.2.2)
/-! ForgottenCrafts$Plan.solve()I -/
def f3_solve (S : mm_Sh) (n : Nat) (v0 : Nat) (I : mm_I) (J : mm_J) : Option (Int32 × mm_I × mm_J) :=
  (f6_fill S n (mm_rf S v0 6) (-1) I J).bind fun o1 => (f3_wantedInAll S n v0 o1.1 o1.2).bind fun o2 => (fJ6_bitCount S (o1.1 (mm_rf S v0 1) 8) o1.1 o1.2).bind fun o3 => if o2 ≤ o3 then ((f3_countStates S n v0 o1.1 o1.2).bind fun o5 => (f3_fillCosts S n v0 o5.1 o5.2).bind fun o6 => (f3_fillSums S n v0 o6.1 o6.2).bind fun o7 => (f6_at S (mm_rf S v0 5) ((o7.1 v0 7) - 1) o7.1 o7.2).bind fun o8 => if o8 < 1000000 then ((f3_giveTrades S n v0 o7.1 o7.2).bind fun o10 => some (o8, o10.1, o10.2)) else (some ((-1), o7.1, o7.2))) else (some ((-1), o1.1, o1.2))
/-! ForgottenCrafts$Reader.sees(Ljava/lang/String;)Z -/
def f4_sees_24 (S : mm_Sh) (n : Nat)  (I : mm_I) (J : mm_J) : Option (Int32) :=
  some 0
def f4_sees_28_b (S : mm_Sh) (n : Nat) (rec28 : Nat → Nat → Int32 → mm_I → mm_J → Option (Int32)) (v0 : Nat) (v1 : Nat) (v2 : Int32) (I : mm_I) (J : mm_J) : Option (Int32) :=
  (fJ0_length v1).bind fun o1 => if o1 ≤ v2 then (some 1) else ((f6_at S (mm_rf S v0 0) ((I v0 3) + v2) I J).bind fun o3 => (fJ0_charAt v1 v2).bind fun o4 => if o3 = o4 then (rec28 v0 v1 (v2 + 1) I J) else (some 0))
def f4_sees_28 (S : mm_Sh) (n : Nat) : Nat → Nat → Nat → Int32 → mm_I → mm_J → Option (Int32)
  | 0 => fun _ _ _ _ _ => none
  | k + 1 => f4_sees_28_b S n (f4_sees_28 S n k)
def f4_sees (S : mm_Sh) (n : Nat) (v0 : Nat) (v1 : Nat) (I : mm_I) (J : mm_J) : Option (Int32) :=
  if (I v0 2) = 1 then ((fJ0_length v1).bind fun o2 => if ((I v0 4) - (I v0 3)) = o2 then (f4_sees_28 S n n v0 v1 0 I J) else (f4_sees_24 S n I J)) else (f4_sees_24 S n I J)
/-! ForgottenCrafts$Shelf.countFits(ILForgottenCrafts$Folk;)V -/
def f8_countFits_91 (S : mm_Sh) (n : Nat) (rec50 : Nat → Int32 → Nat → Int32 → mm_I → mm_J → Option (mm_I × mm_J)) (v0 : Nat) (v1 : Int32) (v2 : Nat) (v3 : Int32) (I : mm_I) (J : mm_J) : Option (mm_I × mm_J) :=
  rec50 v0 v1 v2 (v3 + 1) I J
def f8_countFits_50_b (S : mm_Sh) (n : Nat) (rec50 : Nat → Int32 → Nat → Int32 → mm_I → mm_J → Option (mm_I × mm_J)) (v0 : Nat) (v1 : Int32) (v2 : Nat) (v3 : Int32) (I : mm_I) (J : mm_J) : Option (mm_I × mm_J) :=
  if 256 ≤ v3 then (some (I, J)) else (if (v3 &&& ((I v2 8) ^^^ (-1))) = 0 then ((fJ6_bitCount S v3 I J).bind fun o3 => if o3 = v1 then ((f8_countIfFit S n v0 v3 (mm_up I v0 9 ((I v0 9) + 1)) J).bind fun o5 => f8_countFits_91 S n rec50 v0 v1 v2 v3 o5.1 o5.2) else (f8_countFits_91 S n rec50 v0 v1 v2 v3 I J)) else (f8_countFits_91 S n rec50 v0 v1 v2 v3 I J))
def f8_countFits_50 (S : mm_Sh) (n : Nat) : Nat → Nat → Int32 → Nat → Int32 → mm_I → mm_J → Option (mm_I × mm_J)
  | 0 => fun _ _ _ _ _ _ => none
  | k + 1 => f8_countFits_50_b S n (f8_countFits_50 S n k)
def f8_countFits_2_b (S : mm_Sh) (n : Nat) (rec2 : Nat → Int32 → Nat → Int32 → mm_I → mm_J → Option (mm_I × mm_J)) (v0 : Nat) (v1 : Int32) (v2 : Nat) (v3 : Int32) (I : mm_I) (J : mm_J) : Option (mm_I × mm_J) :=
  if (I v0 6) ≤ v3 then (f8_countFits_50 S n n v0 v1 v2 0 (mm_up (mm_up (mm_up I v0 8 0) v0 9 0) v0 10 ((mm_up (mm_up I v0 8 0) v0 9 0) v2 8)) J) else ((f8_makersOf S n v0 v3 v2 I J).bind fun o2 => (f6_put S (mm_rf S v0 2) v3 o2 I J).bind fun o3 => rec2 v0 v1 v2 (v3 + 1) o3.1 o3.2)
def f8_countFits_2 (S : mm_Sh) (n : Nat) : Nat → Nat → Int32 → Nat → Int32 → mm_I → mm_J → Option (mm_I × mm_J)
  | 0 => fun _ _ _ _ _ _ => none
  | k + 1 => f8_countFits_2_b S n (f8_countFits_2 S n k)
def f8_countFits (S : mm_Sh) (n : Nat) (v0 : Nat) (v1 : Int32) (v2 : Nat) (I : mm_I) (J : mm_J) : Option (mm_I × mm_J) :=
  f8_countFits_2 S n n v0 v1 v2 0 I J
/-! ForgottenCrafts$TownTeller.tellPerson()V -/
def f9_tellPerson_91 (S : mm_Sh) (n : Nat) (v0 : Nat) (v1 : Int32) (I : mm_I) (J : mm_J) : Option (mm_I × mm_J) :=
  (f1_bestOf S n (mm_rf S v0 2) v1 (mm_up I (mm_rf S v0 2) 8 ((I (mm_rf S v0 2) 8) ||| ((1 : Int32) <<< (v1 &&& 31)))) J).bind fun o1 => (f6_put S (mm_rf S (mm_rf S v0 2) 3) v1 o1 (mm_up I (mm_rf S v0 2) 8 ((I (mm_rf S v0 2) 8) ||| ((1 : Int32) <<< (v1 &&& 31)))) J).bind fun o2 => some (mm_up o2.1 (mm_rf S v0 1) 6 ((o2.1 (mm_rf S v0 1) 6) + 1), o2.2)
def f9_tellPerson_52_b (S : mm_Sh) (n : Nat) (rec52 : Nat → Int32 → Int32 → mm_I → mm_J → Option (mm_I × mm_J)) (v0 : Nat) (v1 : Int32) (v2 : Int32) (I : mm_I) (J : mm_J) : Option (mm_I × mm_J) :=
  if 500 ≤ v2 then (f9_tellPerson_91 S n v0 v1 I J) else ((f4_isSound S (mm_rf S v0 0) I J).bind fun o2 => if o2 = 0 then (f9_tellPerson_91 S n v0 v1 I J) else (if (I (mm_rf S v0 0) 2) = 2 then ((f9_tellSkill S n v0 v1 I J).bind fun o5 => rec52 v0 v1 (v2 + 1) o5.1 o5.2) else (f9_tellPerson_91 S n v0 v1 I J)))
def f9_tellPerson_52 (S : mm_Sh) (n : Nat) : Nat → Nat → Int32 → Int32 → mm_I → mm_J → Option (mm_I × mm_J)
  | 0 => fun _ _ _ _ _ => none
  | k + 1 => f9_tellPerson_52_b S n (f9_tellPerson_52 S n k)
def f9_tellPerson_18 (S : mm_Sh) (n : Nat) (v0 : Nat) (s0 : Nat) (s1 : Int32) (I : mm_I) (J : mm_J) : Option (mm_I × mm_J) :=
  (f9_openClause S n s0 s1 I J).bind fun o1 => (f4_number S n (mm_rf S v0 0) 0 99 o1.1 o1.2).bind fun o2 => (f6_put S (mm_rf S (mm_rf S v0 2) 0) (o1.1 (mm_rf S v0 1) 6) o2.1 o2.2.1 o2.2.2).bind fun o3 => f9_tellPerson_52 S n n v0 (o1.1 (mm_rf S v0 1) 6) 0 o3.1 o3.2
def f9_tellPerson (S : mm_Sh) (n : Nat) (v0 : Nat) (I : mm_I) (J : mm_J) : Option (mm_I × mm_J) :=
  if 8 ≤ (I (mm_rf S v0 1) 6) then (f9_tellPerson_18 S n v0 v0 0 I J) else (f9_tellPerson_18 S n v0 v0 1 I J)
/-! ForgottenCrafts.changed(I)I -/
def f10_changed_37 (S : mm_Sh) (n : Nat) (v2 : Int32) (I : mm_I) (J : mm_J) : Option (Int32 × mm_I × mm_J) :=
  some (v2, I, J)
def f10_changed_19 (S : mm_Sh) (n : Nat) (v0 : Nat) (v1 : Int32) (I : mm_I) (J : mm_J) : Option (Int32 × mm_I × mm_J) :=
  (f3_solve S n (mm_rf S v0 17) I J).bind fun o1 => if v1 = (-1) then (f10_changed_37 S n o1.1 o1.2.1 o1.2.2) else (if o1.1 = (-1) then (f10_changed_37 S n o1.1 o1.2.1 o1.2.2) else ((f6_at S (mm_rf S (mm_rf S v0 17) 6) v1 o1.2.1 o1.2.2).bind fun o4 => some (o4, o1.2.1, o1.2.2)))
def f10_changed (S : mm_Sh) (n : Nat) (v0 : Nat) (v1 : Int32) (I : mm_I) (J : mm_J) : Option (Int32 × mm_I × mm_J) :=
  if v1 = (-1) then (f10_changed_19 S n v0 v1 I J) else ((f0_hasPerson S (mm_rf S v0 1) v1 I J).bind fun o2 => if o2 = 0 then (some ((-1000000001), I, J)) else (f10_changed_19 S n v0 v1 I J))
/-! ForgottenCrafts.fits(II)I -/
def f10_fits_19 (S : mm_Sh) (n : Nat)  (I : mm_I) (J : mm_J) : Option (Int32 × mm_I × mm_J) :=
  some ((-1000000002), I, J)
def f10_fits_72 (S : mm_Sh) (n : Nat) (s0 : Int32) (I : mm_I) (J : mm_J) : Option (Int32 × mm_I × mm_J) :=
  some (s0, I, J)
def f10_fits_106 (S : mm_Sh) (n : Nat) (s0 : Int32) (I : mm_I) (J : mm_J) : Option (Int32 × mm_I × mm_J) :=
  some (s0, I, J)
def f10_fits (S : mm_Sh) (n : Nat) (v0 : Nat) (v1 : Int32) (v2 : Int32) (I : mm_I) (J : mm_J) : Option (Int32 × mm_I × mm_J) :=
  (f10_within S v1 0 8 I J).bind fun o1 => if o1 = 0 then (f10_fits_19 S n I J) else ((f10_within S v2 0 2 I J).bind fun o3 => if o3 = 0 then (f10_fits_19 S n I J) else ((f8_countFits S n (mm_rf S v0 13) v1 (mm_rf S v0 6) I J).bind fun o5 => if v2 = 0 then (some (o5.1 (mm_rf S v0 13) 8, o5.1, o5.2)) else (if v2 = 1 then (if (o5.1 (mm_rf S v0 13) 8) ≤ 0 then (f10_fits_72 S n (-1) o5.1 o5.2) else (f10_fits_72 S n (o5.1 (mm_rf S v0 13) 10) o5.1 o5.2)) else (if (o5.1 (mm_rf S v0 13) 9) ≤ 0 then (f10_fits_106 S n 0 o5.1 o5.2) else (if (o5.1 (mm_rf S v0 13) 9) = 0 then none else (f10_fits_106 S n ((1000000 * (o5.1 (mm_rf S v0 13) 8)) / (o5.1 (mm_rf S v0 13) 9)) o5.1 o5.2))))))
/-! ForgottenCraftsModel.compared(III)I -/
def f11_compared_20 (S : mm_Sh) (n : Nat)  (I : mm_I) (J : mm_J) : Option (Int32 × mm_I × mm_J) :=
  some ((-1000000002), I, J)
def f11_compared_52_b (S : mm_Sh) (n : Nat) (rec52 : Nat → Int32 → Int32 → Int32 → Int32 → mm_I → mm_J → Option (Int32 × mm_I × mm_J)) (v0 : Nat) (v1 : Int32) (v2 : Int32) (v4 : Int32) (v5 : Int32) (I : mm_I) (J : mm_J) : Option (Int32 × mm_I × mm_J) :=
  if v1 ≤ v5 then ((f11_deadSet S n v0 I J).bind fun o2 => (f11_bits S n o2 I J).bind fun o3 => (f11_load S n v0 2 I J).bind fun o4 => some (o3, mm_up o4.1 v0 6 v4, o4.2)) else ((f11_drawYear S n v0 v2 I J).bind fun o5 => rec52 v0 v1 v2 v4 (v5 + 1) o5.1 o5.2)
def f11_compared_52 (S : mm_Sh) (n : Nat) : Nat → Nat → Int32 → Int32 → Int32 → Int32 → mm_I → mm_J → Option (Int32 × mm_I × mm_J)
  | 0 => fun _ _ _ _ _ _ _ => none
  | k + 1 => f11_compared_52_b S n (f11_compared_52 S n k)
def f11_compared (S : mm_Sh) (n : Nat) (v0 : Nat) (v1 : Int32) (v2 : Int32) (v3 : Int32) (I : mm_I) (J : mm_J) : Option (Int32 × mm_I × mm_J) :=
  (f11_isDrift S v1 v2 I J).bind fun o1 => if o1 = 0 then (f11_compared_20 S n I J) else ((f11_in S v3.toInt64 1 6 I J).bind fun o3 => if o3 = 0 then (f11_compared_20 S n I J) else (if (I v0 0) = 0 then (some ((-1000000003), I, J)) else ((f11_save S n v0 2 I J).bind fun o6 => f11_compared_52 S n n v0 v1 v2 (I v0 6) 0 (mm_up o6.1 v0 6 v3) o6.2)))
/-! ForgottenCraftsModel.drift(II)I -/
def f11_drift_23_b (S : mm_Sh) (n : Nat) (rec23 : Nat → Int32 → Int32 → Int32 → mm_I → mm_J → Option (Int32 × mm_I × mm_J)) (v0 : Nat) (v1 : Int32) (v2 : Int32) (v3 : Int32) (I : mm_I) (J : mm_J) : Option (Int32 × mm_I × mm_J) :=
  if v1 ≤ v3 then ((f11_deadSet S n v0 I J).bind fun o2 => some (o2, I, J)) else ((f11_drawYear S n v0 v2 I J).bind fun o3 => rec23 v0 v1 v2 (v3 + 1) o3.1 o3.2)
def f11_drift_23 (S : mm_Sh) (n : Nat) : Nat → Nat → Int32 → Int32 → Int32 → mm_I → mm_J → Option (Int32 × mm_I × mm_J)
  | 0 => fun _ _ _ _ _ _ => none
  | k + 1 => f11_drift_23_b S n (f11_drift_23 S n k)
def f11_drift (S : mm_Sh) (n : Nat) (v0 : Nat) (v1 : Int32) (v2 : Int32) (I : mm_I) (J : mm_J) : Option (Int32 × mm_I × mm_J) :=
  (f11_isDrift S v1 v2 I J).bind fun o1 => if o1 = 0 then (some ((-1000000002), I, J)) else (if (I v0 0) = 0 then (some ((-1000000003), I, J)) else (f11_drift_23 S n n v0 v1 v2 0 I J))
/-! ForgottenCraftsModel.ring(I)I -/
def f11_ring_62 (S : mm_Sh) (n : Nat) (s0 : Int32) (I : mm_I) (J : mm_J) : Option (Int32 × mm_I × mm_J) :=
  some (s0, I, J)
def f11_ring (S : mm_Sh) (n : Nat) (v0 : Nat) (v1 : Int32) (I : mm_I) (J : mm_J) : Option (Int32 × mm_I × mm_J) :=
  (f11_in S v1.toInt64 0 5 I J).bind fun o1 => if o1 = 0 then (some ((-1000000002), I, J)) else ((f11_findRing S n v0 I J).bind fun o3 => if v1 = 0 then (f11_ring_62 S n o3.1 o3.2.1 o3.2.2) else (if v1 = 1 then (f11_ring_62 S n (o3.2.1 v0 47) o3.2.1 o3.2.2) else (if (o3.2.1 v0 47) ≤ (v1 - 2) then (f11_ring_62 S n (-1) o3.2.1 o3.2.2) else (if mm_inb (v1 - 2) (mm_al S (mm_rf S v0 46)) = true then (f11_ring_62 S n (o3.2.1 (mm_rf S v0 46) (v1 - 2).toNatClampNeg) o3.2.1 o3.2.2) else none))))
/-! ForgottenCraftsModel.town()I -/
def f11_town_175 (S : mm_Sh) (n : Nat) (rec104 : Nat → Int32 → mm_I → mm_J → Option (Int32 × mm_I × mm_J)) (v0 : Nat) (v2 : Int32) (s0 : Nat) (s1 : Int32) (s2 : Int32) (I : mm_I) (J : mm_J) : Option (Int32 × mm_I × mm_J) :=
  if mm_inb s1 (mm_al S s0) = true then (rec104 v0 (v2 + 1) (mm_up I s0 s1.toNatClampNeg s2) J) else none
def f11_town_174 (S : mm_Sh) (n : Nat) (rec104 : Nat → Int32 → mm_I → mm_J → Option (Int32 × mm_I × mm_J)) (v0 : Nat) (v2 : Int32) (s0 : Nat) (s1 : Int32) (I : mm_I) (J : mm_J) : Option (Int32 × mm_I × mm_J) :=
  f11_town_175 S n rec104 v0 v2 s0 s1 0 I J
def f11_town_184_b (S : mm_Sh) (n : Nat) (rec184 : Nat → Int32 → mm_I → mm_J → Option (Int32 × mm_I × mm_J)) (v0 : Nat) (v2 : Int32) (I : mm_I) (J : mm_J) : Option (Int32 × mm_I × mm_J) :=
  if 6 ≤ v2 then (if mm_inb 0 (mm_al S (mm_rf S v0 56)) = true then (if mm_inb 1 (mm_al S (mm_rf S v0 56)) = true then ((f11_begin S n v0 (mm_up (mm_up (mm_up (mm_up (mm_up I v0 48 0) v0 51 0) (mm_rf S v0 56) (0 : Int32).toNatClampNeg 0) (mm_rf S v0 56) (1 : Int32).toNatClampNeg 0) v0 23 0) J).bind fun o4 => some (o4.2.1 v0 2, o4.2.1, o4.2.2)) else none) else none) else (if mm_inb v2 (mm_al S (mm_rf S v0 25)) = true then (rec184 v0 (v2 + 1) (mm_up I (mm_rf S v0 25) v2.toNatClampNeg 0) J) else none)
def f11_town_184 (S : mm_Sh) (n : Nat) : Nat → Nat → Int32 → mm_I → mm_J → Option (Int32 × mm_I × mm_J)
  | 0 => fun _ _ _ _ => none
  | k + 1 => f11_town_184_b S n (f11_town_184 S n k)
def f11_town_104_b (S : mm_Sh) (n : Nat) (rec104 : Nat → Int32 → mm_I → mm_J → Option (Int32 × mm_I × mm_J)) (v0 : Nat) (v2 : Int32) (I : mm_I) (J : mm_J) : Option (Int32 × mm_I × mm_J) :=
  if 48 ≤ v2 then (f11_town_184 S n n v0 0 I J) else (if mm_inb (v2 / 6) (mm_al S (mm_rf S v0 37)) = true then (if mm_inb (v2 / 6) (mm_al S (mm_rf S v0 3)) = true then (if mm_inb v2 (mm_al S (mm_rf S v0 38)) = true then (if mm_inb v2 (mm_al S (mm_rf S v0 4)) = true then (if ((mm_up (mm_up I (mm_rf S v0 3) (v2 / 6).toNatClampNeg (I (mm_rf S v0 37) (v2 / 6).toNatClampNeg)) (mm_rf S v0 4) v2.toNatClampNeg ((mm_up I (mm_rf S v0 3) (v2 / 6).toNatClampNeg (I (mm_rf S v0 37) (v2 / 6).toNatClampNeg)) (mm_rf S v0 38) v2.toNatClampNeg)) v0 2) ≤ (v2 / 6) then (f11_town_174 S n rec104 v0 v2 (mm_rf S v0 5) v2 (mm_up (mm_up I (mm_rf S v0 3) (v2 / 6).toNatClampNeg (I (mm_rf S v0 37) (v2 / 6).toNatClampNeg)) (mm_rf S v0 4) v2.toNatClampNeg ((mm_up I (mm_rf S v0 3) (v2 / 6).toNatClampNeg (I (mm_rf S v0 37) (v2 / 6).toNatClampNeg)) (mm_rf S v0 38) v2.toNatClampNeg)) J) else (if mm_inb v2 (mm_al S (mm_rf S v0 40)) = true then (if ((mm_up (mm_up I (mm_rf S v0 3) (v2 / 6).toNatClampNeg (I (mm_rf S v0 37) (v2 / 6).toNatClampNeg)) (mm_rf S v0 4) v2.toNatClampNeg ((mm_up I (mm_rf S v0 3) (v2 / 6).toNatClampNeg (I (mm_rf S v0 37) (v2 / 6).toNatClampNeg)) (mm_rf S v0 38) v2.toNatClampNeg)) (mm_rf S v0 40) v2.toNatClampNeg) ≤ 0 then (f11_town_174 S n rec104 v0 v2 (mm_rf S v0 5) v2 (mm_up (mm_up I (mm_rf S v0 3) (v2 / 6).toNatClampNeg (I (mm_rf S v0 37) (v2 / 6).toNatClampNeg)) (mm_rf S v0 4) v2.toNatClampNeg ((mm_up I (mm_rf S v0 3) (v2 / 6).toNatClampNeg (I (mm_rf S v0 37) (v2 / 6).toNatClampNeg)) (mm_rf S v0 38) v2.toNatClampNeg)) J) else (if mm_inb v2 (mm_al S (mm_rf S v0 40)) = true then (f11_town_175 S n rec104 v0 v2 (mm_rf S v0 5) v2 ((mm_up (mm_up I (mm_rf S v0 3) (v2 / 6).toNatClampNeg (I (mm_rf S v0 37) (v2 / 6).toNatClampNeg)) (mm_rf S v0 4) v2.toNatClampNeg ((mm_up I (mm_rf S v0 3) (v2 / 6).toNatClampNeg (I (mm_rf S v0 37) (v2 / 6).toNatClampNeg)) (mm_rf S v0 38) v2.toNatClampNeg)) (mm_rf S v0 40) v2.toNatClampNeg) (mm_up (mm_up I (mm_rf S v0 3) (v2 / 6).toNatClampNeg (I (mm_rf S v0 37) (v2 / 6).toNatClampNeg)) (mm_rf S v0 4) v2.toNatClampNeg ((mm_up I (mm_rf S v0 3) (v2 / 6).toNatClampNeg (I (mm_rf S v0 37) (v2 / 6).toNatClampNeg)) (mm_rf S v0 38) v2.toNatClampNeg)) J) else none)) else none)) else none) else none) else none) else none)
def f11_town_104 (S : mm_Sh) (n : Nat) : Nat → Nat → Int32 → mm_I → mm_J → Option (Int32 × mm_I × mm_J)
  | 0 => fun _ _ _ _ => none
  | k + 1 => f11_town_104_b S n (f11_town_104 S n k)
def f11_town_78_b (S : mm_Sh) (n : Nat) (rec78 : Nat → Int32 → mm_I → mm_J → Option (Int32 × mm_I × mm_J)) (v0 : Nat) (v2 : Int32) (I : mm_I) (J : mm_J) : Option (Int32 × mm_I × mm_J) :=
  if 24 ≤ v2 then (f11_town_104 S n n v0 0 I J) else (if mm_inb v2 (mm_al S (mm_rf S v0 35)) = true then (if mm_inb v2 (mm_al S (mm_rf S v0 1)) = true then (rec78 v0 (v2 + 1) (mm_up I (mm_rf S v0 1) v2.toNatClampNeg (I (mm_rf S v0 35) v2.toNatClampNeg)) J) else none) else none)
def f11_town_78 (S : mm_Sh) (n : Nat) : Nat → Nat → Int32 → mm_I → mm_J → Option (Int32 × mm_I × mm_J)
  | 0 => fun _ _ _ _ => none
  | k + 1 => f11_town_78_b S n (f11_town_78 S n k)
def f11_town_46 (S : mm_Sh) (n : Nat) (v0 : Nat) (v1 : Int32) (I : mm_I) (J : mm_J) : Option (Int32 × mm_I × mm_J) :=
  if v1 ≤ 0 then (f11_town_78 S n n v0 0 (mm_up (mm_up (mm_up I v0 27 0) v0 0 ((mm_up I v0 27 0) v0 34)) v0 2 ((mm_up (mm_up I v0 27 0) v0 0 ((mm_up I v0 27 0) v0 34)) v0 36)) J) else (some ((-10) - v1, mm_up I v0 27 0, J))
def f11_town_27_b (S : mm_Sh) (n : Nat) (rec27 : Nat → Int32 → mm_I → mm_J → Option (Int32 × mm_I × mm_J)) (v0 : Nat) (v1 : Int32) (I : mm_I) (J : mm_J) : Option (Int32 × mm_I × mm_J) :=
  if v1 = 0 then ((f11_here S n v0 I J).bind fun o2 => if o2.1 < 0 then (f11_town_46 S n v0 v1 o2.2.1 o2.2.2) else ((f11_takeClause S n v0 o2.2.1 o2.2.2).bind fun o4 => rec27 v0 o4.1 o4.2.1 o4.2.2)) else (f11_town_46 S n v0 v1 I J)
def f11_town_27 (S : mm_Sh) (n : Nat) : Nat → Nat → Int32 → mm_I → mm_J → Option (Int32 × mm_I × mm_J)
  | 0 => fun _ _ _ _ => none
  | k + 1 => f11_town_27_b S n (f11_town_27 S n k)
def f11_town (S : mm_Sh) (n : Nat) (v0 : Nat) (I : mm_I) (J : mm_J) : Option (Int32 × mm_I × mm_J) :=
  f11_town_27 S n n v0 0 (mm_up (mm_up (mm_up (mm_up (mm_up I v0 28 (-1)) v0 29 0) v0 34 0) v0 36 0) v0 39 0) J
/-! ForgottenCrafts$Life.passYear()V -/
def f2_passYear_29 (S : mm_Sh) (n : Nat) (rec2 : Nat → Int32 → mm_I → mm_J → Option (mm_I × mm_J)) (v0 : Nat) (v1 : Int32) (I : mm_I) (J : mm_J) : Option (mm_I × mm_J) :=
  rec2 v0 (v1 + 1) I J
def f2_passYear_2_b (S : mm_Sh) (n : Nat) (rec2 : Nat → Int32 → mm_I → mm_J → Option (mm_I × mm_J)) (v0 : Nat) (v1 : Int32) (I : mm_I) (J : mm_J) : Option (mm_I × mm_J) :=
  if (I (mm_rf S v0 0) 6) ≤ v1 then (some (mm_up (mm_up (mm_up I (mm_rf S v0 2) 11 ((I (mm_rf S v0 2) 11) + 1)) (mm_rf S v0 2) 9 0) (mm_rf S v0 2) 10 0, J)) else ((f1_lives S (mm_rf S v0 2) v1 I J).bind fun o2 => if o2 = 0 then (f2_passYear_29 S n rec2 v0 v1 I J) else ((f2_passYearOf S n v0 v1 I J).bind fun o4 => f2_passYear_29 S n rec2 v0 v1 o4.1 o4.2))
def f2_passYear_2 (S : mm_Sh) (n : Nat) : Nat → Nat → Int32 → mm_I → mm_J → Option (mm_I × mm_J)
  | 0 => fun _ _ _ _ => none
  | k + 1 => f2_passYear_2_b S n (f2_passYear_2 S n k)
def f2_passYear (S : mm_Sh) (n : Nat) (v0 : Nat) (I : mm_I) (J : mm_J) : Option (mm_I × mm_J) :=
  f2_passYear_2 S n n v0 0 I J
/-! ForgottenCrafts$Rules.opens(LForgottenCrafts$Reader;Ljava/lang/String;I)Z -/
def f7_opens_28 (S : mm_Sh) (n : Nat) (v0 : Nat) (v1 : Nat) (v3 : Int32) (I : mm_I) (J : mm_J) : Option (Int32 × mm_I × mm_J) :=
  (f4_advance S n v1 (mm_up I v0 6 ((I v0 6) ||| v3)) J).bind fun o1 => some (1, o1.1, o1.2)
def f7_opens (S : mm_Sh) (n : Nat) (v0 : Nat) (v1 : Nat) (v2 : Nat) (v3 : Int32) (I : mm_I) (J : mm_J) : Option (Int32 × mm_I × mm_J) :=
  (f4_sees S n v1 v2 I J).bind fun o1 => if o1 = 0 then (some (0, I, J)) else (if ((I v0 6) &&& v3) = 0 then (f7_opens_28 S n v0 v1 v3 I J) else ((f4_blame S v1 3 (I v1 3) I J).bind fun o4 => f7_opens_28 S n v0 v1 v3 o4.1 o4.2))
/-! ForgottenCrafts$TownTeller.kindHere()I -/
def f9_kindHere_69 (S : mm_Sh) (n : Nat)  (I : mm_I) (J : mm_J) : Option (Int32 × mm_I × mm_J) :=
  some (3, I, J)
def f9_kindHere (S : mm_Sh) (n : Nat) (v0 : Nat) (I : mm_I) (J : mm_J) : Option (Int32 × mm_I × mm_J) :=
  (f4_sees S n (mm_rf S v0 0) (1000000 + 1) I J).bind fun o1 => if o1 = 0 then ((f4_sees S n (mm_rf S v0 0) (1000000 + 2) I J).bind fun o3 => if o3 = 0 then ((f4_sees S n (mm_rf S v0 0) (1000000 + 3) I J).bind fun o5 => if o5 = 0 then ((f4_sees S n (mm_rf S v0 0) (1000000 + 4) I J).bind fun o7 => if o7 = 0 then ((f4_blame S (mm_rf S v0 0) 1 (I (mm_rf S v0 0) 3) I J).bind fun o9 => f9_kindHere_69 S n o9.1 o9.2) else (f9_kindHere_69 S n I J)) else (some (2, I, J))) else (some (1, I, J))) else (some (0, I, J))
/-! ForgottenCrafts.till(I)I -/
def f10_till_71 (S : mm_Sh) (n : Nat) (v2 : Int32) (I : mm_I) (J : mm_J) : Option (Int32 × mm_I × mm_J) :=
  some (v2, I, J)
def f10_till_38_b (S : mm_Sh) (n : Nat) (rec38 : Nat → Int32 → Int32 → mm_I → mm_J → Option (Int32 × mm_I × mm_J)) (v0 : Nat) (v1 : Int32) (v2 : Int32) (I : mm_I) (J : mm_J) : Option (Int32 × mm_I × mm_J) :=
  if 200 ≤ v2 then (f10_till_71 S n v2 I J) else ((f1_withSkill S n (mm_rf S v0 9) v1 50 I J).bind fun o2 => if o2 = 0 then (f10_till_71 S n v2 I J) else ((f2_passYear S n (mm_rf S v0 16) I J).bind fun o4 => rec38 v0 v1 (v2 + 1) o4.1 o4.2))
def f10_till_38 (S : mm_Sh) (n : Nat) : Nat → Nat → Int32 → Int32 → mm_I → mm_J → Option (Int32 × mm_I × mm_J)
  | 0 => fun _ _ _ _ _ => none
  | k + 1 => f10_till_38_b S n (f10_till_38 S n k)
def f10_till (S : mm_Sh) (n : Nat) (v0 : Nat) (v1 : Int32) (I : mm_I) (J : mm_J) : Option (Int32 × mm_I × mm_J) :=
  (f0_hasTrade S (mm_rf S v0 1) v1 I J).bind fun o1 => if o1 = 0 then (some ((-1000000001), I, J)) else ((f1_copyFrom S n (mm_rf S v0 9) (mm_rf S v0 6) I J).bind fun o3 => (f7_copyFrom S (mm_rf S v0 5) (mm_rf S v0 3) o3.1 o3.2).bind fun o4 => f10_till_38 S n n v0 v1 0 o4.1 o4.2)
/-! ForgottenCrafts.year(I)I -/
def f10_year_15_b (S : mm_Sh) (n : Nat) (rec15 : Nat → Int32 → Int32 → mm_I → mm_J → Option (Int32 × mm_I × mm_J)) (v0 : Nat) (v1 : Int32) (v2 : Int32) (I : mm_I) (J : mm_J) : Option (Int32 × mm_I × mm_J) :=
  if v1 ≤ v2 then (some (I (mm_rf S v0 6) 8, I, J)) else ((f2_passYear S n (mm_rf S v0 15) I J).bind fun o2 => rec15 v0 v1 (v2 + 1) o2.1 o2.2)
def f10_year_15 (S : mm_Sh) (n : Nat) : Nat → Nat → Int32 → Int32 → mm_I → mm_J → Option (Int32 × mm_I × mm_J)
  | 0 => fun _ _ _ _ _ => none
  | k + 1 => f10_year_15_b S n (f10_year_15 S n k)
def f10_year (S : mm_Sh) (n : Nat) (v0 : Nat) (v1 : Int32) (I : mm_I) (J : mm_J) : Option (Int32 × mm_I × mm_J) :=
  (f10_within S v1 1 99 I J).bind fun o1 => if o1 = 0 then (some ((-1000000002), I, J)) else (f10_year_15 S n n v0 v1 0 I J)
/-! ForgottenCrafts$Life.passDrawnYears(II)V -/
def f2_passDrawnYears_69 (S : mm_Sh) (n : Nat) (rec2 : Nat → Int32 → Int32 → Int32 → mm_I → mm_J → Option (mm_I × mm_J)) (rec10 : Nat → Int32 → Int32 → Int32 → Int32 → mm_I → mm_J → Option (mm_I × mm_J)) (v0 : Nat) (v1 : Int32) (v2 : Int32) (v3 : Int32) (v4 : Int32) (I : mm_I) (J : mm_J) : Option (mm_I × mm_J) :=
  rec10 v0 v1 v2 v3 (v4 + 1) I J
def f2_passDrawnYears_10_b (S : mm_Sh) (n : Nat) (rec2 : Nat → Int32 → Int32 → Int32 → mm_I → mm_J → Option (mm_I × mm_J)) (rec10 : Nat → Int32 → Int32 → Int32 → Int32 → mm_I → mm_J → Option (mm_I × mm_J)) (v0 : Nat) (v1 : Int32) (v2 : Int32) (v3 : Int32) (v4 : Int32) (I : mm_I) (J : mm_J) : Option (mm_I × mm_J) :=
  if (I (mm_rf S v0 0) 6) ≤ v4 then ((f2_passYear S n v0 I J).bind fun o2 => (f2_bearChildren S n v0 ((I (mm_rf S v0 2) 8) &&& ((o2.1 (mm_rf S v0 2) 8) ^^^ (-1))) o2.1 o2.2).bind fun o3 => rec2 v0 v1 v2 (v3 + 1) o3.1 o3.2) else ((f1_lives S (mm_rf S v0 2) v4 I J).bind fun o4 => if o4 = 0 then (f2_passDrawnYears_69 S n rec2 rec10 v0 v1 v2 v3 v4 I J) else ((f6_at S (mm_rf S (mm_rf S v0 2) 4) v4 I J).bind fun o6 => if o6 = (-1) then ((f1_draw S (mm_rf S v0 2) 100 I J).bind fun o8 => if v2 ≤ o8.1 then (f2_passDrawnYears_69 S n rec2 rec10 v0 v1 v2 v3 v4 o8.2.1 o8.2.2) else ((f2_tryDrawnChange S n v0 v4 o8.2.1 o8.2.2).bind fun o10 => f2_passDrawnYears_69 S n rec2 rec10 v0 v1 v2 v3 v4 o10.1 o10.2)) else (f2_passDrawnYears_69 S n rec2 rec10 v0 v1 v2 v3 v4 I J)))
def f2_passDrawnYears_10 (S : mm_Sh) (n : Nat) (rec2 : Nat → Int32 → Int32 → Int32 → mm_I → mm_J → Option (mm_I × mm_J)) : Nat → Nat → Int32 → Int32 → Int32 → Int32 → mm_I → mm_J → Option (mm_I × mm_J)
  | 0 => fun _ _ _ _ _ _ _ => none
  | k + 1 => f2_passDrawnYears_10_b S n rec2 (f2_passDrawnYears_10 S n rec2 k)
def f2_passDrawnYears_2_b (S : mm_Sh) (n : Nat) (rec2 : Nat → Int32 → Int32 → Int32 → mm_I → mm_J → Option (mm_I × mm_J)) (v0 : Nat) (v1 : Int32) (v2 : Int32) (v3 : Int32) (I : mm_I) (J : mm_J) : Option (mm_I × mm_J) :=
  if v1 ≤ v3 then (some (I, J)) else (f2_passDrawnYears_10 S n rec2 n v0 v1 v2 v3 0 I J)
def f2_passDrawnYears_2 (S : mm_Sh) (n : Nat) : Nat → Nat → Int32 → Int32 → Int32 → mm_I → mm_J → Option (mm_I × mm_J)
  | 0 => fun _ _ _ _ _ _ => none
  | k + 1 => f2_passDrawnYears_2_b S n (f2_passDrawnYears_2 S n k)
def f2_passDrawnYears (S : mm_Sh) (n : Nat) (v0 : Nat) (v1 : Int32) (v2 : Int32) (I : mm_I) (J : mm_J) : Option (mm_I × mm_J) :=
  f2_passDrawnYears_2 S n n v0 v1 v2 0 I J
/-! ForgottenCrafts$Rules.readClause(LForgottenCrafts$Reader;)V -/
def f7_readClause_155 (S : mm_Sh) (n : Nat) (v1 : Nat) (I : mm_I) (J : mm_J) : Option (mm_I × mm_J) :=
  (f4_closeClause S n v1 I J).bind fun o1 => some (o1.1, o1.2)
def f7_readClause (S : mm_Sh) (n : Nat) (v0 : Nat) (v1 : Nat) (I : mm_I) (J : mm_J) : Option (mm_I × mm_J) :=
  (f7_opens S n v0 v1 (1000000 + 8) 1 I J).bind fun o1 => if o1.1 = 0 then ((f7_opens S n v0 v1 (1000000 + 9) 2 o1.2.1 o1.2.2).bind fun o3 => if o3.1 = 0 then ((f7_opens S n v0 v1 (1000000 + 10) 4 o3.2.1 o3.2.2).bind fun o5 => if o5.1 = 0 then ((f7_opens S n v0 v1 (1000000 + 11) 8 o5.2.1 o5.2.2).bind fun o7 => if o7.1 = 0 then ((f7_opens S n v0 v1 (1000000 + 12) 16 o7.2.1 o7.2.2).bind fun o9 => if o9.1 = 0 then ((f7_opens S n v0 v1 (1000000 + 13) 32 o9.2.1 o9.2.2).bind fun o11 => if o11.1 = 0 then ((f4_blame S v1 1 (o11.2.1 v1 3) o11.2.1 o11.2.2).bind fun o13 => f7_readClause_155 S n v1 o13.1 o13.2) else (f7_readClause_155 S n v1 (mm_up o11.2.1 v0 5 1) o11.2.2)) else ((f4_number S n v1 1 120 o9.2.1 o9.2.2).bind fun o14 => f7_readClause_155 S n v1 (mm_up o14.2.1 v0 4 o14.1) o14.2.2)) else ((f4_number S n v1 0 100 o7.2.1 o7.2.2).bind fun o15 => f7_readClause_155 S n v1 (mm_up o15.2.1 v0 3 o15.1) o15.2.2)) else ((f4_number S n v1 1 100 o5.2.1 o5.2.2).bind fun o16 => f7_readClause_155 S n v1 (mm_up o16.2.1 v0 2 o16.1) o16.2.2)) else ((f4_number S n v1 0 3 o3.2.1 o3.2.2).bind fun o17 => f7_readClause_155 S n v1 (mm_up o17.2.1 v0 1 o17.1) o17.2.2)) else ((f4_number S n v1 1 6 o1.2.1 o1.2.2).bind fun o18 => f7_readClause_155 S n v1 (mm_up o18.2.1 v0 0 o18.1) o18.2.2)
/-! ForgottenCrafts$TownTeller.tellTrade()V -/
def f9_tellTrade_152 (S : mm_Sh) (n : Nat) (v0 : Nat) (I : mm_I) (J : mm_J) : Option (mm_I × mm_J) :=
  some (mm_up I (mm_rf S v0 1) 5 ((I (mm_rf S v0 1) 5) + 1), J)
def f9_tellTrade_18 (S : mm_Sh) (n : Nat) (v0 : Nat) (s0 : Nat) (s1 : Int32) (I : mm_I) (J : mm_J) : Option (mm_I × mm_J) :=
  (f9_openClause S n s0 s1 I J).bind fun o1 => (f9_kindHere S n v0 o1.1 o1.2).bind fun o2 => (f6_put S (mm_rf S (mm_rf S v0 1) 0) (o1.1 (mm_rf S v0 1) 5) o2.1 o2.2.1 o2.2.2).bind fun o3 => (f4_advance S n (mm_rf S v0 0) o3.1 o3.2).bind fun o4 => (f4_number S n (mm_rf S v0 0) 1 9 o4.1 o4.2).bind fun o5 => (f6_put S (mm_rf S (mm_rf S v0 1) 1) (o1.1 (mm_rf S v0 1) 5) o5.1 o5.2.1 o5.2.2).bind fun o6 => (f4_number S n (mm_rf S v0 0) 0 99 o6.1 o6.2).bind fun o7 => (f6_put S (mm_rf S (mm_rf S v0 1) 2) (o1.1 (mm_rf S v0 1) 5) o7.1 o7.2.1 o7.2.2).bind fun o8 => (f6_put S (mm_rf S (mm_rf S v0 1) 3) (o1.1 (mm_rf S v0 1) 5) (-1) o8.1 o8.2).bind fun o9 => (f4_sees S n (mm_rf S v0 0) (1000000 + 5) o9.1 o9.2).bind fun o10 => if o10 = 0 then (f9_tellTrade_152 S n v0 o9.1 o9.2) else ((f4_advance S n (mm_rf S v0 0) o9.1 o9.2).bind fun o12 => (f4_number S n (mm_rf S v0 0) 0 ((o12.1 (mm_rf S v0 1) 5) - 1) o12.1 o12.2).bind fun o13 => (f6_put S (mm_rf S (mm_rf S v0 1) 3) (o1.1 (mm_rf S v0 1) 5) o13.1 o13.2.1 o13.2.2).bind fun o14 => f9_tellTrade_152 S n v0 o14.1 o14.2)
def f9_tellTrade (S : mm_Sh) (n : Nat) (v0 : Nat) (I : mm_I) (J : mm_J) : Option (mm_I × mm_J) :=
  if 6 ≤ (I (mm_rf S v0 1) 5) then (f9_tellTrade_18 S n v0 v0 0 I J) else (f9_tellTrade_18 S n v0 v0 1 I J)
/-! ForgottenCrafts.compared(III)I -/
def f10_compared_30 (S : mm_Sh) (n : Nat)  (I : mm_I) (J : mm_J) : Option (Int32 × mm_I × mm_J) :=
  some ((-1000000002), I, J)
def f10_compared (S : mm_Sh) (n : Nat) (v0 : Nat) (v1 : Int32) (v2 : Int32) (v3 : Int32) (I : mm_I) (J : mm_J) : Option (Int32 × mm_I × mm_J) :=
  (f10_within S v1 1 90 I J).bind fun o1 => if o1 = 0 then (f10_compared_30 S n I J) else ((f10_within S v2 0 100 I J).bind fun o3 => if o3 = 0 then (f10_compared_30 S n I J) else ((f10_within S v3 1 6 I J).bind fun o5 => if o5 = 0 then (f10_compared_30 S n I J) else (if (I (mm_rf S v0 1) 5) = 0 then (some ((-1000000003), I, J)) else ((f1_copyFrom S n (mm_rf S v0 9) (mm_rf S v0 6) I J).bind fun o8 => (f7_copyFrom S (mm_rf S v0 5) (mm_rf S v0 3) o8.1 o8.2).bind fun o9 => (f2_passDrawnYears S n (mm_rf S v0 16) v1 v2 (mm_up o9.1 (mm_rf S v0 5) 0 v3) o9.2).bind fun o10 => (f2_deadTrades S n (mm_rf S v0 16) o10.1 o10.2).bind fun o11 => (fJ6_bitCount S o11 o10.1 o10.2).bind fun o12 => some (o12, o10.1, o10.2)))))
/-! ForgottenCrafts.drift(II)I -/
def f10_drift_20 (S : mm_Sh) (n : Nat)  (I : mm_I) (J : mm_J) : Option (Int32 × mm_I × mm_J) :=
  some ((-1000000002), I, J)
def f10_drift (S : mm_Sh) (n : Nat) (v0 : Nat) (v1 : Int32) (v2 : Int32) (I : mm_I) (J : mm_J) : Option (Int32 × mm_I × mm_J) :=
  (f10_within S v1 1 90 I J).bind fun o1 => if o1 = 0 then (f10_drift_20 S n I J) else ((f10_within S v2 0 100 I J).bind fun o3 => if o3 = 0 then (f10_drift_20 S n I J) else (if (I (mm_rf S v0 1) 5) = 0 then (some ((-1000000003), I, J)) else ((f2_passDrawnYears S n (mm_rf S v0 15) v1 v2 I J).bind fun o6 => (f2_deadTrades S n (mm_rf S v0 15) o6.1 o6.2).bind fun o7 => some (o7, o6.1, o6.2))))
/-! ForgottenCrafts$Rules.readFrom(LForgottenCrafts$Reader;)I -/
def f7_readFrom_38 (S : mm_Sh) (n : Nat) (v0 : Nat) (I : mm_I) (J : mm_J) : Option (Int32 × mm_I × mm_J) :=
  (fJ6_bitCount S (I v0 6) I J).bind fun o1 => some (o1, I, J)
def f7_readFrom_6_b (S : mm_Sh) (n : Nat) (rec6 : Nat → Nat → Int32 → mm_I → mm_J → Option (Int32 × mm_I × mm_J)) (v0 : Nat) (v1 : Nat) (v2 : Int32) (I : mm_I) (J : mm_J) : Option (Int32 × mm_I × mm_J) :=
  if 500 ≤ v2 then (f7_readFrom_38 S n v0 I J) else ((f4_isSound S v1 I J).bind fun o2 => if o2 = 0 then (f7_readFrom_38 S n v0 I J) else (if (I v1 2) = 0 then (f7_readFrom_38 S n v0 I J) else ((f7_readClause S n v0 v1 I J).bind fun o5 => rec6 v0 v1 (v2 + 1) o5.1 o5.2)))
def f7_readFrom_6 (S : mm_Sh) (n : Nat) : Nat → Nat → Nat → Int32 → mm_I → mm_J → Option (Int32 × mm_I × mm_J)
  | 0 => fun _ _ _ _ _ => none
  | k + 1 => f7_readFrom_6_b S n (f7_readFrom_6 S n k)
def f7_readFrom (S : mm_Sh) (n : Nat) (v0 : Nat) (v1 : Nat) (I : mm_I) (J : mm_J) : Option (Int32 × mm_I × mm_J) :=
  (f7_clear S v0 I J).bind fun o1 => f7_readFrom_6 S n n v0 v1 0 o1.1 o1.2
/-! ForgottenCrafts$TownTeller.tellAll()V -/
def f9_tellAll_135 (S : mm_Sh) (n : Nat) (rec26 : Nat → Int32 → mm_I → mm_J → Option (mm_I × mm_J)) (v0 : Nat) (v1 : Int32) (I : mm_I) (J : mm_J) : Option (mm_I × mm_J) :=
  (f4_closeClause S n (mm_rf S v0 0) I J).bind fun o1 => rec26 v0 (v1 + 1) o1.1 o1.2
def f9_tellAll_82 (S : mm_Sh) (n : Nat) (rec26 : Nat → Int32 → mm_I → mm_J → Option (mm_I × mm_J)) (v0 : Nat) (v1 : Int32) (I : mm_I) (J : mm_J) : Option (mm_I × mm_J) :=
  (f4_sees S n (mm_rf S v0 0) (1000000 + 6) I J).bind fun o1 => if o1 = 0 then ((f4_sees S n (mm_rf S v0 0) (1000000 + 7) I J).bind fun o3 => if o3 = 0 then ((f4_blame S (mm_rf S v0 0) 1 (I (mm_rf S v0 0) 3) I J).bind fun o5 => f9_tellAll_135 S n rec26 v0 v1 o5.1 o5.2) else ((f9_tellLike S n v0 I J).bind fun o6 => f9_tellAll_135 S n rec26 v0 v1 o6.1 o6.2)) else ((f9_tellPerson S n v0 I J).bind fun o7 => f9_tellAll_135 S n rec26 v0 v1 o7.1 o7.2)
def f9_tellAll_148 (S : mm_Sh) (n : Nat)  (I : mm_I) (J : mm_J) : Option (mm_I × mm_J) :=
  some (I, J)
def f9_tellAll_26_b (S : mm_Sh) (n : Nat) (rec26 : Nat → Int32 → mm_I → mm_J → Option (mm_I × mm_J)) (v0 : Nat) (v1 : Int32) (I : mm_I) (J : mm_J) : Option (mm_I × mm_J) :=
  if 500 ≤ v1 then (f9_tellAll_148 S n I J) else ((f4_isSound S (mm_rf S v0 0) I J).bind fun o2 => if o2 = 0 then (f9_tellAll_148 S n I J) else (if (I (mm_rf S v0 0) 2) = 0 then (f9_tellAll_148 S n I J) else ((f4_sees S n (mm_rf S v0 0) (1000000 + 0) I J).bind fun o5 => if o5 = 0 then (f9_tellAll_82 S n rec26 v0 v1 I J) else (if (I (mm_rf S v0 1) 6) = 0 then ((f9_tellTrade S n v0 I J).bind fun o8 => f9_tellAll_135 S n rec26 v0 v1 o8.1 o8.2) else (f9_tellAll_82 S n rec26 v0 v1 I J)))))
def f9_tellAll_26 (S : mm_Sh) (n : Nat) : Nat → Nat → Int32 → mm_I → mm_J → Option (mm_I × mm_J)
  | 0 => fun _ _ _ _ => none
  | k + 1 => f9_tellAll_26_b S n (f9_tellAll_26 S n k)
def f9_tellAll (S : mm_Sh) (n : Nat) (v0 : Nat) (I : mm_I) (J : mm_J) : Option (mm_I × mm_J) :=
  (f0_clear S n (mm_rf S v0 1) I J).bind fun o1 => (f1_clear S n (mm_rf S v0 2) o1.1 o1.2).bind fun o2 => f9_tellAll_26 S n n v0 0 (mm_up o2.1 v0 3 0) (mm_upJ o2.2 v0 4 0)
/-! ForgottenCrafts.laws()I -/
def f10_laws (S : mm_Sh) (n : Nat) (v0 : Nat) (I : mm_I) (J : mm_J) : Option (Int32 × mm_I × mm_J) :=
  if (I (mm_rf S v0 0) 1) ≤ 200 then ((f4_open S n (mm_rf S v0 0) I J).bind fun o2 => (f7_readFrom S n (mm_rf S v0 4) (mm_rf S v0 0) o2.1 o2.2).bind fun o3 => (f4_clear S (mm_rf S v0 0) o3.2.1 o3.2.2).bind fun o4 => (f4_isSound S (mm_rf S v0 0) o4.1 o4.2).bind fun o5 => if o5 = 0 then (some ((-10) - (o4.1 (mm_rf S v0 0) 5), o4.1, o4.2)) else ((f7_copyFrom S (mm_rf S v0 3) (mm_rf S v0 4) o4.1 o4.2).bind fun o7 => some (o3.1, o7.1, o7.2))) else (some ((-1000000003), I, J))
/-! ForgottenCrafts.town()I -/
def f10_town (S : mm_Sh) (n : Nat) (v0 : Nat) (I : mm_I) (J : mm_J) : Option (Int32 × mm_I × mm_J) :=
  (f4_open S n (mm_rf S v0 0) I J).bind fun o1 => (f9_tellAll S n (mm_rf S v0 14) o1.1 o1.2).bind fun o2 => (f4_clear S (mm_rf S v0 0) o2.1 o2.2).bind fun o3 => (f4_isSound S (mm_rf S v0 0) o3.1 o3.2).bind fun o4 => if o4 = 0 then (some ((-10) - (o3.1 (mm_rf S v0 0) 5), o3.1, o3.2)) else ((f0_copyFrom S n (mm_rf S v0 1) (mm_rf S v0 2) o3.1 o3.2).bind fun o6 => (f1_copyFrom S n (mm_rf S v0 7) (mm_rf S v0 8) o6.1 o6.2).bind fun o7 => (f10_startAnew S n v0 o7.1 o7.2).bind fun o8 => (f6_fill S n (mm_rf S v0 12) 0 o8.1 o8.2).bind fun o9 => (f8_clear S (mm_rf S v0 13) o9.1 o9.2).bind fun o10 => some ((mm_up o10.1 v0 19 0) (mm_rf S v0 1) 6, mm_up o10.1 v0 19 0, o10.2))
/-! ForgottenCrafts$Rings.search()V -/
def f5_search_23_b (S : mm_Sh) (n : Nat) (rec16 : Nat → Int32 → mm_I → mm_J → Option (mm_I × mm_J)) (rec23 : Nat → Int32 → Int32 → mm_I → mm_J → Option (mm_I × mm_J)) (v0 : Nat) (v1 : Int32) (v2 : Int32) (I : mm_I) (J : mm_J) : Option (mm_I × mm_J) :=
  if (I (mm_rf S (mm_rf S v0 0) 0) 6) ≤ v2 then (rec16 v0 (v1 + 1) I J) else ((f6_put S (mm_rf S v0 3) 0 v2 I J).bind fun o2 => (f5_walkOn 5 S n v0 1 v1 0 o2.1 o2.2).bind fun o3 => rec23 v0 v1 (v2 + 1) o3.1 o3.2)
def f5_search_23 (S : mm_Sh) (n : Nat) (rec16 : Nat → Int32 → mm_I → mm_J → Option (mm_I × mm_J)) : Nat → Nat → Int32 → Int32 → mm_I → mm_J → Option (mm_I × mm_J)
  | 0 => fun _ _ _ _ _ => none
  | k + 1 => f5_search_23_b S n rec16 (f5_search_23 S n rec16 k)
def f5_search_16_b (S : mm_Sh) (n : Nat) (rec16 : Nat → Int32 → mm_I → mm_J → Option (mm_I × mm_J)) (v0 : Nat) (v1 : Int32) (I : mm_I) (J : mm_J) : Option (mm_I × mm_J) :=
  if 4 < v1 then (some (I, J)) else (f5_search_23 S n rec16 n v0 v1 0 I J)
def f5_search_16 (S : mm_Sh) (n : Nat) : Nat → Nat → Int32 → mm_I → mm_J → Option (mm_I × mm_J)
  | 0 => fun _ _ _ _ => none
  | k + 1 => f5_search_16_b S n (f5_search_16 S n k)
def f5_search (S : mm_Sh) (n : Nat) (v0 : Nat) (I : mm_I) (J : mm_J) : Option (mm_I × mm_J) :=
  (f5_fillGains S n v0 (mm_up (mm_up I v0 5 0) v0 6 0) J).bind fun o1 => f5_search_16 S n n v0 2 o1.1 o1.2
/-! ForgottenCrafts.ring(I)I -/
def f10_ring_74 (S : mm_Sh) (n : Nat) (s0 : Int32) (I : mm_I) (J : mm_J) : Option (Int32 × mm_I × mm_J) :=
  some (s0, I, J)
def f10_ring (S : mm_Sh) (n : Nat) (v0 : Nat) (v1 : Int32) (I : mm_I) (J : mm_J) : Option (Int32 × mm_I × mm_J) :=
  (f10_within S v1 0 5 I J).bind fun o1 => if o1 = 0 then (some ((-1000000002), I, J)) else ((f5_search S n (mm_rf S v0 18) I J).bind fun o3 => if v1 = 0 then (some (o3.1 (mm_rf S v0 18) 5, o3.1, o3.2)) else (if v1 = 1 then (some (o3.1 (mm_rf S v0 18) 6, o3.1, o3.2)) else (if (o3.1 (mm_rf S v0 18) 6) ≤ (v1 - 2) then (f10_ring_74 S n (-1) o3.1 o3.2) else ((f6_at S (mm_rf S (mm_rf S v0 18) 4) (v1 - 2) o3.1 o3.2).bind fun o7 => f10_ring_74 S n o7 o3.1 o3.2))))
