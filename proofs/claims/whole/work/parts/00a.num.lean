-- numbers: whole numbers in range, wrap-around, what the machine's arithmetic is in them
/-- in the range of int, of long -/
def Z_I (x : Int) : Prop := -2147483648 ≤ x ∧ x < 2147483648
def Z_L (x : Int) : Prop := -9223372036854775808 ≤ x ∧ x < 9223372036854775808
/-- going round at 32, at 64 bits -/
def z_w (x : Int) : Int := (x + 2147483648) % 4294967296 - 2147483648
def z_l (x : Int) : Int := (x + 9223372036854775808) % 18446744073709551616 - 9223372036854775808
theorem z_w_in (x : Int) : Z_I (z_w x) := by unfold Z_I z_w; omega
theorem z_l_in (x : Int) : Z_L (z_l x) := by unfold Z_L z_l; omega
theorem z_w_id {x : Int} (h : Z_I x) : z_w x = x := by unfold Z_I at h; unfold z_w; omega
theorem z_l_id {x : Int} (h : Z_L x) : z_l x = x := by unfold Z_L at h; unfold z_l; omega
theorem z_IL {x : Int} (h : Z_I x) : Z_L x := by unfold Z_I at h; unfold Z_L; omega
/-- the machine's values -/
abbrev z_i (x : Int) : Value := .int (Int32.ofInt x)
abbrev z_v (x : Int) : Value := .long (Int64.ofInt x)
theorem z_t {x : Int} (h : Z_I x) : (Int32.ofInt x).toInt = x := Int32.toInt_ofInt_of_le (by unfold Z_I at h; omega) (by unfold Z_I at h; omega)
theorem z_tL {x : Int} (h : Z_L x) : (Int64.ofInt x).toInt = x := Int64.toInt_ofInt_of_le (by unfold Z_L at h; omega) (by unfold Z_L at h; omega)
theorem z_tI (x : Int32) : Z_I x.toInt := by
  have h1 := Int32.toInt_lt x
  have h2 := Int32.le_toInt x
  unfold Z_I
  omega
theorem z_tLL (x : Int64) : Z_L x.toInt := by
  have h1 := Int64.toInt_lt x
  have h2 := Int64.le_toInt x
  unfold Z_L
  omega
theorem z_ot (x : Int32) : Int32.ofInt x.toInt = x := Int32.ofInt_toInt x
theorem z_otL (x : Int64) : Int64.ofInt x.toInt = x := Int64.ofInt_toInt x
theorem z_bm (x : Int) : x.bmod 4294967296 = z_w x := by
  unfold z_w
  simp only [Int.bmod]
  split <;> omega
theorem z_bmL (x : Int) : x.bmod 18446744073709551616 = z_l x := by
  unfold z_l
  simp only [Int.bmod]
  split <;> omega
theorem z_ow (x : Int) : Int32.ofInt (z_w x) = Int32.ofInt x := Int32.toInt_inj.mp (by
  rw [z_t (z_w_in x), Int32.toInt_ofInt]
  exact (z_bm x).symm)
theorem z_owL (x : Int) : Int64.ofInt (z_l x) = Int64.ofInt x := Int64.toInt_inj.mp (by
  rw [z_tL (z_l_in x), Int64.toInt_ofInt]
  exact (z_bmL x).symm)
theorem z_add (a b : Int) : Int32.ofInt a + Int32.ofInt b = Int32.ofInt (z_w (a + b)) := by rw [z_ow, Int32.ofInt_add]
theorem z_sub (a b : Int) : Int32.ofInt a - Int32.ofInt b = Int32.ofInt (z_w (a - b)) := by rw [z_ow, Int32.ofInt_sub]
theorem z_mul (a b : Int) : Int32.ofInt a * Int32.ofInt b = Int32.ofInt (z_w (a * b)) := by rw [z_ow, Int32.ofInt_mul]
theorem z_addL (a b : Int) : Int64.ofInt a + Int64.ofInt b = Int64.ofInt (z_l (a + b)) := by rw [z_owL, Int64.ofInt_add]
theorem z_subL (a b : Int) : Int64.ofInt a - Int64.ofInt b = Int64.ofInt (z_l (a - b)) := by rw [z_owL, Int64.ofInt_sub]
theorem z_mulL (a b : Int) : Int64.ofInt a * Int64.ofInt b = Int64.ofInt (z_l (a * b)) := by rw [z_owL, Int64.ofInt_mul]
theorem z_lt {a b : Int} (ha : Z_I a) (hb : Z_I b) : Int32.ofInt a < Int32.ofInt b ↔ a < b := by rw [Int32.lt_iff_toInt_lt, z_t ha, z_t hb]
theorem z_le {a b : Int} (ha : Z_I a) (hb : Z_I b) : Int32.ofInt a ≤ Int32.ofInt b ↔ a ≤ b := by rw [Int32.le_iff_toInt_le, z_t ha, z_t hb]
theorem z_eq {a b : Int} (ha : Z_I a) (hb : Z_I b) : Int32.ofInt a = Int32.ofInt b ↔ a = b := by rw [← Int32.toInt_inj, z_t ha, z_t hb]
theorem z_ltL {a b : Int} (ha : Z_L a) (hb : Z_L b) : Int64.ofInt a < Int64.ofInt b ↔ a < b := by rw [Int64.lt_iff_toInt_lt, z_tL ha, z_tL hb]
theorem z_eqL {a b : Int} (ha : Z_L a) (hb : Z_L b) : Int64.ofInt a = Int64.ofInt b ↔ a = b := by rw [← Int64.toInt_inj, z_tL ha, z_tL hb]
theorem z_0 : Int32.ofInt 0 = 0 := by decide
theorem z_0L : Int64.ofInt 0 = 0 := by decide
theorem Z_I0 : Z_I 0 := by unfold Z_I; omega
theorem z_div {a b : Int} (ha : Z_I a) (hb : Z_I b) : Int32.ofInt a / Int32.ofInt b = Int32.ofInt (z_w (a.tdiv b)) := Int32.toInt_inj.mp (by
  rw [Int32.toInt_div, z_t ha, z_t hb, z_t (z_w_in _)]
  exact z_bm _)
theorem z_divL {a b : Int} (ha : Z_L a) (hb : Z_L b) : Int64.ofInt a / Int64.ofInt b = Int64.ofInt (z_l (a.tdiv b)) := Int64.toInt_inj.mp (by
  rw [Int64.toInt_div, z_tL ha, z_tL hb, z_tL (z_l_in _)]
  exact z_bmL _)
theorem z_remE (x y : Int32) : x - x / y * y = x % y := Int32.toInt_inj.mp (by
  rw [Int32.toInt_sub, Int32.toInt_mul, Int32.toInt_div, Int.bmod_mul_bmod, Int.sub_bmod_bmod, Int.mul_comm (x.toInt.tdiv y.toInt), ← Int.tmod_def, ← Int32.toInt_mod]
  exact (z_bm _).trans (z_w_id (z_tI _)))
theorem z_remEL (x y : Int64) : x - x / y * y = x % y := Int64.toInt_inj.mp (by
  rw [Int64.toInt_sub, Int64.toInt_mul, Int64.toInt_div, Int.bmod_mul_bmod, Int.sub_bmod_bmod, Int.mul_comm (x.toInt.tdiv y.toInt), ← Int.tmod_def, ← Int64.toInt_mod]
  exact (z_bmL _).trans (z_l_id (z_tLL _)))
theorem z_rem {a b : Int} (ha : Z_I a) (hb : Z_I b) : Int32.ofInt a - Int32.ofInt a / Int32.ofInt b * Int32.ofInt b = Int32.ofInt (z_w (a.tmod b)) := by
  rw [z_remE]
  refine Int32.toInt_inj.mp ?_
  rw [Int32.toInt_mod, z_t ha, z_t hb, z_ow, Int32.toInt_ofInt]
  have h := z_tI (Int32.ofInt a % Int32.ofInt b)
  rw [Int32.toInt_mod, z_t ha, z_t hb] at h
  rw [show (a.tmod b).bmod Int32.size = (a.tmod b).bmod 4294967296 from rfl, z_bm, z_w_id h]
theorem z_remL {a b : Int} (ha : Z_L a) (hb : Z_L b) : Int64.ofInt a - Int64.ofInt a / Int64.ofInt b * Int64.ofInt b = Int64.ofInt (z_l (a.tmod b)) := by
  rw [z_remEL]
  refine Int64.toInt_inj.mp ?_
  rw [Int64.toInt_mod, z_tL ha, z_tL hb, z_owL, Int64.toInt_ofInt]
  have h := z_tLL (Int64.ofInt a % Int64.ofInt b)
  rw [Int64.toInt_mod, z_tL ha, z_tL hb] at h
  rw [show (a.tmod b).bmod Int64.size = (a.tmod b).bmod 18446744073709551616 from rfl, z_bmL, z_l_id h]
theorem z_i2l {a : Int} (ha : Z_I a) : (Int32.ofInt a).toInt64 = Int64.ofInt a := Int64.toInt_inj.mp (by rw [Int32.toInt_toInt64, z_t ha, z_tL (z_IL ha)])
theorem z_l2i (a : Int) : (Int64.ofInt a).toInt32 = Int32.ofInt (z_w a) := Int32.toInt_inj.mp (by
  rw [z_t (z_w_in a), Int64.toInt_toInt32, Int64.toInt_ofInt]
  rw [show (a.bmod Int64.size).bmod (2 ^ 32) = z_w (z_l a) from by rw [show Int64.size = 18446744073709551616 from rfl, z_bmL]; exact z_bm _]
  unfold z_w z_l
  omega)
/-- what has no plain form: read off the machine's own numbers -/
def z_and (a b : Int) : Int := (Int32.ofInt a &&& Int32.ofInt b).toInt
def z_or (a b : Int) : Int := (Int32.ofInt a ||| Int32.ofInt b).toInt
def z_xor (a b : Int) : Int := (Int32.ofInt a ^^^ Int32.ofInt b).toInt
def z_shl (a b : Int) : Int := (Int32.ofInt a <<< (Int32.ofInt b &&& 31)).toInt
def z_shr (a b : Int) : Int := (Int32.ofInt a >>> (Int32.ofInt b &&& 31)).toInt
def z_ushr (a b : Int) : Int := ((Int32.ofInt a).toUInt32 >>> ((Int32.ofInt b).toUInt32 &&& Int32.toUInt32 31)).toInt32.toInt
def z_andL (a b : Int) : Int := (Int64.ofInt a &&& Int64.ofInt b).toInt
def z_orL (a b : Int) : Int := (Int64.ofInt a ||| Int64.ofInt b).toInt
def z_shlL (a b : Int) : Int := (Int64.ofInt a <<< ((Int32.ofInt b).toInt64 &&& 63)).toInt
def z_shrL (a b : Int) : Int := (Int64.ofInt a >>> ((Int32.ofInt b).toInt64 &&& 63)).toInt
def z_ushrL (a b : Int) : Int := ((Int64.ofInt a).toUInt64 >>> ((Int32.ofInt b).toInt64.toUInt64 &&& Int64.toUInt64 63)).toInt64.toInt
def z_byte (a : Int) : Int := (Int32.ofInt a).toInt8.toInt32.toInt
/-- which of two longs is more: 1, 0, -1 -/
def z_cmp (a b : Int) : Int := if b < a then 1 else if a = b then 0 else -1
theorem z_cmpE {a b : Int} (ha : Z_L a) (hb : Z_L b) : lg_cmp (Int64.ofInt a) (Int64.ofInt b) = Int32.ofInt (z_cmp a b) := by
  unfold lg_cmp z_cmp
  by_cases h1 : b < a
  · rw [if_pos h1, if_pos (show Int64.ofInt a > Int64.ofInt b from (z_ltL hb ha).mpr h1)]
    decide
  · rw [if_neg h1, if_neg (fun h : Int64.ofInt a > Int64.ofInt b => h1 ((z_ltL hb ha).mp h))]
    by_cases h2 : a = b
    · rw [if_pos h2, if_pos ((z_eqL ha hb).mpr h2)]
      decide
    · rw [if_neg h2, if_neg (fun h => h2 ((z_eqL ha hb).mp h))]
      decide
theorem z_cmp_in (a b : Int) : Z_I (z_cmp a b) := by
  unfold z_cmp Z_I
  split
  · omega
  · split <;> omega
/-- an index in its row -/
theorem z_in {i : Int} {n : Nat} (hi : Z_I i) (h0 : 0 ≤ i) (h1 : i < n) : vp_in (Int32.ofInt i) n := vp_in_iff.mpr (by rw [z_t hi]; exact ⟨h0, h1⟩)
theorem z_cl {i : Int} (hi : Z_I i) : (Int32.ofInt i).toNatClampNeg = i.toNat := by
  show (Int32.ofInt i).toInt.toNat = i.toNat
  rw [z_t hi]
theorem z_lit {x : Int} (h : -2147483648 ≤ x ∧ x < 2147483648) : Z_I x := h
theorem z_litL {x : Int} (h : -9223372036854775808 ≤ x ∧ x < 9223372036854775808) : Z_L x := h
theorem z_and_in (a b : Int) : Z_I (z_and a b) := z_tI _
theorem z_or_in (a b : Int) : Z_I (z_or a b) := z_tI _
theorem z_xor_in (a b : Int) : Z_I (z_xor a b) := z_tI _
theorem z_shl_in (a b : Int) : Z_I (z_shl a b) := z_tI _
theorem z_shr_in (a b : Int) : Z_I (z_shr a b) := z_tI _
theorem z_ushr_in (a b : Int) : Z_I (z_ushr a b) := z_tI _
theorem z_byte_in (a : Int) : Z_I (z_byte a) := z_tI _
theorem z_andL_in (a b : Int) : Z_L (z_andL a b) := z_tLL _
theorem z_orL_in (a b : Int) : Z_L (z_orL a b) := z_tLL _
theorem z_shlL_in (a b : Int) : Z_L (z_shlL a b) := z_tLL _
theorem z_shrL_in (a b : Int) : Z_L (z_shrL a b) := z_tLL _
theorem z_ushrL_in (a b : Int) : Z_L (z_ushrL a b) := z_tLL _
theorem z_max_in {a b : Int} (ha : Z_I a) (hb : Z_I b) : Z_I (max a b) := by unfold Z_I at *; omega
theorem z_min_in {a b : Int} (ha : Z_I a) (hb : Z_I b) : Z_I (min a b) := by unfold Z_I at *; omega
theorem z_zI {a : Int} (h : a = 0 ∨ a = 1) : Z_I a := by unfold Z_I; omega
theorem z_bI {a : Int} (h : -128 ≤ a ∧ a < 128) : Z_I a := by unfold Z_I; omega
theorem z_byte_b (a : Int) : -128 ≤ z_byte a ∧ z_byte a < 128 := by
  unfold z_byte
  rw [Int8.toInt_toInt32]
  have h1 := Int8.toInt_lt (Int32.ofInt a).toInt8
  have h2 := Int8.le_toInt (Int32.ofInt a).toInt8
  omega
theorem z_ite_in {c : Prop} {_ : Decidable c} {a b : Int} (ha : Z_I a) (hb : Z_I b) : Z_I (if c then a else b) := by
  split
  · exact ha
  · exact hb
theorem z_gd {α : Type} {c : Prop} {_ : Decidable c} {x : Option α} {q : α} (h : (if c then x else none) = some q) : c ∧ x = some q := by
  by_cases hc : c
  · rw [if_pos hc] at h
    exact ⟨hc, h⟩
  · rw [if_neg hc] at h
    cases h
theorem z_bd {α β : Type} {x : Option α} {f : α → Option β} {q : β} (h : x.bind f = some q) : ∃ a, x = some a ∧ f a = some q := by
  cases x with
  | none => cases h
  | some a => exact ⟨a, rfl, h⟩
