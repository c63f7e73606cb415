-- bits of words and names (the families b_, wb_, pf_ began as kit/laws/BITS.to-paste)
def bt (x : Int32) (i : Nat) : Bool := x.toBitVec.getLsbD i
theorem b_ext {x y : Int32} (h : ∀ i, i < 32 → bt x i = bt y i) : x = y := Int32.toBitVec_inj.mp (BitVec.eq_of_getLsbD_eq (fun i hi => h i hi))
theorem b_or (x y : Int32) (i : Nat) : bt (x ||| y) i = (bt x i || bt y i) := by unfold bt; rw [Int32.toBitVec_or, BitVec.getLsbD_or]
theorem b_and (x y : Int32) (i : Nat) : bt (x &&& y) i = (bt x i && bt y i) := by unfold bt; rw [Int32.toBitVec_and, BitVec.getLsbD_and]
theorem b_xor (x y : Int32) (i : Nat) : bt (x ^^^ y) i = (bt x i ^^ bt y i) := by unfold bt; rw [Int32.toBitVec_xor, BitVec.getLsbD_xor]
theorem b_big {x : Int32} {i : Nat} (h : 32 ≤ i) : bt x i = false := BitVec.getLsbD_of_ge _ _ h
theorem b_255 (i : Nat) : bt 255 i = decide (i < 8) := by
  rcases Nat.lt_or_ge i 32 with h | h
  · exact (by decide +kernel : ∀ i, i < 32 → bt 255 i = decide (i < 8)) i h
  · rw [b_big h, decide_eq_false (by omega)]
theorem b_65535 (i : Nat) : bt 65535 i = decide (i < 16) := by
  rcases Nat.lt_or_ge i 32 with h | h
  · exact (by decide +kernel : ∀ i, i < 32 → bt 65535 i = decide (i < 16)) i h
  · rw [b_big h, decide_eq_false (by omega)]
theorem b_m1 : ∀ i, i < 32 → bt (-1) i = true := by decide +kernel
theorem b_0 (i : Nat) : bt 0 i = false := BitVec.getLsbD_zero
theorem s_l : ∀ n, n < 32 → ((nI n &&& 31).toBitVec.smod 32).toNat = n := by decide +kernel
theorem s_u : ∀ n, n < 32 → (((nI n).toUInt32 &&& Int32.toUInt32 31).toBitVec % 32).toNat = n := by decide +kernel
theorem b_shl (n : Nat) (hn : n < 32) (x : Int32) {i : Nat} (hi : i < 32) : bt (x <<< (nI n &&& 31)) i = (decide (n ≤ i) && bt x (i - n)) := by
  unfold bt
  rw [Int32.toBitVec_shiftLeft]
  show (x.toBitVec <<< ((nI n &&& 31).toBitVec.smod 32).toNat).getLsbD i = _
  rw [s_l n hn, BitVec.getLsbD_shiftLeft]
  rcases Nat.lt_or_ge i n with h | h
  · simp [h, Nat.not_le.mpr h]
  · simp [hi, h, Nat.not_lt.mpr h]
theorem b_ushr (n : Nat) (hn : n < 32) (x : Int32) (i : Nat) : bt ((x.toUInt32 >>> ((nI n).toUInt32 &&& Int32.toUInt32 31)).toInt32) i = bt x (n + i) := by
  show (x.toUInt32 >>> ((nI n).toUInt32 &&& Int32.toUInt32 31)).toBitVec.getLsbD i = x.toUInt32.toBitVec.getLsbD (n + i)
  rw [UInt32.toBitVec_shiftRight]
  show (x.toUInt32.toBitVec >>> (((nI n).toUInt32 &&& Int32.toUInt32 31).toBitVec % 32).toNat).getLsbD i = _
  rw [s_u n hn, BitVec.getLsbD_ushiftRight]
theorem b_sshr (n : Nat) (hn : n < 32) (x : Int32) {i : Nat} (hi : i < 32) : bt (x >>> (nI n &&& 31)) i = if n + i < 32 then bt x (n + i) else bt x 31 := by
  unfold bt
  rw [Int32.toBitVec_shiftRight]
  show (x.toBitVec.sshiftRight ((nI n &&& 31).toBitVec.smod 32).toNat).getLsbD i = _
  rw [s_l n hn, BitVec.getLsbD_sshiftRight, BitVec.msb_eq_getLsbD_last]
  simp [hi]
theorem wb_tb (n : Nat) : (lN n).toBitVec = BitVec.ofNat 64 n := rfl
theorem wb_inj {a b : Int64} (h : a.toBitVec = b.toBitVec) : a = b := Int64.toBitVec_inj.mp h
theorem wb_tn {n : Nat} (h : n < 2 ^ 64) : (lN n).toBitVec.toNat = n := by rw [wb_tb, BitVec.toNat_ofNat, Nat.mod_eq_of_lt h]
theorem wb_of (x : Int64) : ∃ n, n < 2 ^ 64 ∧ x = lN n := ⟨x.toBitVec.toNat, x.toBitVec.isLt, wb_inj (by rw [wb_tb]; simp)⟩
theorem wb_of32 (x : Int32) : ∃ n, n < 2 ^ 32 ∧ x = nI n := ⟨x.toBitVec.toNat, x.toBitVec.isLt, Int32.toBitVec_inj.mp (by show _ = BitVec.ofNat 32 _; simp)⟩
theorem wb_c : ∀ k, k < 64 → ((nI k).toInt64 &&& 63) = lN k := by decide +kernel
theorem wb_cu : ∀ k, k < 64 → ((nI k).toInt64.toUInt64 &&& Int64.toUInt64 63) = UInt64.ofNat k := by decide +kernel
theorem wb_sm : ∀ k, k < 64 → (BitVec.ofNat 64 k).smod 64 = BitVec.ofNat 64 k := by decide +kernel
theorem wb_pw {a b : Nat} (h : a ≤ b) : 2 ^ b = 2 ^ a * 2 ^ (b - a) := by rw [← Nat.pow_add]; congr 1; omega
theorem wb_lt2 {a b : Nat} (h : a < b) : 2 ^ a < 2 ^ b := Nat.pow_lt_pow_right (by decide) h
theorem wb_mod (n : Nat) : lN n = lN (n % 2 ^ 64) := wb_inj (by rw [wb_tb, wb_tb]; apply BitVec.eq_of_toNat_eq; rw [BitVec.toNat_ofNat, BitVec.toNat_ofNat, Nat.mod_mod])
theorem wb_shr {n k : Nat} (hn : n < 2 ^ 64) (hk : k < 64) : ((lN n).toUInt64 >>> ((nI k).toInt64.toUInt64 &&& Int64.toUInt64 63)).toInt64 = lN (n / 2 ^ k) := by
  rw [wb_cu k hk]
  apply wb_inj
  apply BitVec.eq_of_toNat_eq
  show ((lN n).toUInt64 >>> UInt64.ofNat k).toNat = (BitVec.ofNat 64 _).toNat
  have h1 : (UInt64.ofNat k).toNat = k := by
    show (BitVec.ofNat 64 k).toNat = k
    rw [BitVec.toNat_ofNat, Nat.mod_eq_of_lt (by omega)]
  have h2 : (lN n).toUInt64.toNat = n := wb_tn hn
  rw [UInt64.toNat_shiftRight, h1, h2, Nat.mod_eq_of_lt hk, Nat.shiftRight_eq_div_pow, BitVec.toNat_ofNat, Nat.mod_eq_of_lt (Nat.lt_of_le_of_lt (Nat.div_le_self _ _) hn)]
theorem wb_shl (n : Nat) {k : Nat} (hk : k < 64) : lN n <<< ((nI k).toInt64 &&& 63) = lN (n * 2 ^ k) := by
  rw [wb_c k hk]
  apply wb_inj
  rw [Int64.toBitVec_shiftLeft, wb_tb, wb_tb, wb_tb, wb_sm k hk]
  apply BitVec.eq_of_toNat_eq
  rw [BitVec.shiftLeft_eq', BitVec.toNat_shiftLeft, BitVec.toNat_ofNat, BitVec.toNat_ofNat, BitVec.toNat_ofNat, Nat.mod_eq_of_lt (show k < 2 ^ 64 by omega), Nat.shiftLeft_eq, Nat.mul_mod, Nat.mod_mod, ← Nat.mul_mod]
theorem wb_and {a b : Nat} (ha : a < 2 ^ 64) (hb : b < 2 ^ 64) : lN a &&& lN b = lN (a &&& b) := by
  apply wb_inj
  rw [Int64.toBitVec_and, wb_tb, wb_tb, wb_tb]
  apply BitVec.eq_of_toNat_eq
  rw [BitVec.toNat_and, BitVec.toNat_ofNat, BitVec.toNat_ofNat, BitVec.toNat_ofNat, Nat.mod_eq_of_lt ha, Nat.mod_eq_of_lt hb, Nat.mod_eq_of_lt (Nat.and_lt_two_pow _ hb)]
theorem wb_or {a b : Nat} (ha : a < 2 ^ 64) (hb : b < 2 ^ 64) : lN a ||| lN b = lN (a ||| b) := by
  apply wb_inj
  rw [Int64.toBitVec_or, wb_tb, wb_tb, wb_tb]
  apply BitVec.eq_of_toNat_eq
  rw [BitVec.toNat_or, BitVec.toNat_ofNat, BitVec.toNat_ofNat, BitVec.toNat_ofNat, Nat.mod_eq_of_lt ha, Nat.mod_eq_of_lt hb, Nat.mod_eq_of_lt (Nat.or_lt_two_pow ha hb)]
theorem wb_mask {n k : Nat} (hn : n < 2 ^ 64) (hk : k < 64) : lN n &&& lN (2 ^ k - 1) = lN (n % 2 ^ k) := by
  rw [wb_and hn (by have := wb_lt2 hk; omega), Nat.and_two_pow_sub_one_eq_mod]
theorem pf_lI {a : Nat} (h : a < 2 ^ 63) : (lN a).toInt = (a : Int) := lg_ofNat_toInt h
theorem pf_shr {a d : Nat} {D : Int64} (hD : (D.toBitVec.smod 64).toNat = d) (h : a < 2 ^ 62) : lN a >>> D = lN (a / 2 ^ d) := by
  have hd : a / 2 ^ d ≤ a := Nat.div_le_self _ _
  apply Int64.toInt_inj.mp
  have e : (lN a >>> D).toInt = (lN a).toInt >>> d := by
    rw [← hD]
    exact BitVec.toInt_sshiftRight ..
  rw [e, Int.shiftRight_eq_div_pow, pf_lI (by omega), pf_lI (by omega)]
  rfl
theorem zN {v : Int} (h : 0 ≤ v) : Int64.ofInt v = lN v.toNat := by
  show Int64.ofInt v = Int64.ofNat v.toNat
  rw [← Int64.ofInt_eq_ofNat, Int.toNat_of_nonneg h]
theorem zNi {v : Int} (h : 0 ≤ v) : Int32.ofInt v = nI v.toNat := by
  show Int32.ofInt v = Int32.ofNat v.toNat
  rw [← Int32.ofInt_eq_ofNat, Int.toNat_of_nonneg h]
theorem zNt {n : Nat} (h : n < 2 ^ 63) : (lN n).toInt = (n : Int) := by
  show (Int64.ofNat n).toInt = _
  rw [← Int64.ofInt_eq_ofNat, z_tL (by unfold Z_L; omega)]
theorem zL_shl {v : Int} {k : Nat} (h0 : 0 ≤ v) (hk : k < 64) (h1 : v * 2 ^ k < 9223372036854775808) : z_shlL v (k : Int) = v * 2 ^ k := by
  unfold z_shlL
  have e : (v.toNat : Int) = v := Int.toNat_of_nonneg h0
  have h2 : ((v.toNat * 2 ^ k : Nat) : Int) = v * 2 ^ k := by rw [Int.natCast_mul, e, Int.natCast_pow]; rfl
  rw [zN h0, zNi (by omega), Int.toNat_natCast, wb_shl _ hk, zNt (by omega), h2]
theorem zL_or {x y : Int} {k : Nat} (hk : k < 62) (h0 : 0 ≤ x) (y0 : 0 ≤ y) (y1 : y < 2 ^ k) (h1 : x * 2 ^ k + y < 9223372036854775808) : z_orL (x * 2 ^ k) y = x * 2 ^ k + y := by
  unfold z_orL
  have e : (x.toNat : Int) = x := Int.toNat_of_nonneg h0
  have ey : (y.toNat : Int) = y := Int.toNat_of_nonneg y0
  have hp : 0 ≤ x * 2 ^ k := Int.mul_nonneg h0 (Int.pow_nonneg (by omega))
  have h2 : (x * 2 ^ k).toNat = x.toNat * 2 ^ k := by
    have : ((x.toNat * 2 ^ k : Nat) : Int) = x * 2 ^ k := by rw [Int.natCast_mul, e, Int.natCast_pow]; rfl
    omega
  have hy2 : y.toNat < 2 ^ k := by
    have : ((2 ^ k : Nat) : Int) = 2 ^ k := by rw [Int.natCast_pow]; rfl
    omega
  have h3 := Nat.shiftLeft_add_eq_or_of_lt hy2 x.toNat
  rw [Nat.shiftLeft_eq] at h3
  rw [zN hp, zN y0, wb_or (by omega) (by omega), h2, ← h3, zNt (by omega)]
  rw [Int.natCast_add, Int.natCast_mul, e, ey, Int.natCast_pow]
  rfl
theorem zL_shr {v : Int} {k : Nat} (h0 : 0 ≤ v) (h1 : v < 4611686018427387904) (hk : k < 64) : z_shrL v (k : Int) = v / 2 ^ k := by
  unfold z_shrL
  have e : (v.toNat : Int) = v := Int.toNat_of_nonneg h0
  have hd : v.toNat / 2 ^ k ≤ v.toNat := Nat.div_le_self _ _
  rw [zN h0, zNi (by omega), Int.toNat_natCast, pf_shr (d := k) (by rw [wb_c k hk, wb_tb, wb_sm k hk, BitVec.toNat_ofNat]; omega) (by omega), zNt (by omega), Int.natCast_ediv, e, Int.natCast_pow]
  rfl
theorem zL_ushr {v : Int} {k : Nat} (h0 : 0 ≤ v) (h1 : v < 9223372036854775808) (hk : k < 64) : z_ushrL v (k : Int) = v / 2 ^ k := by
  unfold z_ushrL
  have e : (v.toNat : Int) = v := Int.toNat_of_nonneg h0
  have hd : v.toNat / 2 ^ k ≤ v.toNat := Nat.div_le_self _ _
  rw [zN h0, zNi (by omega), Int.toNat_natCast, wb_shr (by omega) hk, zNt (by omega), Int.natCast_ediv, e, Int.natCast_pow]
  rfl
theorem zL_255 {v : Int} (h0 : 0 ≤ v) (h1 : v < 9223372036854775808) : z_andL v 255 = v % 256 := by
  unfold z_andL
  have e : (v.toNat : Int) = v := Int.toNat_of_nonneg h0
  rw [zN h0, show Int64.ofInt 255 = lN (2 ^ 8 - 1) from by decide, wb_mask (by omega) (by omega), zNt (by omega)]
  omega
theorem zL_lo (x : Int) : z_andL (z_w x) 4294967295 = x % 4294967296 := by
  unfold z_andL
  have h1 : Int64.ofInt (z_w x) = lN ((z_w x) % 18446744073709551616).toNat := by
    apply Int64.toBitVec_inj.mp
    show BitVec.ofInt 64 (z_w x) = BitVec.ofNat 64 _
    apply BitVec.eq_of_toNat_eq
    rw [BitVec.toNat_ofInt, BitVec.toNat_ofNat]
    omega
  rw [h1, show Int64.ofInt 4294967295 = lN (2 ^ 32 - 1) from by decide, wb_mask (by omega) (by omega), zNt (by omega)]
  unfold z_w
  omega
/-- a name laid in two numbers and read again -/
theorem nm_of {v : Int} (h0 : 0 ≤ v) (h1 : v < 4611686018427387904) : z_orL (z_shlL (z_w (z_shrL v 32)) 32) (z_andL (z_w v) 4294967295) = v := by
  have e1 : z_shrL v 32 = v / 2 ^ 32 := zL_shr (k := 32) h0 h1 (by omega)
  have h2 : v / 2 ^ 32 < 1073741824 := by omega
  have h3 : 0 ≤ v / 2 ^ 32 := by omega
  rw [e1, z_w_id (by unfold Z_I; omega), zL_lo]
  have e2 : z_shlL (v / 2 ^ 32) 32 = v / 2 ^ 32 * 2 ^ 32 := zL_shl (k := 32) h3 (by omega) (by omega)
  rw [e2, zL_or (by omega) h3 (by omega) (by omega) (by omega)]
  omega
/-- one letter more -/
theorem wd_of {v b : Int} (h0 : 0 ≤ v) (h1 : v < 281474976710656) (b0 : 0 ≤ b) (b1 : b < 256) : z_orL (z_shlL v 8) b = v * 256 + b := by
  have e2 : z_shlL v 8 = v * 2 ^ 8 := zL_shl (k := 8) h0 (by omega) (by omega)
  rw [e2, zL_or (k := 8) (by omega) h0 b0 (by omega) (by omega)]
  omega
/-- a byte of a number: shifted with its sign or without -/
theorem by_eq {v k : Int} (hk : k = 0 ∨ k = 8 ∨ k = 16 ∨ k = 24) : z_and (z_ushr v k) 255 = z_and (z_shr v k) 255 := by
  unfold z_and z_ushr z_shr
  rw [z_ot, z_ot]
  congr 1
  rw [zNi (v := k) (by omega), show Int32.ofInt 255 = 255 from by decide]
  apply b_ext
  intro i hi
  rw [b_and, b_and, b_255, b_ushr _ (by omega), b_sshr _ (by omega) _ hi]
  by_cases c : i < 8
  · rw [if_pos (by omega)]
  · rw [decide_eq_false c]
    simp
theorem by_in (x : Int) : 0 ≤ z_and x 255 ∧ z_and x 255 < 256 := by
  unfold z_and
  rw [show Int32.ofInt 255 = nI (2 ^ 8 - 1) from by decide]
  obtain ⟨n, hn, e⟩ := wb_of32 (Int32.ofInt x)
  rw [e]
  have h1 : nI n &&& nI (2 ^ 8 - 1) = nI (n % 2 ^ 8) := by
    apply Int32.toBitVec_inj.mp
    rw [Int32.toBitVec_and]
    show BitVec.ofNat 32 n &&& BitVec.ofNat 32 (2 ^ 8 - 1) = BitVec.ofNat 32 _
    apply BitVec.eq_of_toNat_eq
    rw [BitVec.toNat_and, BitVec.toNat_ofNat, BitVec.toNat_ofNat, BitVec.toNat_ofNat, Nat.mod_eq_of_lt hn, Nat.mod_eq_of_lt (show 2 ^ 8 - 1 < 2 ^ 32 by omega), Nat.and_two_pow_sub_one_eq_mod]
    omega
  have h2 : (nI (n % 2 ^ 8)).toInt = ((n % 2 ^ 8 : Nat) : Int) := by
    show (Int32.ofNat _).toInt = _
    rw [← Int32.ofInt_eq_ofNat, z_t (by unfold Z_I; omega)]
  rw [h1, h2]
  omega
theorem by_byte : ∀ x : Fin 256, z_and (z_byte (x.val : Int)) 255 = (x.val : Int) := by decide +kernel
theorem by_b {x : Int} (h0 : 0 ≤ x) (h1 : x < 256) : z_and (z_byte x) 255 = x := by
  have := by_byte ⟨x.toNat, by omega⟩
  dsimp only at this
  rw [Int.toNat_of_nonneg h0] at this
  exact this
