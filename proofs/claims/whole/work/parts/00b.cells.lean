-- memory as numbers in rows: what the pictures speak of
/-- memory with one number changed -/
def u2 (σ : Nat → Nat → Int) (a i : Nat) (v : Int) : Nat → Nat → Int := fun c j => if c = a ∧ j = i then v else σ c j
theorem u2_s {σ : Nat → Nat → Int} {a i : Nat} {v : Int} : u2 σ a i v a i = v := by simp [u2]
theorem u2_n {σ : Nat → Nat → Int} {a i c j : Nat} {v : Int} (h : c ≠ a ∨ j ≠ i) : u2 σ a i v c j = σ c j := by
  unfold u2
  rw [if_neg]
  rintro ⟨h1, h2⟩
  rcases h with h | h
  · exact h h1
  · exact h h2
theorem u2_ne {σ : Nat → Nat → Int} {a i c : Nat} {v : Int} (h : c ≠ a) : u2 σ a i v c = σ c := funext fun _ => u2_n (Or.inl h)
/-- n numbers of the row a0 from sp on, laid into the row a from dp on -/
def z_cpy (σ : Nat → Nat → Int) (a0 a sp dp n : Nat) : Nat → Nat → Int := fun c j => if c = a ∧ dp ≤ j ∧ j < dp + n then σ a0 (sp + (j - dp)) else σ c j
theorem z_cpy_ne {σ : Nat → Nat → Int} {a0 a sp dp n c : Nat} (h : c ≠ a) : z_cpy σ a0 a sp dp n c = σ c := funext fun j => if_neg fun q => h q.1
def ax_iX1 : List Nat := [4, 23]
def ax_iX7 : List Nat := [173, 186, 199, 222, 235, 248, 261, 274, 287, 300, 313, 326, 339, 352, 365, 378, 391, 404, 417, 430, 443, 456, 469, 482, 495, 508, 521, 534, 547, 560, 573, 586, 599, 612, 625, 638, 651, 664, 677, 690, 703, 716, 729]
def ax_iX6 : List Nat := [43, 69, 95, 121, 147]
def ax_iX8 : List Nat := [45, 47, 49, 51, 53, 55, 57, 59, 61, 63, 65, 67, 71, 73, 75, 77, 79, 81, 83, 85, 87, 89, 91, 93, 97, 99, 101, 103, 105, 107, 109, 111, 113, 115, 117, 119, 123, 125, 127, 129, 131, 133, 135, 137, 139, 141, 143, 145, 149, 151, 153, 155, 157, 159, 161, 163, 165, 167, 169, 171, 755]
def ax_iX4 : List Nat := [212, 216]
/-- Math.floorMod -/
def z_fmod (x y : Int) : Int := if 0 ≤ z_xor x y then z_w (Int.tmod x y) else if z_w (Int.tmod x y) = 0 then z_w (Int.tmod x y) else z_w (z_w (Int.tmod x y) + y)
def z_cpyS (σ : Nat → Nat → Int) (r : List Int) (a sp dp n : Nat) : Nat → Nat → Int := fun c j => if c = a ∧ dp ≤ j ∧ j < dp + n then r.getD (sp + (j - dp)) 0 else σ c j
def z_words : List Int := [27985274398336370, 482905517684, 1952543595, 120265298635118, 1752132708, 495739823472, 422776370036, 465625246068, 1668247404, 1953063787, 1836021349, 6386539, 1685221232, 1937010544, 495873782388, 126879582678117]
/-- the number of the word v among the last r of the sixteen; none: -1 -/
def z_wno (v : Int) : Nat → Int
  | 0 => -1
  | r + 1 => if z_words.getD (15 - r) 0 = v then ((15 - r : Nat) : Int) else z_wno v r
theorem z_wno_in (v : Int) : ∀ r, Z_I (z_wno v r)
  | 0 => by unfold z_wno Z_I; omega
  | r + 1 => by
    unfold z_wno
    split
    · unfold Z_I; omega
    · exact z_wno_in v r
theorem z_cmp_0 {a b : Int} : z_cmp a b = 0 ↔ a = b := by
  unfold z_cmp
  by_cases h : b < a
  · rw [if_pos h]; omega
  · rw [if_neg h]
    by_cases h2 : a = b
    · rw [if_pos h2]; omega
    · rw [if_neg h2]; omega
def f_X10_wordNumber (v : Int) (_ : Nat → Nat → Int) : Option Int := some (z_wno v 16)
def f_X12_known (v : Int) (_ : Nat → Nat → Int) : Option Int := some (z_wno v 16)
