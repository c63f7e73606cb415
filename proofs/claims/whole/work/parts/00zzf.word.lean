-- words: letters packed, told again alike
/-- x is n letters packed -/
def PK : Nat → Int → Prop
  | 0, x => x = 0
  | n + 1, x => ∃ y b, PK n y ∧ 97 ≤ b ∧ b ≤ 122 ∧ x = y * 256 + b
def sh8 (x : Int) (j : Nat) : Int := x / 2 ^ (8 * j)
theorem PK.in : ∀ {n : Nat} {x : Int}, PK n x → 0 ≤ x ∧ x < 256 ^ n ∧ (1 ≤ n → 97 ≤ x) := by
  intro n
  induction n with
  | zero => intro x h; have e : x = 0 := h; subst e; exact ⟨by omega, by decide, by omega⟩
  | succ n ih =>
    intro x h
    obtain ⟨y, b, h1, h2, h3, h4⟩ := h
    obtain ⟨g1, g2, g3⟩ := ih h1
    rw [Int.pow_succ]
    generalize (256 : Int) ^ n = P at *
    omega
theorem PK.lt {n : Nat} {x : Int} (h : PK n x) (hn : n ≤ 7) : 0 ≤ x ∧ x < 72057594037927936 ∧ (n ≤ 6 → x < 281474976710656) := by
  obtain ⟨h1, h2, h3⟩ := h.in
  have k : n = 0 ∨ n = 1 ∨ n = 2 ∨ n = 3 ∨ n = 4 ∨ n = 5 ∨ n = 6 ∨ n = 7 := by omega
  rcases k with rfl | rfl | rfl | rfl | rfl | rfl | rfl | rfl <;> omega
theorem sh8_0 {x : Int} : sh8 x 0 = x := by
  unfold sh8
  rw [Nat.mul_zero, Int.pow_zero, Int.ediv_one]
theorem sh8_s {x : Int} {j : Nat} : sh8 x (j + 1) = sh8 x j / 256 := by
  unfold sh8
  rw [Int.ediv_ediv_of_nonneg (Int.pow_nonneg (by omega)), show 8 * (j + 1) = 8 * j + 8 from by omega, Int.pow_add]
  rfl
theorem PK.sh : ∀ {j n : Nat} {x : Int}, PK n x → j ≤ n → PK (n - j) (sh8 x j) := by
  intro j
  induction j with
  | zero => intro n x h _; rw [sh8_0]; exact h
  | succ j ih =>
    intro n x h hj
    have h1 := ih h (show j ≤ n by omega)
    rw [show n - j = (n - (j + 1)) + 1 from by omega] at h1
    obtain ⟨y, b, a1, a2, a3, a4⟩ := h1
    rw [sh8_s, a4, show (y * 256 + b) / 256 = y from by omega]
    exact a1
theorem PK.byte {j n : Nat} {x : Int} (h : PK n x) (hj : j < n) : 97 ≤ sh8 x j % 256 ∧ sh8 x j % 256 ≤ 122 := by
  have h1 := h.sh (show j ≤ n by omega)
  rw [show n - j = (n - (j + 1)) + 1 from by omega] at h1
  obtain ⟨y, b, a1, a2, a3, a4⟩ := h1
  rw [a4]
  omega
theorem PK.done {j n : Nat} {x : Int} (h : PK n x) (hj : n ≤ j) : sh8 x j = 0 := by
  induction j with
  | zero => rw [sh8_0]; have e : n = 0 := by omega
            subst e
            exact h
  | succ j ih =>
    rw [sh8_s]
    by_cases c : n ≤ j
    · rw [ih c]
      rfl
    · have e : n = j + 1 := by omega
      subst e
      have h1 := h.sh (show j ≤ j + 1 by omega)
      rw [show j + 1 - j = 0 + 1 from by omega] at h1
      obtain ⟨y, b, a1, a2, a3, a4⟩ := h1
      have a0 : y = 0 := a1
      rw [a4, a0]
      omega
theorem PK.pos {j n : Nat} {x : Int} (h : PK n x) (hj : j < n) : sh8 x j ≠ 0 := fun e => by
  have := h.byte hj
  rw [e] at this
  omega
/-- the letters of a packed word, told by both -/
theorem PK.nb {n : Nat} {x : Int} (h : PK n x) (hn : n ≤ 7) : NB x := by
  obtain ⟨x0, x1, x2⟩ := h.lt hn
  intro i
  refine ⟨if 0 ≤ i ∧ i < n then sh8 x (n - 1 - i.toNat) % 256 else -1, fun σ => ⟨?_, ?_⟩⟩
  · have st : ∀ (j k c : Nat), j ≤ 7 → c = (if j ≤ n then j else n) → f_X11_letterOf_5 (k + 1) x i (c : Int) ((8 * j : Nat) : Int) σ = if j = 7 then some (if 0 ≤ i ∧ i < n then sh8 x (n - 1 - i.toNat) % 256 else -1) else f_X11_letterOf_5 k x i ((if j + 1 ≤ n then j + 1 else n : Nat) : Int) ((8 * (j + 1) : Nat) : Int) σ := fun j k c hj hc => by
      rw [f_X11_letterOf_5]
      by_cases e : j = 7
      · rw [if_pos (by omega), if_pos e]
        have ec : c = n := by
          rw [hc]
          split <;> omega
        rw [ec]
        by_cases e2 : i < 0
        · rw [if_pos e2, if_neg (by omega)]
        · rw [if_neg e2]
          by_cases e3 : i < n
          · rw [if_pos e3, if_pos (by omega), zid (x := (n : Int) - 1) (by omega) (by omega), zid (x := (n : Int) - 1 - i) (by omega) (by omega), zid (x := 8 * ((n : Int) - 1 - i)) (by omega) (by omega), show 8 * ((n : Int) - 1 - i) = ((8 * (n - 1 - i.toNat) : Nat) : Int) from by omega, zL_ushr x0 (by omega) (by omega)]
            show some (z_w (z_andL (sh8 x (n - 1 - i.toNat)) 255)) = _
            have hs := h.sh (show n - 1 - i.toNat ≤ n by omega)
            obtain ⟨s0, s1, s2⟩ := hs.lt (by omega)
            rw [zL_255 s0 (by omega), zid (by omega) (by omega)]
          · rw [if_neg e3, if_neg (by omega)]
      · rw [if_neg (by omega), if_neg e, zL_ushr x0 (by omega) (by omega), zid (x := ((8 * j : Nat) : Int) + 8) (by omega) (by omega), show ((8 * j : Nat) : Int) + 8 = ((8 * (j + 1) : Nat) : Int) from by omega]
        show f_X11_letterOf_5 k x i (if z_cmp (z_andL (sh8 x j) 255) 0 = 0 then (c : Int) else z_w ((c : Int) + 1)) _ σ = _
        by_cases e2 : j < n
        · have hb := h.byte e2
          have hs := h.sh (show j ≤ n by omega)
          obtain ⟨s0, s1, s2⟩ := hs.lt (by omega)
          have ec : c = j := by
            rw [hc]
            split <;> omega
          rw [zL_255 s0 (by omega), if_neg (by rw [z_cmp_0]; omega), zid (by omega) (by omega), ec, if_pos (show j + 1 ≤ n by omega)]
          rfl
        · have ec : c = n := by
            rw [hc]
            split <;> omega
          rw [h.done (show n ≤ j by omega), zL_255 (by omega) (by omega), if_pos (by rw [z_cmp_0]; rfl), ec, if_neg (show ¬ j + 1 ≤ n by omega)]
    have st2 : ∀ (m k j c : Nat), j + m = 7 → m < k → c = (if j ≤ n then j else n) → f_X11_letterOf_5 k x i (c : Int) ((8 * j : Nat) : Int) σ = some (if 0 ≤ i ∧ i < n then sh8 x (n - 1 - i.toNat) % 256 else -1) := by
      intro m
      induction m with
      | zero =>
        intro k j c hj hk hc
        obtain ⟨k, rfl⟩ : ∃ q, k = q + 1 := ⟨k - 1, by omega⟩
        rw [st j k c (by omega) hc, if_pos (show j = 7 by omega)]
      | succ m ih =>
        intro k j c hj hk hc
        obtain ⟨k, rfl⟩ : ∃ q, k = q + 1 := ⟨k - 1, by omega⟩
        rw [st j k c (by omega) hc, if_neg (show ¬ j = 7 by omega)]
        exact ih k (j + 1) _ (by omega) (by omega) rfl
    have h7 := st2 7 100000 0 0 (by omega) (by omega) (if_pos (Nat.zero_le n)).symm
    rw [show ((8 * 0 : Nat) : Int) = 0 from rfl] at h7
    exact h7
  · have fin : f_X12_letterOf_25 x i (n : Int) σ = some (if 0 ≤ i ∧ i < n then sh8 x (n - 1 - i.toNat) % 256 else -1) := by
      unfold f_X12_letterOf_25
      rw [zid (x := (n : Int) - 1) (by omega) (by omega)]
      by_cases c : 0 ≤ i ∧ i < n
      · rw [R_isIn_y c.1 (by omega), Option.bind_some, if_neg (show ¬ (1 : Int) = 0 by omega), if_pos c, zid (x := (n : Int) - 1 - i) (by omega) (by omega), zid (x := 8 * ((n : Int) - 1 - i)) (by omega) (by omega), show 8 * ((n : Int) - 1 - i) = ((8 * (n - 1 - i.toNat) : Nat) : Int) from by omega, zL_shr x0 (by omega) (by omega)]
        show some (z_w (z_andL (sh8 x (n - 1 - i.toNat)) 255)) = _
        have hs := h.sh (show n - 1 - i.toNat ≤ n by omega)
        obtain ⟨s0, s1, s2⟩ := hs.lt (by omega)
        rw [zL_255 s0 (by omega), zid (by omega) (by omega)]
      · rw [R_isIn_n (by omega), Option.bind_some, if_pos rfl, if_neg c]
    have st : ∀ (m k j : Nat), j + m = n → m < k → f_X12_letterOf_2 k x i (j : Int) σ = some (if 0 ≤ i ∧ i < n then sh8 x (n - 1 - i.toNat) % 256 else -1) := by
      intro m
      induction m with
      | zero =>
        intro k j hj hk
        obtain ⟨k, rfl⟩ : ∃ q, k = q + 1 := ⟨k - 1, by omega⟩
        have ej : j = n := by omega
        subst ej
        rw [f_X12_letterOf_2]
        by_cases c : 7 ≤ (j : Int)
        · rw [if_pos c, fin]
        · rw [if_neg c, zid (x := 8 * (j : Int)) (by omega) (by omega), show 8 * (j : Int) = ((8 * j : Nat) : Int) from by omega, zL_shr x0 (by omega) (by omega)]
          show (if z_cmp (sh8 x j) 0 = 0 then _ else _) = _
          rw [h.done (Nat.le_refl _), if_pos (by rw [z_cmp_0]), fin]
      | succ m ih =>
        intro k j hj hk
        obtain ⟨k, rfl⟩ : ∃ q, k = q + 1 := ⟨k - 1, by omega⟩
        rw [f_X12_letterOf_2, if_neg (by omega), zid (x := 8 * (j : Int)) (by omega) (by omega), show 8 * (j : Int) = ((8 * j : Nat) : Int) from by omega, zL_shr x0 (by omega) (by omega)]
        show (if z_cmp (sh8 x j) 0 = 0 then _ else _) = _
        rw [if_neg (by rw [z_cmp_0]; exact h.pos (by omega)), zid (x := (j : Int) + 1) (by omega) (by omega), show (j : Int) + 1 = ((j + 1 : Nat) : Int) from by omega]
        exact ih k (j + 1) (by omega) (by omega)
    exact st n 100000 0 (by omega) (by omega)
