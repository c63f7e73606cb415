-- numbers, semicolons, and reading on behind a fault
section S_R2
variable {c r c0 r0 : Nat → Nat → Int} {p q f lo hi : Int}
theorem R_fails {v : Int} (h : r 758 4 = -1) : f_X12_fails v r = some (u2 r 758 4 v) := if_pos h
theorem R_number_at {x : Int} {r1 : Nat → Nat → Int} (h4 : r 758 4 = -1) (hl : f_X12_look r = some (x, r1)) : f_X12_number lo hi r = (f_X12_isDigit (u2 r1 758 5 (r1 758 3))).bind fun q7 => if q7 = 0 then (f_X12_fails ((u2 r1 758 5 (r1 758 3)) 758 5) (u2 r1 758 5 (r1 758 3))).bind fun q12 => some (lo, q12) else f_X12_number_43 100000 lo hi 0 (u2 r1 758 5 (r1 758 3)) := by
  unfold f_X12_number
  rw [if_pos h4, hl, Option.bind_some]
theorem R_goesOn_at {x : Int} {r1 : Nat → Nat → Int} (h4 : r 758 4 = -1) (hl : f_X12_look r = some (x, r1)) : f_X12_goesOn r = if x = -1 then f_X12_goesOn_34 x r1 else if x = 59 then f_X12_goesOn_34 x r1 else (f_X12_fails (r1 758 3) r1).bind fun q9 => f_X12_goesOn_34 x q9 := by
  unfold f_X12_goesOn
  rw [if_pos h4, hl, Option.bind_some]
theorem dig_step {x rx V b : Int} (b0 : 48 ≤ b) (b1 : b ≤ 57) (hV : 0 ≤ V) (hx : (V ≤ 99999 → x = V ∧ rx = V) ∧ (99999 < V → 99999 < x ∧ 99999 < rx) ∧ 0 ≤ x ∧ x ≤ 1000000 ∧ 0 ≤ rx ∧ rx ≤ 1000008) :
    ∃ rx', (if rx ≤ 99999 then z_w (z_w (z_w (10 * rx) + b) - 48) else rx) = rx' ∧ (10 * V + b - 48 ≤ 99999 → min (z_w (z_w (z_w (x * 10) + b) - 48)) 1000000 = 10 * V + b - 48 ∧ rx' = 10 * V + b - 48) ∧ (99999 < 10 * V + b - 48 → 99999 < min (z_w (z_w (z_w (x * 10) + b) - 48)) 1000000 ∧ 99999 < rx') ∧ 0 ≤ min (z_w (z_w (z_w (x * 10) + b) - 48)) 1000000 ∧ min (z_w (z_w (z_w (x * 10) + b) - 48)) 1000000 ≤ 1000000 ∧ 0 ≤ rx' ∧ rx' ≤ 1000008 := by
  obtain ⟨h1, h2, h3, h4, h5, h6⟩ := hx
  refine ⟨_, rfl, ?_⟩
  rw [zid (x := x * 10) (by omega) (by omega), zid (x := x * 10 + b) (by omega) (by omega), zid (x := x * 10 + b - 48) (by omega) (by omega), zid (x := 10 * rx) (by omega) (by omega), zid (x := 10 * rx + b) (by omega) (by omega), zid (x := 10 * rx + b - 48) (by omega) (by omega)]
  split <;> omega
/-- the digits of a number: the class's value x, the reference's rx, what they stand for V -/
theorem T_digs (l0 : 0 ≤ lo) (hi0 : hi ≤ 9999) : ∀ (m kc kr : Nat) (x rx V : Int) (c r : Nat → Nat → Int) (p : Int), TA c r p → c 2 3 = q → r 758 5 = q → 0 ≤ q → q ≤ p → p + m = r 758 2 → m < kc → m < kr → 0 ≤ V → (V ≤ 99999 → x = V ∧ rx = V) ∧ (99999 < V → 99999 < x ∧ 99999 < rx) ∧ 0 ≤ x ∧ x ≤ 1000000 ∧ 0 ≤ rx ∧ rx ≤ 1000008 → (p ≠ q ∨ 48 ≤ hv c r p ∧ hv c r p ≤ 57) →
    ∃ x' y c' r' s, f_X9_readNumber_6 kc lo hi x c = some (x', c') ∧ f_X12_number_43 kr lo hi rx r = some (y, r') ∧ FM SRD c c' ∧ FM SRE r r' ∧ ((TA c' r' s ∧ p ≤ s ∧ c' 2 3 = q ∧ r' 758 5 = q ∧ y = x' ∧ lo ≤ x' ∧ x' ≤ hi) ∨ (TX c' r' q ∧ y = lo ∧ 0 ≤ x' ∧ x' ≤ 1000000)) := by
  intro m
  have fin : ∀ (kc kr : Nat) (x rx V : Int) (c r : Nat → Nat → Int) (p : Int), TA c r p → c 2 3 = q → r 758 5 = q → 0 ≤ q → q ≤ p → 0 ≤ V → (V ≤ 99999 → x = V ∧ rx = V) ∧ (99999 < V → 99999 < x ∧ 99999 < rx) ∧ 0 ≤ x ∧ x ≤ 1000000 ∧ 0 ≤ rx ∧ rx ≤ 1000008 → p ≠ q → (hv c r p < 48 ∨ 57 < hv c r p) →
      ∃ x' y c' r' s, f_X9_readNumber_6 (kc + 1) lo hi x c = some (x', c') ∧ f_X12_number_43 (kr + 1) lo hi rx r = some (y, r') ∧ FM SRD c c' ∧ FM SRE r r' ∧ ((TA c' r' s ∧ p ≤ s ∧ c' 2 3 = q ∧ r' 758 5 = q ∧ y = x' ∧ lo ≤ x' ∧ x' ≤ hi) ∨ (TX c' r' q ∧ y = lo ∧ 0 ≤ x' ∧ x' ≤ 1000000)) := fun kc kr x rx V c r p h hc3 hr5 q0 hqp hV hx hne hb => by
    have h' := h
    obtain ⟨h1, h2, h3, h4, h5, h6, h7⟩ := h
    have hl := h1.2.2.1
    have hh := R_here h1 h3 h4
    have hi' := hv_in h1 h4
    obtain ⟨v1, v2, v3, v4, v5, v6⟩ := hx
    have hdig : f_X12_isDigit r = some 0 := by
      unfold f_X12_isDigit
      rw [hh, Option.bind_some]
      by_cases d : hv c r p < 48
      · rw [if_pos d]
      · rw [if_neg d, Option.bind_some, if_pos (by omega)]
    have hcl : f_X9_readNumber_6 (kc + 1) lo hi x c = f_X9_readNumber_81 lo hi x c := by
      rw [f_X9_readNumber_6, h1.1, h2]
      by_cases d : r 758 2 ≤ p
      · rw [if_pos d]
      · rw [if_neg d, if_pos (by omega)]
        have e := hi'.2.2.2 d
        by_cases d2 : c 3 p.toNat < 48
        · rw [if_pos d2]
        · rw [if_neg d2, if_pos (by omega), if_pos (by omega)]
    rw [hcl, f_X12_number_43, hdig, Option.bind_some, if_pos rfl]
    unfold f_X9_readNumber_81 f_X9_readNumber_102
    rw [h2, hc3, if_neg hne, C_refusePart h6, hc3, hr5, R_fails h7, Option.bind_some]
    by_cases d : lo ≤ V ∧ V ≤ hi
    · obtain ⟨e1, e2⟩ := v1 (by omega)
      refine ⟨x, rx, c, r, p, ?_, ?_, FM.refl, FM.refl, Or.inl ⟨h', Int.le_refl _, hc3, hr5, by omega, by omega, by omega⟩⟩
      · rw [if_neg (show ¬ x < lo by omega), if_pos (show x ≤ hi by omega)]
      · rw [R_isIn_y (by omega) (by omega), Option.bind_some, if_neg (show ¬ (1 : Int) = 0 by omega)]
        unfold f_X12_number_111
        rw [if_pos h7]
    · have hy : ¬ (lo ≤ rx ∧ rx ≤ hi) := by
        by_cases w : V ≤ 99999
        · have := v1 w
          omega
        · have := v2 (by omega)
          omega
      have hz : x < lo ∨ ¬ x ≤ hi := by
        by_cases w : V ≤ 99999
        · have := v1 w
          omega
        · have := v2 (by omega)
          omega
      have hTX := h'.fails (c' := c) (r' := r) q0
      have hne1 : ¬ (u2 r 758 4 q) 758 4 = -1 := by
        rw [u2_e]
        omega
      refine ⟨x, lo, u2 c 2 4 q, u2 r 758 4 q, p, ?_, ?_, FM.refl.u (by unfold SRD; omega), FM.refl.u (by unfold SRE; omega), Or.inr ⟨hTX, rfl, v3, v4⟩⟩
      · by_cases w : x < lo
        · rw [if_pos w]
        · rw [if_neg w, if_neg (by omega)]
      · rw [R_isIn_n hy, Option.bind_some, if_pos rfl]
        unfold f_X12_number_111
        rw [Option.bind_some, if_neg hne1]
  induction m with
  | zero =>
    intro kc kr x rx V c r p h hc3 hr5 q0 hqp hm hkc hkr hV hx hb
    obtain ⟨kc, rfl⟩ : ∃ q, kc = q + 1 := ⟨kc - 1, by omega⟩
    obtain ⟨kr, rfl⟩ : ∃ q, kr = q + 1 := ⟨kr - 1, by omega⟩
    have e : hv c r p = -1 := if_pos (by omega)
    exact fin kc kr x rx V c r p h hc3 hr5 q0 hqp hV hx (by omega) (by omega)
  | succ m ih =>
    intro kc kr x rx V c r p h hc3 hr5 q0 hqp hm hkc hkr hV hx hb
    obtain ⟨kc, rfl⟩ : ∃ q, kc = q + 1 := ⟨kc - 1, by omega⟩
    obtain ⟨kr, rfl⟩ : ∃ q, kr = q + 1 := ⟨kr - 1, by omega⟩
    by_cases hb2 : hv c r p < 48 ∨ 57 < hv c r p
    · exact fin kc kr x rx V c r p h hc3 hr5 q0 hqp hV hx (by omega) hb2
    · obtain ⟨h1, h2, h3, h4, h5, h6, h7⟩ := h
      have hl := h1.2.2.1
      have hh := R_here h1 h3 h4
      have e : hv c r p = c 3 p.toNat := if_neg (by omega)
      have hdig : f_X12_isDigit r = some 1 := by
        unfold f_X12_isDigit
        rw [hh, Option.bind_some, if_neg (by omega), Option.bind_some, if_neg (by omega)]
      obtain ⟨rx', w1, w2⟩ := dig_step (b := c 3 p.toNat) (by omega) (by omega) hV hx
      have hcl : f_X9_readNumber_6 (kc + 1) lo hi x c = f_X9_readNumber_6 kc lo hi (min (z_w (z_w (z_w (x * 10) + c 3 p.toNat) - 48)) 1000000) (u2 c 2 2 (p + 1)) := by
        rw [f_X9_readNumber_6, h1.1, h2, if_neg (by omega), if_pos (by omega), if_neg (by omega), if_pos (by omega), if_neg (by omega), if_pos (by omega), zid (x := p + 1) (by omega) (by omega)]
      have hrl : f_X12_number_43 (kr + 1) lo hi rx r = f_X12_number_43 kr lo hi rx' (u2 r 758 3 (p + 1)) := by
        rw [f_X12_number_43, hdig, Option.bind_some, if_neg (show ¬ (1 : Int) = 0 by omega)]
        unfold f_X12_number_75
        rw [hh, Option.bind_some, h3, zid (x := p + 1) (by omega) (by omega), ← w1, e]
        by_cases w : rx ≤ 99999
        · rw [if_pos w, if_pos w]
        · rw [if_neg w, if_neg w]
      have hm1 : FM SRD c (u2 c 2 2 (p + 1)) := FM.refl.u (by unfold SRD; omega)
      have hm2 : FM SRE r (u2 r 758 3 (p + 1)) := FM.refl.u (by unfold SRE; omega)
      obtain ⟨x', y, c', r', s, g1, g2, g3, g4, g5⟩ := ih kc kr _ rx' (10 * V + c 3 p.toNat - 48) (u2 c 2 2 (p + 1)) (u2 r 758 3 (p + 1)) (p + 1) ⟨h1.fm hm1 hm2, u2_e, u2_e, by omega, by rw [u2_i (by omega)]; omega, (u2_i (by omega)).trans h6, (u2_i (by omega)).trans h7⟩ ((u2_i (by omega)).trans hc3) ((u2_i (by omega)).trans hr5) q0 (by omega) (by rw [u2_i (by omega)]; omega) (by omega) (by omega) (by omega) w2 (by omega)
      refine ⟨x', y, c', r', s, hcl.trans g1, hrl.trans g2, hm1.trans g3, hm2.trans g4, ?_⟩
      rcases g5 with ⟨a1, a2, a3⟩ | a
      · exact Or.inl ⟨a1, by omega, a3⟩
      · exact Or.inr a
/-- a number, sound before -/
theorem T_number (h : TA c r p) (l0 : 0 ≤ lo) (hi0 : hi ≤ 9999) : ∃ x y c' r' s q, f_X9_readNumber lo hi c = some (x, c') ∧ f_X12_number lo hi r = some (y, r') ∧ FM SRD c c' ∧ FM SRE r r' ∧ ((TA c' r' s ∧ p ≤ s ∧ c' 2 3 = q ∧ r' 758 5 = q ∧ y = x ∧ lo ≤ x ∧ x ≤ hi) ∨ (TX c' r' q ∧ y = lo ∧ 0 ≤ x ∧ x ≤ 1000000)) := by
  obtain ⟨q, c1, r1, g1, g2, g3, g4, g5, g6, g7, g8⟩ := T_go h
  have g5' := g5
  obtain ⟨h1, h2, h3, h4, h5, h6, h7⟩ := g5
  have hl := h1.2.2.1
  have hm2 : FM SRE r1 (u2 r1 758 5 q) := FM.refl.u (by unfold SRE; omega)
  have hA : TA c1 (u2 r1 758 5 q) q := ⟨h1.fm FM.refl hm2, h2, by rw [u2_i (by omega)]; exact h3, h4, by rw [u2_i (by omega)]; exact h5, h6, by rw [u2_i (by omega)]; exact h7⟩
  have hh := R_here hA.1 hA.2.2.1 h4
  have ehv : ∀ {r2 : Nat → Nat → Int}, r2 758 2 = r1 758 2 → hv c1 r2 q = hv c1 r1 q := fun e => by
    unfold hv
    rw [e]
  rw [ehv (u2_i (by omega))] at hh
  have hv1 := hv_in h1 h4
  by_cases hd : 48 ≤ hv c1 r1 q ∧ hv c1 r1 q ≤ 57
  · have hdig : f_X12_isDigit (u2 r1 758 5 q) = some 1 := by
      unfold f_X12_isDigit
      rw [hh, Option.bind_some, if_neg (by omega), Option.bind_some, if_neg (by omega)]
    obtain ⟨x', y, c', r', s, a1, a2, a3, a4, a5⟩ := T_digs (q := q) l0 hi0 (r1 758 2 - q).toNat 100000 100000 0 0 0 c1 (u2 r1 758 5 q) q hA g6 u2_e h4 (Int.le_refl _) (by rw [u2_i (by omega)]; omega) (by omega) (by omega) (Int.le_refl _) (by omega) (Or.inr (by rw [ehv (u2_i (by omega))]; exact hd))
    refine ⟨x', y, c', r', s, q, ?_, ?_, g7.trans a3, (g8.trans hm2).trans a4, ?_⟩
    · unfold f_X9_readNumber
      rw [g1, Option.bind_some, a1]
    · rw [R_number_at h.2.2.2.2.2.2 g2, h3, hdig, Option.bind_some, if_neg (show ¬ (1 : Int) = 0 by omega), a2]
    · rcases a5 with ⟨b1, b2, b3⟩ | b
      · exact Or.inl ⟨b1, by omega, b3⟩
      · exact Or.inr b
  · have hdig : f_X12_isDigit (u2 r1 758 5 q) = some 0 := by
      unfold f_X12_isDigit
      rw [hh, Option.bind_some]
      by_cases d : hv c1 r1 q < 48
      · rw [if_pos d]
      · rw [if_neg d, Option.bind_some, if_pos (by omega)]
    have hTX := hA.fails (c' := c1) (r' := u2 r1 758 5 q) h4
    refine ⟨0, lo, u2 c1 2 4 q, u2 (u2 r1 758 5 q) 758 4 q, q, q, ?_, ?_, g7.u (by unfold SRD; omega), (g8.trans hm2).u (by unfold SRE; omega), Or.inr ⟨hTX, rfl, by omega, by omega⟩⟩
    · unfold f_X9_readNumber
      rw [g1, Option.bind_some, f_X9_readNumber_6, h1.1, h2]
      have h81 : f_X9_readNumber_81 lo hi 0 c1 = some (0, u2 c1 2 4 q) := by
        unfold f_X9_readNumber_81 f_X9_readNumber_102
        rw [h2, g6, if_pos rfl, C_refusePart h6, Option.bind_some, g6]
      rw [h81]
      by_cases d : r1 758 2 ≤ q
      · rw [if_pos d]
      · rw [if_neg d, if_pos (by omega)]
        have e := hv1.2.2.2 d
        by_cases d2 : c1 3 q.toNat < 48
        · rw [if_pos d2]
        · rw [if_neg d2, if_pos (by omega), if_pos (by omega)]
    · rw [R_number_at h.2.2.2.2.2.2 g2, h3, hdig, Option.bind_some, if_pos rfl, R_fails ((u2_i (by omega)).trans h7), Option.bind_some, u2_e]
/-- a semicolon, or the end, or a fault; sound before -/
theorem T_semi (h : TA c r p) : ∃ b c' r' s, f_X9_readSemicolon c = some (b, c') ∧ f_X12_goesOn r = some (b, r') ∧ FM SRD c c' ∧ FM SRE r r' ∧ ((b = 1 ∧ TA c' r' s ∧ p < s ∧ c' 2 3 = s - 1) ∨ (b = 0 ∧ TA c' r' s ∧ s = r 758 2) ∨ (b = 0 ∧ TX c' r' s)) := by
  obtain ⟨q, c1, r1, g1, g2, g3, g4, g5, g6, g7, g8⟩ := T_go h
  have g5' := g5
  obtain ⟨h1, h2, h3, h4, h5, h6, h7⟩ := g5
  have hl := h1.2.2.1
  have e2 : r1 758 2 = r 758 2 := g8 758 2 (by unfold SRE; omega)
  have ehv : hv c r q = hv c1 r1 q := by
    unfold hv
    rw [e2, (funext fun j => g7 3 j (by unfold SRD; omega) : c1 3 = c 3)]
  rw [ehv] at g2
  have hv1 := hv_in h1 h4
  have hr := R_goesOn_at h.2.2.2.2.2.2 g2
  have hc : f_X9_readSemicolon c = if q < r1 758 2 then (if 0 ≤ q ∧ q < 320 then if c1 3 q.toNat = 59 then some (1, u2 c1 2 2 (z_w (q + 1))) else (f_X9_refusePart c1).bind fun q12 => some (0, q12) else none) else some (0, c1) := by
    unfold f_X9_readSemicolon
    rw [g1, Option.bind_some, h1.1, h2]
  by_cases d : r1 758 2 ≤ q
  · have e : hv c1 r1 q = -1 := hv1.2.2.1.mpr d
    rw [if_neg (show ¬ q < r1 758 2 by omega)] at hc
    rw [e, if_pos rfl] at hr
    unfold f_X12_goesOn_34 at hr
    rw [if_neg (show ¬ (-1 : Int) = 59 by omega)] at hr
    exact ⟨0, c1, r1, q, hc, hr, g7, g8, Or.inr (Or.inl ⟨rfl, g5', by omega⟩)⟩
  · have e := hv1.2.2.2 d
    rw [if_pos (show q < r1 758 2 by omega), if_pos (show 0 ≤ q ∧ q < 320 by omega)] at hc
    rw [if_neg (show ¬ hv c1 r1 q = -1 by omega)] at hr
    by_cases d2 : c1 3 q.toNat = 59
    · rw [if_pos d2, zid (x := q + 1) (by omega) (by omega)] at hc
      rw [if_pos (show hv c1 r1 q = 59 by omega)] at hr
      unfold f_X12_goesOn_34 at hr
      rw [if_pos (show hv c1 r1 q = 59 by omega), h3, zid (x := q + 1) (by omega) (by omega)] at hr
      have hm1 : FM SRD c1 (u2 c1 2 2 (q + 1)) := FM.refl.u (by unfold SRD; omega)
      have hm2 : FM SRE r1 (u2 r1 758 3 (q + 1)) := FM.refl.u (by unfold SRE; omega)
      refine ⟨1, _, _, q + 1, hc, hr, g7.trans hm1, g8.trans hm2, Or.inl ⟨rfl, ⟨h1.fm hm1 hm2, u2_e, u2_e, by omega, by rw [u2_i (by omega)]; omega, (u2_i (by omega)).trans h6, (u2_i (by omega)).trans h7⟩, by omega, by rw [u2_i (by omega), g6]; omega⟩⟩
    · rw [if_neg d2, C_refusePart h6, Option.bind_some, g6] at hc
      rw [if_neg (show ¬ hv c1 r1 q = 59 by omega), R_fails h7, Option.bind_some] at hr
      unfold f_X12_goesOn_34 at hr
      rw [if_neg (show ¬ hv c1 r1 q = 59 by omega), h3] at hr
      exact ⟨0, _, _, q, hc, hr, g7.u (by unfold SRD; omega), g8.u (by unfold SRE; omega), Or.inr (Or.inr ⟨rfl, g5'.fails (c' := c1) (r' := r1) h4⟩)⟩
/-- the class reads on where a fault stands -/
theorem C_goX (h1 : 0 ≤ c 2 2) (h2 : c 2 2 ≤ c 2 1) (h3 : c 2 1 ≤ 320) : ∃ c', f_X9_goToNextPart c = some c' ∧ FM SRD c c' ∧ c' 2 4 = c 2 4 ∧ 0 ≤ c' 2 2 ∧ c' 2 2 ≤ c 2 1 := by
  have st : ∀ (m k : Nat) (c : Nat → Nat → Int), 0 ≤ c 2 2 → c 2 2 + m = c 2 1 → c 2 1 ≤ 320 → m < k → ∃ c', f_X9_goToNextPart_0 k c = some c' ∧ FM SRD c c' ∧ c' 2 4 = c 2 4 ∧ 0 ≤ c' 2 2 ∧ c' 2 2 ≤ c 2 1 := by
    intro m
    induction m with
    | zero =>
      intro k c h1 h2 h3 hk
      obtain ⟨k, rfl⟩ : ∃ q, k = q + 1 := ⟨k - 1, by omega⟩
      exact ⟨_, by rw [f_X9_goToNextPart_0, if_pos (by omega)], FM.refl.u (by unfold SRD; omega), u2_i (by omega), by rw [u2_i (by omega)]; exact h1, by rw [u2_i (by omega)]; omega⟩
    | succ m ih =>
      intro k c h1 h2 h3 hk
      obtain ⟨k, rfl⟩ : ∃ q, k = q + 1 := ⟨k - 1, by omega⟩
      rw [f_X9_goToNextPart_0, if_neg (by omega), if_pos (by omega)]
      by_cases d : c 3 (c 2 2).toNat = 32
      · rw [if_pos d, zid (x := c 2 2 + 1) (by omega) (by omega)]
        obtain ⟨c', g1, g2, g3, g4, g5⟩ := ih k (u2 c 2 2 (c 2 2 + 1)) (by rw [u2_e]; omega) (by rw [u2_e, u2_i (by omega)]; omega) (by rw [u2_i (by omega)]; exact h3) (by omega)
        rw [u2_i (by omega)] at g3 g5
        exact ⟨c', g1, (FM.refl.u (by unfold SRD; omega)).trans g2, g3, g4, g5⟩
      · rw [if_neg d]
        exact ⟨_, rfl, FM.refl.u (by unfold SRD; omega), u2_i (by omega), by rw [u2_i (by omega)]; exact h1, by rw [u2_i (by omega)]; omega⟩
  exact st (c 2 1 - c 2 2).toNat 100000 c h1 (by omega) h3 (by omega)
theorem C_wordX (h1 : 0 ≤ c 2 2) (h2 : c 2 2 ≤ c 2 1) (h3 : c 2 1 ≤ 320) (h4 : c 2 4 ≠ -1) : ∃ x c', f_X9_readWord c = some (x, c') ∧ FM SRD c c' ∧ c' 2 4 = c 2 4 ∧ 0 ≤ c' 2 2 ∧ c' 2 2 ≤ c 2 1 := by
  have st : ∀ (m k : Nat) (x : Int) (c : Nat → Nat → Int), 0 ≤ c 2 2 → c 2 2 + m = c 2 1 → c 2 1 ≤ 320 → c 2 4 ≠ -1 → m < k → ∃ x' c', f_X9_readWord_6 k x c = some (x', c') ∧ FM SRD c c' ∧ c' 2 4 = c 2 4 ∧ 0 ≤ c' 2 2 ∧ c' 2 2 ≤ c 2 1 := by
    have fin : ∀ (x : Int) (c : Nat → Nat → Int), 0 ≤ c 2 2 → c 2 2 ≤ c 2 1 → c 2 4 ≠ -1 → ∃ x' c', f_X9_readWord_74 x c = some (x', c') ∧ FM SRD c c' ∧ c' 2 4 = c 2 4 ∧ 0 ≤ c' 2 2 ∧ c' 2 2 ≤ c 2 1 := fun x c h1 h2 h4 => by
      unfold f_X9_readWord_74 f_X9_readWord_99
      rw [C_refusePartX h4]
      repeat' split
      all_goals exact ⟨_, c, rfl, FM.refl, rfl, h1, h2⟩
    intro m
    induction m with
    | zero =>
      intro k x c h1 h2 h3 h4 hk
      obtain ⟨k, rfl⟩ : ∃ q, k = q + 1 := ⟨k - 1, by omega⟩
      rw [f_X9_readWord_6, if_pos (by omega)]
      exact fin x c h1 (by omega) h4
    | succ m ih =>
      intro k x c h1 h2 h3 h4 hk
      obtain ⟨k, rfl⟩ : ∃ q, k = q + 1 := ⟨k - 1, by omega⟩
      rw [f_X9_readWord_6, if_neg (by omega), if_pos (by omega)]
      by_cases d1 : c 3 (c 2 2).toNat < 97
      · rw [if_pos d1]
        exact fin x c h1 (by omega) h4
      rw [if_neg d1, if_pos (by omega)]
      by_cases d2 : 122 < c 3 (c 2 2).toNat
      · rw [if_pos d2]
        exact fin x c h1 (by omega) h4
      rw [if_neg d2, if_pos (by omega), zid (x := c 2 2 + 1) (by omega) (by omega)]
      obtain ⟨x', c', g1, g2, g3, g4, g5⟩ := ih k (z_orL (z_shlL x 8) (c 3 (c 2 2).toNat)) (u2 c 2 2 (c 2 2 + 1)) (by rw [u2_e]; omega) (by rw [u2_e, u2_i (by omega)]; omega) (by rw [u2_i (by omega)]; exact h3) (by rw [u2_i (by omega)]; exact h4) (by omega)
      rw [u2_i (by omega)] at g3 g5
      exact ⟨x', c', g1, (FM.refl.u (by unfold SRD; omega)).trans g2, g3, g4, g5⟩
  obtain ⟨c1, g1, g2, g3, g4, g5⟩ := C_goX h1 h2 h3
  have e1 : c1 2 1 = c 2 1 := g2 2 1 (by unfold SRD; omega)
  obtain ⟨x', c', k1, k2, k3, k4, k5⟩ := st (c1 2 1 - c1 2 2).toNat 100000 0 c1 g4 (by omega) (by omega) (by rw [g3]; exact h4) (by omega)
  exact ⟨x', c', by unfold f_X9_readWord; rw [g1, Option.bind_some, k1], g2.trans k2, k3.trans g3, k4, by omega⟩
theorem C_numberX (h1 : 0 ≤ c 2 2) (h2 : c 2 2 ≤ c 2 1) (h3 : c 2 1 ≤ 320) (h4 : c 2 4 ≠ -1) : ∃ x c', f_X9_readNumber lo hi c = some (x, c') ∧ FM SRD c c' ∧ c' 2 4 = c 2 4 ∧ 0 ≤ c' 2 2 ∧ c' 2 2 ≤ c 2 1 := by
  have st : ∀ (m k : Nat) (x : Int) (c : Nat → Nat → Int), 0 ≤ c 2 2 → c 2 2 + m = c 2 1 → c 2 1 ≤ 320 → c 2 4 ≠ -1 → m < k → ∃ x' c', f_X9_readNumber_6 k lo hi x c = some (x', c') ∧ FM SRD c c' ∧ c' 2 4 = c 2 4 ∧ 0 ≤ c' 2 2 ∧ c' 2 2 ≤ c 2 1 := by
    have fin : ∀ (x : Int) (c : Nat → Nat → Int), 0 ≤ c 2 2 → c 2 2 ≤ c 2 1 → c 2 4 ≠ -1 → ∃ x' c', f_X9_readNumber_81 lo hi x c = some (x', c') ∧ FM SRD c c' ∧ c' 2 4 = c 2 4 ∧ 0 ≤ c' 2 2 ∧ c' 2 2 ≤ c 2 1 := fun x c h1 h2 h4 => by
      unfold f_X9_readNumber_81 f_X9_readNumber_102
      rw [C_refusePartX h4]
      repeat' split
      all_goals exact ⟨_, c, rfl, FM.refl, rfl, h1, h2⟩
    intro m
    induction m with
    | zero =>
      intro k x c h1 h2 h3 h4 hk
      obtain ⟨k, rfl⟩ : ∃ q, k = q + 1 := ⟨k - 1, by omega⟩
      rw [f_X9_readNumber_6, if_pos (by omega)]
      exact fin x c h1 (by omega) h4
    | succ m ih =>
      intro k x c h1 h2 h3 h4 hk
      obtain ⟨k, rfl⟩ : ∃ q, k = q + 1 := ⟨k - 1, by omega⟩
      rw [f_X9_readNumber_6, if_neg (by omega), if_pos (by omega)]
      by_cases d1 : c 3 (c 2 2).toNat < 48
      · rw [if_pos d1]
        exact fin x c h1 (by omega) h4
      rw [if_neg d1, if_pos (by omega)]
      by_cases d2 : 57 < c 3 (c 2 2).toNat
      · rw [if_pos d2]
        exact fin x c h1 (by omega) h4
      rw [if_neg d2, if_pos (by omega), zid (x := c 2 2 + 1) (by omega) (by omega)]
      obtain ⟨x', c', g1, g2, g3, g4, g5⟩ := ih k (min (z_w (z_w (z_w (x * 10) + c 3 (c 2 2).toNat) - 48)) 1000000) (u2 c 2 2 (c 2 2 + 1)) (by rw [u2_e]; omega) (by rw [u2_e, u2_i (by omega)]; omega) (by rw [u2_i (by omega)]; exact h3) (by rw [u2_i (by omega)]; exact h4) (by omega)
      rw [u2_i (by omega)] at g3 g5
      exact ⟨x', c', g1, (FM.refl.u (by unfold SRD; omega)).trans g2, g3, g4, g5⟩
  obtain ⟨c1, g1, g2, g3, g4, g5⟩ := C_goX h1 h2 h3
  have e1 : c1 2 1 = c 2 1 := g2 2 1 (by unfold SRD; omega)
  obtain ⟨x', c', k1, k2, k3, k4, k5⟩ := st (c1 2 1 - c1 2 2).toNat 100000 0 c1 g4 (by omega) (by omega) (by rw [g3]; exact h4) (by omega)
  exact ⟨x', c', by unfold f_X9_readNumber; rw [g1, Option.bind_some, k1], g2.trans k2, k3.trans g3, k4, by omega⟩
/-- behind a fault: the class reads on and keeps it, the reference reads nothing -/
theorem TX.word (h : TX c r f) : ∃ x c', f_X9_readWord c = some (x, c') ∧ f_X12_word r = some r ∧ TX c' r f ∧ FM SRD c c' := by
  obtain ⟨h1, h2, h3, h4, h5, h6⟩ := h
  obtain ⟨x, c', g1, g2, g3, g4, g5⟩ := C_wordX h2 h3 (by rw [h1.1]; exact h1.2.2.1) (by omega)
  refine ⟨x, c', g1, ?_, ⟨h1.fm g2 FM.refl, g4, by rw [g2 2 1 (by unfold SRD; omega)]; exact g5, g3.trans h4, h5, h6⟩, g2⟩
  unfold f_X12_word
  rw [if_neg (by omega)]
theorem TX.number (h : TX c r f) : ∃ x c', f_X9_readNumber lo hi c = some (x, c') ∧ f_X12_number lo hi r = some (lo, r) ∧ TX c' r f ∧ FM SRD c c' := by
  obtain ⟨h1, h2, h3, h4, h5, h6⟩ := h
  obtain ⟨x, c', g1, g2, g3, g4, g5⟩ := C_numberX (lo := lo) (hi := hi) h2 h3 (by rw [h1.1]; exact h1.2.2.1) (by omega)
  refine ⟨x, c', g1, ?_, ⟨h1.fm g2 FM.refl, g4, by rw [g2 2 1 (by unfold SRD; omega)]; exact g5, g3.trans h4, h5, h6⟩, g2⟩
  unfold f_X12_number
  rw [if_neg (by omega)]
theorem TX.sound (h : TX c r f) : f_X9_isSound c = some 0 := by
  unfold f_X9_isSound
  rw [if_neg (by have := h.2.2.2; omega)]
theorem TA.sound (h : TA c r p) : f_X9_isSound c = some 1 := by
  unfold f_X9_isSound
  rw [if_pos h.2.2.2.2.2.1]
end S_R2
