-- a rule's line, a line, a chip read; both sides
def m_addR (K : Nat → Nat → Int) (i y : Int) : Nat → Nat → Int := fun b => if b = 10 then u1 (K 10) i.toNat y else K b
theorem ru_bit : ∀ x : Fin 64, ∀ i : Fin 6, z_and (z_ushr ((x.val : Nat) : Int) ((i.val : Nat) : Int)) 1 = ((x.val / 2 ^ i.val % 2 : Nat) : Int) := by decide +kernel
theorem ru_has : ∀ x : Fin 64, ∀ i : Fin 6, z_and (z_shr ((8 * x.val : Nat) : Int) ((i.val + 3 : Nat) : Int)) 1 = ((x.val / 2 ^ i.val % 2 : Nat) : Int) := by decide +kernel
theorem ru_or : ∀ x : Fin 64, ∀ i : Fin 6, z_or ((8 * x.val : Nat) : Int) (z_shl 1 ((i.val + 3 : Nat) : Int)) = 8 * z_or ((x.val : Nat) : Int) (z_shl 1 ((i.val : Nat) : Int)) ∧ 0 ≤ z_or ((x.val : Nat) : Int) (z_shl 1 ((i.val : Nat) : Int)) ∧ z_or ((x.val : Nat) : Int) (z_shl 1 ((i.val : Nat) : Int)) < 64 := by decide +kernel
section S_RU
variable {c r K : Nat → Nat → Int} {a : Nat} {p q f x lo hi n1 n2 n3 y v s l0 i met : Int}
theorem WQ.addR (h : WQ K) (i0 : 0 ≤ i) (i1 : i < 6) (h1 : ([0, 0, 1, 0, 1, 2] : List Int).getD i.toNat 0 ≤ y) (h2 : y ≤ ([100, 20, 20, 9, 9999, 16] : List Int).getD i.toNat 0) : WQ (m_addR K i y) := by
  obtain ⟨w0, w1, w2, w3, w4, w5, w6, w7, w8⟩ := h
  refine ⟨w0, w1, w2, w3, w4, w5, w6, w7, ?_⟩
  have e : m_addR K i y 10 = u1 (K 10) i.toNat y := rfl
  rw [e]
  have k : i = 0 ∨ i = 1 ∨ i = 2 ∨ i = 3 ∨ i = 4 ∨ i = 5 := by omega
  rcases k with rfl | rfl | rfl | rfl | rfl | rfl
  · have e0 : ((0 : Int)).toNat = 0 := rfl
    rw [e0, u1_e, u1_i (by omega), u1_i (by omega), u1_i (by omega), u1_i (by omega), u1_i (by omega)]
    have g1 : (0 : Int) ≤ y := h1
    have g2 : y ≤ 100 := h2
    omega
  · have e0 : ((1 : Int)).toNat = 1 := rfl
    rw [e0, u1_e, u1_i (by omega), u1_i (by omega), u1_i (by omega), u1_i (by omega), u1_i (by omega)]
    have g1 : (0 : Int) ≤ y := h1
    have g2 : y ≤ 20 := h2
    omega
  · have e0 : ((2 : Int)).toNat = 2 := rfl
    rw [e0, u1_e, u1_i (by omega), u1_i (by omega), u1_i (by omega), u1_i (by omega), u1_i (by omega)]
    have g1 : (1 : Int) ≤ y := h1
    have g2 : y ≤ 20 := h2
    omega
  · have e0 : ((3 : Int)).toNat = 3 := rfl
    rw [e0, u1_e, u1_i (by omega), u1_i (by omega), u1_i (by omega), u1_i (by omega), u1_i (by omega)]
    have g1 : (0 : Int) ≤ y := h1
    have g2 : y ≤ 9 := h2
    omega
  · have e0 : ((4 : Int)).toNat = 4 := rfl
    rw [e0, u1_e, u1_i (by omega), u1_i (by omega), u1_i (by omega), u1_i (by omega), u1_i (by omega)]
    have g1 : (1 : Int) ≤ y := h1
    have g2 : y ≤ 9999 := h2
    omega
  · have e0 : ((5 : Int)).toNat = 5 := rfl
    rw [e0, u1_e, u1_i (by omega), u1_i (by omega), u1_i (by omega), u1_i (by omega), u1_i (by omega)]
    have g1 : (2 : Int) ≤ y := h1
    have g2 : y ≤ 16 := h2
    omega
theorem R_leastMost (i0 : 0 ≤ i) (i1 : i < 6) : f_X12_leastRule i r = some (([0, 0, 1, 0, 1, 2] : List Int).getD i.toNat 0) ∧ f_X12_mostRule i r = some (([100, 20, 20, 9, 9999, 16] : List Int).getD i.toNat 0) ∧ 0 ≤ ([0, 0, 1, 0, 1, 2] : List Int).getD i.toNat 0 ∧ ([100, 20, 20, 9, 9999, 16] : List Int).getD i.toNat 0 ≤ 9999 := by
  have k : i = 0 ∨ i = 1 ∨ i = 2 ∨ i = 3 ∨ i = 4 ∨ i = 5 := by omega
  rcases k with rfl | rfl | rfl | rfl | rfl | rfl <;> exact ⟨rfl, rfl, by decide, by decide⟩
set_option maxHeartbeats 1000000 in
/-- the i-th rule told: k = i + 3 its word -/
theorem T_rule (h : TA c r p) (hC : RC c a K) (hD : DR r K) (hW : WQ K) (ha : 3 < a) (i0 : 0 ≤ i) (i1 : i < 6) (h3 : c 2 3 = q) (h5 : r 758 5 = q) (q0 : 0 ≤ q) (hx : 0 ≤ c a 4 ∧ c a 4 < 64) (hm : met = 8 * c a 4) :
    ∃ c' r' met', f_X10_readRule a i c = some c' ∧ f_X12_readLine_61 met (i + 3) r = some (met', r') ∧ FM (SLC a) c c' ∧ FM SLR r r' ∧ LN c' r' a p (fun t => 0 ≤ t ∧ t < 64 ∧ met' = 8 * t) := by
  have hw := hW.1
  obtain ⟨x, hxx⟩ : ∃ x : Nat, c a 4 = (x : Int) := ⟨(c a 4).toNat, by omega⟩
  obtain ⟨j, rfl⟩ : ∃ j : Nat, i = (j : Int) := ⟨i.toNat, by omega⟩
  have b1 := ru_bit ⟨x, by omega⟩ ⟨j, by omega⟩
  have b2 := ru_has ⟨x, by omega⟩ ⟨j, by omega⟩
  have b3 := ru_or ⟨x, by omega⟩ ⟨j, by omega⟩
  dsimp only at b1 b2 b3
  have em : met = ((8 * x : Nat) : Int) := by omega
  have ej : (j : Int) + 3 = ((j + 3 : Nat) : Int) := by omega
  obtain ⟨l1, l2, l3, l4⟩ := R_leastMost (r := r) i0 i1
  have hbit : f_X11_bitOf (c a 4) (j : Int) c = some ((x / 2 ^ j % 2 : Nat) : Int) := by
    unfold f_X11_bitOf
    rw [if_neg (by omega), if_pos (by omega), hxx, b1]
  have hhas : f_X12_has met ((j : Int) + 3) r = some (if (x / 2 ^ j % 2 : Nat) = 1 then 1 else 0) := by
    unfold f_X12_has
    rw [em, ej, b2]
    by_cases d : x / 2 ^ j % 2 = 1
    · rw [if_pos (by omega), if_pos d]
    · rw [if_neg (by omega), if_neg d]
  have hr61 : f_X12_readLine_61 met ((j : Int) + 3) r = f_X12_readLine_79 met ((j : Int) + 3) (if (x / 2 ^ j % 2 : Nat) = 1 then 0 else 1) r := by
    unfold f_X12_readLine_61
    rw [if_neg (by omega), hhas, Option.bind_some]
    by_cases d : x / 2 ^ j % 2 = 1
    · rw [if_pos d, if_pos d, if_neg (show ¬ (1 : Int) = 0 by omega)]
    · rw [if_neg d, if_neg d, if_pos rfl]
  by_cases d : x / 2 ^ j % 2 = 1
  · rw [if_pos d] at hr61
    have hf4 : r 758 4 = -1 := h.2.2.2.2.2.2
    have hne : (u2 r 758 4 q) 758 4 ≠ -1 := by
      rw [u2_e]
      omega
    have hr : f_X12_readLine_61 met ((j : Int) + 3) r = some (met, u2 r 758 4 q) := by
      rw [hr61]
      unfold f_X12_readLine_79 f_X12_readLine_100
      rw [if_pos hf4, if_pos rfl, R_fails hf4, Option.bind_some, h5, if_neg hne]
    have hc : f_X10_readRule a (j : Int) c = some (u2 c 2 4 q) := by
      unfold f_X10_readRule
      rw [hbit, Option.bind_some, if_pos (by omega), C_refusePart h.2.2.2.2.2.1, h3]
      rfl
    refine ⟨_, _, _, hc, hr, FM.refl.u (by unfold SLC SRD; omega), FM.refl.u (by unfold SLR SRE; omega), Or.inr ⟨q, h.fails (c' := c) (r' := r) q0, ?_⟩⟩
    rw [u2_c (by omega), hC.n0, u2_i (by omega), hD.1.1]
    omega
  · rw [if_neg d] at hr61
    obtain ⟨n1, y, c2, r2, s, q', a1, a2, a3, a4, a5⟩ := T_number (lo := ([0, 0, 1, 0, 1, 2] : List Int).getD ((j : Int)).toNat 0) (hi := ([100, 20, 20, 9, 9999, 16] : List Int).getD ((j : Int)).toNat 0) h l3 l4
    have hC2 := hC.fd (by omega) ha a3
    have hD2 := hD.fm a4
    have h4a : c2 a 4 = (x : Int) := (c0_sr a3 ha 4).trans hxx
    have b6 : 0 ≤ (j : Int) ∧ (j : Int) < 6 := by omega
    have hc : f_X10_readRule a (j : Int) c = some (u2 (u2 c2 a 4 (z_or (x : Int) (z_shl 1 (j : Int)))) (a + 18) j n1) := by
      unfold f_X10_readRule
      rw [hbit, Option.bind_some, if_neg (by omega), if_pos b6, if_pos b6, a1, Option.bind_some]
      dsimp only
      rw [h4a]
      unfold f_X11_withBit
      rw [if_neg (by omega), if_pos (by omega), if_neg (by omega), Option.bind_some, if_pos b6, Int.toNat_natCast]
    have hr : f_X12_readLine_61 met ((j : Int) + 3) r = some (8 * z_or (x : Int) (z_shl 1 (j : Int)), u2 r2 760 j y) := by
      rw [hr61]
      unfold f_X12_readLine_79 f_X12_readLine_100
      rw [if_pos h.2.2.2.2.2.2, if_neg (show ¬ (1 : Int) = 0 by omega), if_pos h.2.2.2.2.2.2, if_neg (by omega), if_neg (by omega), if_neg (by omega), zid (x := (j : Int) + 3 - 3) (by omega) (by omega), show (j : Int) + 3 - 3 = (j : Int) from by omega, l1, Option.bind_some, l2, Option.bind_some, a2, Option.bind_some, if_pos b6, Int.toNat_natCast, em, ej, b3.1]
    have mc : FM (SLC a) c (u2 (u2 c2 a 4 (z_or (x : Int) (z_shl 1 (j : Int)))) (a + 18) j n1) := ((SRD.lc a3).u (by unfold SLC; omega)).u (by unfold SLC; omega)
    have mr : FM SLR r (u2 r2 760 j y) := (SRE.lr a4).u (by unfold SLR; omega)
    have gc : ∀ b, b < a → (u2 (u2 c2 a 4 (z_or (x : Int) (z_shl 1 (j : Int)))) (a + 18) j n1) b = c2 b := fun b hb => by rw [u2_ne (by omega), u2_ne (by omega)]
    rcases a5 with ⟨t1, t2, t3, t4, t5, t6, t7⟩ | ⟨t1, t2⟩
    · refine ⟨_, _, _, hc, hr, mc, mr, Or.inl ⟨s, m_addR K (j : Int) n1, ?_, t2, ?_, ?_, hW.addR i0 i1 t6 t7, ?_⟩⟩
      · obtain ⟨h1, h2, h3, h5, h6, h7, h8⟩ := t1
        exact ⟨h1.frame (by rw [gc 2 (by omega)]) (gc 3 (by omega)) (u2_c (by omega)) (u2_ne (by omega)), by rw [gc 2 (by omega)]; exact h2, by rw [u2_c (by omega)]; exact h3, h5, by rw [u2_c (by omega)]; exact h6, by rw [gc 2 (by omega)]; exact h7, by rw [u2_c (by omega)]; exact h8⟩
      · obtain ⟨⟨r0, r1, r2', r3⟩, r4, r5, r6, r7, r8⟩ := hC2
        refine ⟨⟨?_, ?_, ?_, ?_⟩, fun w w0 w1 => ?_, fun w p w0 w1 p0 p1 => ?_, fun w w0 w1 => ?_, fun t t0 t1 => ?_, fun i hi => ?_⟩
        · simp (disch := first | assumption | omega) only [if_true, if_false, zid, zlid, if_pos, if_neg, u2_e, u2_c, u2_i, u1_e, u1_i, Option.bind_some]
          exact r0
        · simp (disch := first | assumption | omega) only [if_true, if_false, zid, zlid, if_pos, if_neg, u2_e, u2_c, u2_i, u1_e, u1_i, Option.bind_some]
          exact r1
        · simp (disch := first | assumption | omega) only [if_true, if_false, zid, zlid, if_pos, if_neg, u2_e, u2_c, u2_i, u1_e, u1_i, Option.bind_some]
          exact r2'
        · simp (disch := first | assumption | omega) only [if_true, if_false, zid, zlid, if_pos, if_neg, u2_e, u2_c, u2_i, u1_e, u1_i, Option.bind_some]
          exact r3
        · simp (disch := first | assumption | omega) only [if_true, if_false, zid, zlid, if_pos, if_neg, u2_e, u2_c, u2_i, u1_e, u1_i, Option.bind_some]
          exact r4 w w0 w1
        · have w1' : w < K 0 0 := w1
          simp (disch := first | assumption | omega) only [if_true, if_false, zid, zlid, if_pos, if_neg, u2_e, u2_c, u2_i, u1_e, u1_i, Option.bind_some]
          exact r5 w p w0 w1 p0 p1
        · simp (disch := first | assumption | omega) only [if_true, if_false, zid, zlid, if_pos, if_neg, u2_e, u2_c, u2_i, u1_e, u1_i, Option.bind_some]
          exact r6 w w0 w1
        · simp (disch := first | assumption | omega) only [if_true, if_false, zid, zlid, if_pos, if_neg, u2_e, u2_c, u2_i, u1_e, u1_i, Option.bind_some]
          exact r7 t t0 t1
        · show (u2 (u2 c2 a 4 (z_or (x : Int) (z_shl 1 (j : Int)))) (a + 18) j n1) (a + 18) i = u1 (K 10) ((j : Int)).toNat n1 i
          rw [u2_row, Int.toNat_natCast, u2_ne (by omega)]
          by_cases e : i = j
          · rw [e, u1_e, u1_e]
          · rw [u1_i e, u1_i e]
            exact r8 i hi
      · obtain ⟨u0, u3, u4, u5, u6⟩ := hD2
        refine ⟨by rw [u2_ne (show (758 : Nat) ≠ 760 by omega)]; exact u0, fun w w0 w1 => ?_, fun w k w0 w1 k0 k1 => ?_, fun t t0 t1 => ?_, fun i hi => ?_⟩
        · rw [u2_ne (show (762 : Nat) ≠ 760 by omega), u2_ne (show (769 : Nat) ≠ 760 by omega)]
          exact u3 w w0 w1
        · rw [u2_ne (show (764 : Nat) ≠ 760 by omega)]
          exact u4 w k w0 w1 k0 k1
        · rw [u2_ne (show (766 : Nat) ≠ 760 by omega), u2_ne (show (771 : Nat) ≠ 760 by omega)]
          exact u5 t t0 t1
        · show (u2 r2 760 j y) 760 i = u1 (K 10) ((j : Int)).toNat n1 i
          rw [u2_row, Int.toNat_natCast]
          by_cases e : i = j
          · rw [e, u1_e, u1_e, t5]
          · rw [u1_i e, u1_i e]
            exact u6 i hi
      · rw [u2_c (by omega), u2_e]
        exact ⟨b3.2.1, b3.2.2, rfl⟩
    · refine ⟨_, _, _, hc, hr, mc, mr, Or.inr ⟨q', ?_, ?_⟩⟩
      · obtain ⟨h1, h2, h3, h4, h5, h6⟩ := t1
        exact ⟨h1.frame (by rw [gc 2 (by omega)]) (gc 3 (by omega)) (u2_c (by omega)) (u2_ne (by omega)), by rw [gc 2 (by omega)]; exact h2, by rw [gc 2 (by omega)]; exact h3, by rw [gc 2 (by omega)]; exact h4, by rw [u2_c (by omega)]; exact h5, h6⟩
      · rw [u2_c (by omega), u2_i (by omega), hC2.n0, u2_c (by omega), hD2.1.1]
        omega
theorem wno_in {v : Int} : ∀ k, k ≤ 16 → z_wno v k = -1 ∨ (0 ≤ z_wno v k ∧ z_wno v k ≤ 15) := by
  intro k
  induction k with
  | zero => intro _; exact Or.inl rfl
  | succ k ih =>
    intro hk
    unfold z_wno
    split
    · right
      omega
    · exact ih (by omega)
theorem wno_0 : z_wno 0 16 = -1 := by decide
theorem R_79bad {k : Int} (h4 : r 758 4 = -1) (h5 : r 758 5 = q) (q0 : 0 ≤ q) : f_X12_readLine_79 met k 0 r = some (met, u2 r 758 4 q) := by
  have hne : (u2 r 758 4 q) 758 4 ≠ -1 := by
    rw [u2_e]
    omega
  unfold f_X12_readLine_79 f_X12_readLine_100
  rw [if_pos h4, if_pos rfl, R_fails h4, Option.bind_some, h5, if_neg hne]
set_option maxHeartbeats 1000000 in
/-- a line -/
theorem T_line (h : TA c r p) (hC : RC c a K) (hD : DR r K) (hW : WQ K) (ha : 3 < a) (hx : 0 ≤ c a 4 ∧ c a 4 < 64) (hm : met = 8 * c a 4) :
    ∃ c' r' met', f_X10_readLine a c = some c' ∧ f_X12_readLine met r = some (met', r') ∧ FM (SLC a) c c' ∧ FM SLR r r' ∧ LN c' r' a p (fun t => 0 ≤ t ∧ t < 64 ∧ met' = 8 * t) := by
  have hw := hW.1
  have hp0 := h.2.2.2.1
  obtain ⟨x, c1, r1, s, q, g1, g2, g3, g4, gq, g5⟩ := T_word h
  have hC1 := hC.fd (by omega) ha g3
  have hD1 := hD.fm g4
  have e4 : c1 a 4 = c a 4 := c0_sr g3 ha 4
  have hwn := wno_in (v := x) 16 (Nat.le_refl _)
  have hcl : f_X10_readLine a c = if z_wno x 16 = 0 then (f_X10_readCluster a c1).bind fun q21 => some q21 else (if z_wno x 16 = 1 then (f_X10_readPoint a c1).bind fun q18 => some q18 else (if z_wno x 16 = 2 then (f_X10_readTask a c1).bind fun q15 => some q15 else (if z_wno x 16 < 3 then f_X10_readLine_71 c1 else (if 9 ≤ z_wno x 16 then f_X10_readLine_71 c1 else (f_X10_readRule a (z_w (z_wno x 16 - 3)) c1).bind fun q12 => some q12)))) := by
    unfold f_X10_readLine f_X10_wordNumber
    rw [g1, Option.bind_some, Option.bind_some]
  rcases g5 with ⟨b1, b2, b3, b4, b5, b6⟩ | ⟨b1, b2⟩
  · have h4 : r1 758 4 = -1 := b1.2.2.2.2.2.2
    have q0 : 0 ≤ q := by omega
    have hrf : f_X12_readLine met r = f_X12_readLine_23 met (z_wno x 16) r1 := by
      unfold f_X12_readLine f_X12_known
      rw [g2, Option.bind_some, if_pos h4, Option.bind_some, b2]
    have h71 : f_X10_readLine_71 c1 = some (u2 c1 2 4 q) := by
      unfold f_X10_readLine_71
      rw [C_refusePart b1.2.2.2.2.2.1, Option.bind_some, b3]
    have bad : f_X10_readLine a c = some (u2 c1 2 4 q) → f_X12_readLine met r = some (met, u2 r1 758 4 q) → ∃ c' r' met', f_X10_readLine a c = some c' ∧ f_X12_readLine met r = some (met', r') ∧ FM (SLC a) c c' ∧ FM SLR r r' ∧ LN c' r' a p (fun t => 0 ≤ t ∧ t < 64 ∧ met' = 8 * t) := fun e1 e2 => by
      refine ⟨_, _, _, e1, e2, (SRD.lc g3).u (by unfold SLC SRD; omega), (SRE.lr g4).u (by unfold SLR SRE; omega), Or.inr ⟨q, b1.fails (c' := c1) (r' := r1) q0, ?_⟩⟩
      rw [u2_c (by omega), hC1.n0, u2_i (by omega), hD1.1.1]
      omega
    have good : ∀ {c' r' : Nat → Nat → Int}, LN c' r' a s (fun t => t = c1 a 4) → LN c' r' a p (fun t => 0 ≤ t ∧ t < 64 ∧ met = 8 * t) := fun hl => hl.mono (by omega) (fun v hv => by rw [hv, e4]; exact ⟨hx.1, hx.2, hm⟩)
    have h100 : ∀ k, f_X12_readLine_79 met k 1 r1 = f_X12_readLine_100 met k r1 := fun k => by
      unfold f_X12_readLine_79
      rw [if_pos h4, if_neg (show ¬ (1 : Int) = 0 by omega)]
    by_cases k0 : z_wno x 16 = 0
    · rw [if_pos k0] at hcl
      rw [k0] at hrf
      by_cases d : K 0 0 < 3
      · obtain ⟨c', r', m1, m2, m3, m4, m5⟩ := T_cluster b1 hC1 hD1 hW d ha
        refine ⟨c', r', met, by rw [hcl, m1, Option.bind_some], ?_, (SRD.lc g3).trans m3, (SRE.lr g4).trans m4, good m5⟩
        rw [hrf]
        unfold f_X12_readLine_23 f_X12_readLine_48 f_X12_readLine_61
        rw [R_isIn_y (by omega) (by omega), Option.bind_some, if_neg (show ¬ (1 : Int) = 0 by omega), if_pos rfl, hD1.1.1, if_neg (by omega), if_neg (by omega), if_pos (by omega), h100]
        unfold f_X12_readLine_100
        rw [if_pos h4, if_pos rfl, m2, Option.bind_some]
      · have hcc : f_X10_readCluster a c1 = some (u2 c1 2 4 q) := by
          unfold f_X10_readCluster
          rw [hC1.n0, if_neg d, C_refusePart b1.2.2.2.2.2.1, Option.bind_some, b3]
        refine bad (by rw [hcl, hcc, Option.bind_some]) ?_
        rw [hrf]
        unfold f_X12_readLine_23
        rw [R_isIn_y (by omega) (by omega), Option.bind_some, if_neg (show ¬ (1 : Int) = 0 by omega), if_pos rfl, hD1.1.1, if_pos (by omega), R_79bad h4 b4 q0]
    rw [if_neg k0] at hcl
    by_cases k1 : z_wno x 16 = 1
    · rw [if_pos k1] at hcl
      rw [k1] at hrf
      obtain ⟨c', r', m1, m2, m3, m4, m5⟩ := T_point b1 hC1 hD1 hW ha
      refine ⟨c', r', met, by rw [hcl, m1, Option.bind_some], ?_, (SRD.lc g3).trans m3, (SRE.lr g4).trans m4, good m5⟩
      rw [hrf]
      unfold f_X12_readLine_23 f_X12_readLine_48 f_X12_readLine_61
      rw [R_isIn_y (by omega) (by omega), Option.bind_some, if_neg (show ¬ (1 : Int) = 0 by omega), if_neg (by omega), if_neg (by omega), if_pos (by omega), h100]
      unfold f_X12_readLine_100
      rw [if_pos h4, if_neg (by omega), if_pos rfl, m2, Option.bind_some]
    rw [if_neg k1] at hcl
    by_cases k2 : z_wno x 16 = 2
    · rw [if_pos k2] at hcl
      rw [k2] at hrf
      by_cases d : K 0 1 < 4
      · obtain ⟨c', r', m1, m2, m3, m4, m5⟩ := T_task b1 hC1 hD1 hW d ha
        refine ⟨c', r', met, by rw [hcl, m1, Option.bind_some], ?_, (SRD.lc g3).trans m3, (SRE.lr g4).trans m4, good m5⟩
        rw [hrf]
        unfold f_X12_readLine_23 f_X12_readLine_48 f_X12_readLine_61
        rw [R_isIn_y (by omega) (by omega), Option.bind_some, if_neg (show ¬ (1 : Int) = 0 by omega), if_neg (by omega), if_pos rfl, hD1.1.2.1, if_neg (by omega), if_pos (by omega), h100]
        unfold f_X12_readLine_100
        rw [if_pos h4, if_neg (by omega), if_neg (by omega), if_pos rfl, m2, Option.bind_some]
      · have hcc : f_X10_readTask a c1 = some (u2 c1 2 4 q) := by
          unfold f_X10_readTask
          rw [hC1.n1, if_neg d, C_refusePart b1.2.2.2.2.2.1, Option.bind_some, b3]
        refine bad (by rw [hcl, hcc, Option.bind_some]) ?_
        rw [hrf]
        unfold f_X12_readLine_23 f_X12_readLine_48
        rw [R_isIn_y (by omega) (by omega), Option.bind_some, if_neg (show ¬ (1 : Int) = 0 by omega), if_neg (by omega), if_pos rfl, hD1.1.2.1, if_pos (by omega), R_79bad h4 b4 q0]
    rw [if_neg k2] at hcl
    by_cases k3 : z_wno x 16 < 3 ∨ 9 ≤ z_wno x 16
    · refine bad ?_ ?_
      · rw [hcl]
        by_cases d : z_wno x 16 < 3
        · rw [if_pos d, h71]
        · rw [if_neg d, if_pos (by omega), h71]
      · rw [hrf]
        unfold f_X12_readLine_23
        rw [R_isIn_n (by omega), Option.bind_some, if_pos rfl, R_79bad h4 b4 q0]
    · rw [if_neg (show ¬ z_wno x 16 < 3 by omega), if_neg (show ¬ 9 ≤ z_wno x 16 by omega), zid (x := z_wno x 16 - 3) (by omega) (by omega)] at hcl
      obtain ⟨c', r', met', m1, m2, m3, m4, m5⟩ := T_rule (i := z_wno x 16 - 3) (met := met) b1 hC1 hD1 hW ha (by omega) (by omega) b3 b4 q0 (by rw [e4]; exact hx) (by rw [e4]; exact hm)
      rw [show z_wno x 16 - 3 + 3 = z_wno x 16 from by omega] at m2
      refine ⟨c', r', met', by rw [hcl, m1, Option.bind_some], ?_, (SRD.lc g3).trans m3, (SRE.lr g4).trans m4, m5.mono (by omega) (fun v hv => hv)⟩
      rw [hrf]
      unfold f_X12_readLine_23 f_X12_readLine_48
      rw [R_isIn_y (by omega) (by omega), Option.bind_some, if_neg (show ¬ (1 : Int) = 0 by omega), if_neg k0, if_neg k2, m2]
  · have h4 : r1 758 4 ≠ -1 := by have := b1.2.2.2; omega
    rw [b2, wno_0, if_neg (by omega), if_neg (by omega), if_neg (by omega), if_pos (by omega)] at hcl
    unfold f_X10_readLine_71 at hcl
    rw [C_refusePartX (by have := b1.2.2.2; omega), Option.bind_some] at hcl
    refine ⟨c1, r1, met, hcl, ?_, SRD.lc g3, SRE.lr g4, Or.inr ⟨q, b1, ?_⟩⟩
    · unfold f_X12_readLine f_X12_readLine_23 f_X12_readLine_79 f_X12_readLine_100
      rw [g2, Option.bind_some, if_neg h4, R_isIn_n (by omega), Option.bind_some, if_pos rfl, if_neg h4, if_neg h4]
    · rw [hC1.n0, hD1.1.1]
      omega
end S_RU
