-- an asker read off the tape, both sides, one memory each
section S_AK
variable {c r : Nat → Nat → Int} {p q : Int}
theorem C_semi_at {c1 : Nat → Nat → Int} {l : Int} (g : f_X9_goToNextPart c = some c1) (h1 : c1 2 1 = l) (h2 : c1 2 2 = q) : f_X9_readSemicolon c = if q < l then (if 0 ≤ q ∧ q < 320 then if c1 3 q.toNat = 59 then some (1, u2 c1 2 2 (z_w (q + 1))) else (f_X9_refusePart c1).bind fun q12 => some (0, q12) else none) else some (0, c1) := by
  unfold f_X9_readSemicolon
  rw [g, Option.bind_some, h1, h2]
theorem R_asker_at {r1 r2 : Nat → Nat → Int} {x : Int} (hw : f_X12_word r = some r1) (h4 : r1 758 4 = -1) (hl : f_X12_look r1 = some (x, r2)) : f_X12_readAsker r = if x = -1 then some r2 else (f_X12_fails (r2 758 3) r2).bind fun q11 => some q11 := by
  unfold f_X12_readAsker
  rw [hw, Option.bind_some, if_pos h4, hl, Option.bind_some]
theorem look6 : ∀ (k : Nat) (r : Nat → Nat → Int) (x : Int) (r' : Nat → Nat → Int), f_X12_look_0 k r = some (x, r') → r' 758 6 = r 758 6 := by
  intro k
  induction k with
  | zero => intro r x r' h; cases h
  | succ k ih =>
    intro r x r' h
    rw [f_X12_look_0] at h
    obtain ⟨q1, e1, h⟩ := z_bd h
    by_cases d : q1 = 32
    · rw [if_pos d] at h
      rw [ih _ _ _ h, u2_i (by omega)]
    · rw [if_neg d] at h
      obtain ⟨q5, e5, h⟩ := z_bd h
      rw [(Prod.mk.inj (Option.some.inj h)).2]
theorem TA.begin (h : TPR c r) : TA (u2 (u2 (u2 c 2 2 0) 2 3 0) 2 4 (-1)) (u2 (u2 r 758 3 0) 758 4 (-1)) 0 := by
  refine ⟨h.fm (((FM.refl.u (by unfold SRD; omega)).u (by unfold SRD; omega)).u (by unfold SRD; omega)) ((FM.refl.u (by unfold SRE; omega)).u (by unfold SRE; omega)), ?_, ?_, Int.le_refl 0, ?_, u2_e, u2_e⟩
  · rw [u2_i (by omega), u2_i (by omega), u2_e]
  · rw [u2_i (by omega), u2_e]
  · rw [u2_i (by omega), u2_i (by omega)]
    exact h.2.1
set_option maxHeartbeats 1000000 in
theorem T_asker (h : TPR c r) : ∃ who c' r', f_X10_readAsker c = some (who, c') ∧ f_X12_readAsker (u2 (u2 r 758 3 0) 758 4 (-1)) = some r' ∧ FM SRD c c' ∧ FM SRE r r' ∧ TPR c' r' ∧ c' 2 4 = r' 758 4 ∧ ((r' 758 4 = -1 ∧ who = r' 758 6 ∧ 0 < who ∧ who < 4611686018427387904 ∧ NB who) ∨ (r' 758 4 ≠ -1 ∧ who = 0)) := by
  have hb := TA.begin h
  have hm1 : FM SRD c (u2 (u2 (u2 c 2 2 0) 2 3 0) 2 4 (-1)) := ((FM.refl.u (by unfold SRD; omega)).u (by unfold SRD; omega)).u (by unfold SRD; omega)
  have hm2 : FM SRE r (u2 (u2 r 758 3 0) 758 4 (-1)) := (FM.refl.u (by unfold SRE; omega)).u (by unfold SRE; omega)
  have hcw : f_X9_rewind c = some (u2 (u2 (u2 c 2 2 0) 2 3 0) 2 4 (-1)) := rfl
  generalize u2 (u2 (u2 c 2 2 0) 2 3 0) 2 4 (-1) = c0 at *
  generalize u2 (u2 r 758 3 0) 758 4 (-1) = r0 at *
  obtain ⟨x, c1, r1, s, q, g1, g2, g3, g4, g5, g6⟩ := T_word hb
  have hcl : f_X10_readAsker c = (f_X9_isSound c1).bind fun q7 => if q7 = 0 then f_X10_readAsker_42 x c1 else (f_X9_readSemicolon c1).bind fun q11 => if q11.1 = 0 then f_X10_readAsker_42 x q11.2 else (f_X9_refusePart q11.2).bind fun q15 => f_X10_readAsker_42 x q15 := by
    unfold f_X10_readAsker
    rw [hcw, Option.bind_some, g1, Option.bind_some]
  have h42a : ∀ (c2 : Nat → Nat → Int), c2 2 4 = -1 → f_X10_readAsker_42 x c2 = some (x, c2) := fun c2 e => by
    unfold f_X10_readAsker_42 f_X9_isSound
    rw [if_pos e, Option.bind_some, if_neg (show ¬ (1 : Int) = 0 by omega)]
  have h42b : ∀ (c2 : Nat → Nat → Int), c2 2 4 ≠ -1 → f_X10_readAsker_42 x c2 = some (0, c2) := fun c2 e => by
    unfold f_X10_readAsker_42 f_X9_isSound
    rw [if_neg e, Option.bind_some, if_pos rfl]
  rcases g6 with ⟨a1, a2, a3, a4, a5, k, a6, a7, a8⟩ | ⟨a1, a2⟩
  · rw [a1.sound, Option.bind_some, if_neg (show ¬ (1 : Int) = 0 by omega)] at hcl
    obtain ⟨q2, c2, r2, b1, b2, b3, b4, b5, b6, b7, b8⟩ := T_go a1
    have b5' := b5
    obtain ⟨h1, h2, h3, h4, h5, h6, h7⟩ := b5
    have hl := h1.2.2.1
    have e2 : r2 758 2 = r1 758 2 := b8 758 2 (by unfold SRE; omega)
    have ehv : hv c1 r1 q2 = hv c2 r2 q2 := by
      unfold hv
      rw [e2, (funext fun j => b7 3 j (by unfold SRD; omega) : c2 3 = c1 3)]
    have hre := R_asker_at g2 a1.2.2.2.2.2.2 b2
    rw [ehv] at hre
    have hv1 := hv_in h1 h4
    have hsm := C_semi_at b1 h1.1 h2
    have hw1 := a8.in
    have hw2 := a8.lt a7
    by_cases d : r2 758 2 ≤ q2
    · rw [if_neg (show ¬ q2 < r2 758 2 by omega)] at hsm
      rw [if_pos (hv1.2.2.1.mpr d)] at hre
      rw [hsm, Option.bind_some] at hcl
      dsimp only at hcl
      rw [if_pos rfl, h42a c2 h6] at hcl
      have e6 : r2 758 6 = r1 758 6 := look6 100000 r1 _ r2 b2
      exact ⟨x, c2, r2, hcl, hre, (hm1.trans g3).trans b7, (hm2.trans g4).trans b8, h1, h6.trans h7.symm, Or.inl ⟨h7, by rw [e6, a2], by omega, by omega, a8.nb a7⟩⟩
    · have e := hv1.2.2.2 d
      rw [if_pos (show q2 < r2 758 2 by omega), if_pos (show 0 ≤ q2 ∧ q2 < 320 by omega)] at hsm
      rw [if_neg (show ¬ hv c2 r2 q2 = -1 by omega), R_fails h7, Option.bind_some, h3] at hre
      have hTX := b5'.fails (c' := c2) (r' := r2) h4
      by_cases d2 : c2 3 q2.toNat = 59
      · rw [if_pos d2, zid (x := q2 + 1) (by omega) (by omega)] at hsm
        rw [hsm, Option.bind_some] at hcl
        dsimp only at hcl
        rw [if_neg (show ¬ (1 : Int) = 0 by omega), C_refusePart ((u2_i (by omega)).trans h6), Option.bind_some, u2_i (show (3 : Nat) ≠ 2 by omega), b6] at hcl
        have en : (u2 (u2 c2 2 2 (q2 + 1)) 2 4 q2) 2 4 ≠ -1 := by
          rw [u2_e]
          omega
        rw [h42b _ en] at hcl
        have hmm : FM SRD c2 (u2 (u2 c2 2 2 (q2 + 1)) 2 4 q2) := (FM.refl.u (by unfold SRD; omega)).u (by unfold SRD; omega)
        have hmr : FM SRE r2 (u2 r2 758 4 q2) := FM.refl.u (by unfold SRE; omega)
        exact ⟨0, _, _, hcl, hre, ((hm1.trans g3).trans b7).trans hmm, ((hm2.trans g4).trans b8).trans hmr, h1.fm hmm hmr, by rw [u2_e, u2_e], Or.inr ⟨by rw [u2_e]; omega, rfl⟩⟩
      · rw [if_neg d2, C_refusePart h6, Option.bind_some, b6] at hsm
        rw [hsm, Option.bind_some] at hcl
        dsimp only at hcl
        have en : (u2 c2 2 4 q2) 2 4 ≠ -1 := by
          rw [u2_e]
          omega
        rw [if_pos rfl, h42b _ en] at hcl
        have hmm : FM SRD c2 (u2 c2 2 4 q2) := FM.refl.u (by unfold SRD; omega)
        have hmr : FM SRE r2 (u2 r2 758 4 q2) := FM.refl.u (by unfold SRE; omega)
        exact ⟨0, _, _, hcl, hre, ((hm1.trans g3).trans b7).trans hmm, ((hm2.trans g4).trans b8).trans hmr, h1.fm hmm hmr, by rw [u2_e, u2_e], Or.inr ⟨by rw [u2_e]; omega, rfl⟩⟩
  · have a1' := a1
    obtain ⟨h1, h2, h3, h4, h5, h6⟩ := a1
    rw [a1'.sound, Option.bind_some, if_pos rfl, h42b _ (by omega)] at hcl
    refine ⟨0, c1, r1, hcl, ?_, hm1.trans g3, hm2.trans g4, h1, by omega, Or.inr ⟨by omega, rfl⟩⟩
    unfold f_X12_readAsker
    rw [g2, Option.bind_some, if_neg (by omega)]
end S_AK
