-- the calls that do, both sides, told or not
def SCA : Nat → Nat → Prop := fun c j => (c = 0 ∧ (j = 9 ∨ j = 18)) ∨ c = 2 ∨ (173 ≤ c ∧ c < 758) ∨ (c = 758 ∧ j ≠ 30) ∨ c = 768 ∨ 776 ≤ c
section S_GA
variable {σ σ' r K : Nat → Nat → Int} {H : Int → Nat → Int} {b b' v1 v2 v3 L LI n hi what x y z : Int} {a N st : Nat} {stp : Nat → Nat → QS} {len : Nat → Nat}
theorem BV.told (h : BV σ N stp len) (hP : PV σ' K L LI n H hi) (hK : WK K) (hN : KN K) (hL : L ≤ b') (hLI : LI ≤ b') (hf : FM SCA σ σ') (hT : TPR σ' σ') : GV σ' b' := by
  obtain ⟨h1, h2, h3, h4, h5, h6, h7, h8⟩ := h
  refine ⟨⟨N, stp, len, ?_, hT, h3.frame (hf 0 5 (by unfold SCA; omega)) (hf 758 30 (by unfold SCA; omega)) (fun c _ _ => funext fun j => hf c j (by unfold SCA; omega)) (fun c _ _ => funext fun j => hf c j (by unfold SCA; omega)), hP.1.2.2.2.2.1.2.2.2.1, hP.2.1.2.1.2.2.2.1, hP.2.1.2.2.2.1, hP.2.1.2.2.2.2, hP.2.2.2⟩, Or.inr ⟨K, L, LI, n, H, hi, hP, hK, hN, hL, hLI⟩⟩
  unfold GX
  rw [hf 0 2 (by unfold SCA; omega), hf 0 3 (by unfold SCA; omega)]
  exact h1
/-- untold: the counts of refusals go alike -/
theorem BV.unt (h : BV σ N stp len) (hU : UV σ) (hf : FM (fun c j => SCR (σ 0 2).toNat c j ∨ c = 757 ∨ c = 768 ∨ (c = 2 ∧ j = 1) ∨ (c = 758 ∧ j = 2)) σ σ') (hT : TPR σ' σ') (h8 : ∀ i : Nat, i < 4 → σ' 757 i = σ' 768 i) : GV σ' b := by
  obtain ⟨h1, h2, h3, h4, h5, h6, h7, _⟩ := h
  have ha := h1.cell.2.2
  have e0 : σ' 0 2 = σ 0 2 := hf 0 2 (by unfold SCR; omega)
  have ec : ∀ j, σ' (σ 0 2).toNat j = σ (σ 0 2).toNat j := fun j => hf _ j (by unfold SCR; omega)
  refine ⟨⟨N, stp, len, ?_, hT, h3.frame (hf 0 5 (by unfold SCR; omega)) (hf 758 30 (by unfold SCR; omega)) (fun c _ _ => funext fun j => hf c j (by unfold SCR; omega)) (fun c _ _ => funext fun j => hf c j (by unfold SCR; omega)), by rw [hf 220 1 (by unfold SCR; omega)]; exact h4, by rw [hf 758 35 (by unfold SCR; omega)]; exact h5, by rw [hf 758 38 (by unfold SCR; omega)]; exact h6, by rw [hf 758 39 (by unfold SCR; omega)]; exact h7, h8⟩, Or.inl ?_⟩
  · unfold GX
    rw [e0, hf 0 3 (by unfold SCR; omega)]
    exact h1
  · unfold UV
    rw [e0, ec, ec, ec, hf 173 3 (by unfold SCR; omega), hf 173 4 (by unfold SCR; omega), hf 220 2 (by unfold SCR; omega), hf 0 9 (by unfold SCR; omega), hf 758 21 (by unfold SCR; omega), hf 758 23 (by unfold SCR; omega), hf 758 36 (by unfold SCR; omega), hf 758 37 (by unfold SCR; omega), hf 776 44 (by unfold SCR; omega), hf 776 75 (by unfold SCR; omega)]
    exact hU
theorem U_isTold (h : UV σ) : f_X1_isTold (σ 0 2).toNat σ = some 0 := if_pos (by have := h.1.1; omega)
theorem U_hasCluster (h : UV σ) {v : Int} : f_X1_hasCluster (σ 0 2).toNat v σ = some 0 := by
  have := h.1.1
  unfold f_X1_hasCluster
  by_cases d : v < 0
  · rw [if_pos d]
  · rw [if_neg d, if_pos (by omega)]
theorem U_hasTask (h : UV σ) {v : Int} : f_X1_hasTask (σ 0 2).toNat v σ = some 0 := by
  have := h.1.2.1
  unfold f_X1_hasTask
  by_cases d : v < 0
  · rw [if_pos d]
  · rw [if_neg d, if_pos (by omega)]
theorem U_refusal (h : UV σ) (hw : 0 ≤ σ st 1 ∧ σ st 1 ≤ 6) : f_X0_refusalOf (σ 0 2).toNat 173 st σ = some (0, σ) := by
  have k : σ st 1 = 0 ∨ σ st 1 = 1 ∨ σ st 1 = 2 ∨ σ st 1 = 3 ∨ σ st 1 = 4 ∨ σ st 1 = 5 ∨ σ st 1 = 6 := by omega
  unfold f_X0_refusalOf f_X0_tickRefusal f_X0_moveRefusal f_X0_askRefusal f_X0_dropRefusal f_X0_stopRefusal f_X0_settleRefusal
  rw [U_isTold h, U_hasTask h, U_hasCluster h]
  rcases k with e | e | e | e | e | e | e <;> simp [e]
theorem U_doOr (hG : GX σ) (h : UV σ) (hw : 0 ≤ σ st 1 ∧ σ st 1 ≤ 6) : f_X11_doOrRefuse st σ = some (-1, u2 σ 757 0 (z_w (σ 757 0 + 1))) := by
  unfold f_X11_doOrRefuse
  rw [if_pos hG.cell.1, U_refusal h hw, Option.bind_some]
  rfl
theorem U_act {s : Nat → Nat → Int} (h : s 758 21 = 0) : f_X12_act what x y z s = some (-1, u2 (u2 s 758 0 0) 768 0 (z_w (s 768 0 + 1))) := by
  unfold f_X12_act f_X12_tries f_X12_stops
  rw [if_pos (show (u2 s 758 0 0) 758 21 = 0 by rw [u2_i (by omega)]; exact h)]
  rfl
/-- an act untold -/
theorem U_put (h : BV σ N stp len) (hU : UV σ) (hw : 0 ≤ what ∧ what ≤ 6) : ∃ r σ1 σ2, ((f_X8_put 755 what x y z 0 σ).bind fun q1 => (f_X11_doOrRefuse 755 q1).bind fun q4 => some (q4.1, q4.2)) = some (r, σ1) ∧ (∀ u v w t : Int, ((f_X12_act u v w t σ1).bind fun q1 => some (q1.1, q1.2)) = some (r, σ2)) ∧ GV σ2 b := by
  have hG := h.1
  have hp : f_X8_put 755 what x y z 0 σ = some (u2 (u2 (u2 (u2 (u2 σ 755 1 what) (755 + 1) 0 x) (755 + 1) 1 y) (755 + 1) 2 z) 755 2 0) := rfl
  have m0 : FM (SCR (σ 0 2).toNat) σ (u2 (u2 (u2 (u2 (u2 σ 755 1 what) (755 + 1) 0 x) (755 + 1) 1 y) (755 + 1) 2 z) 755 2 0) := ((((FM.refl.u (by unfold SCR; omega)).u (by unfold SCR; omega)).u (by unfold SCR; omega)).u (by unfold SCR; omega)).u (by unfold SCR; omega)
  have e1 : (u2 (u2 (u2 (u2 (u2 σ 755 1 what) (755 + 1) 0 x) (755 + 1) 1 y) (755 + 1) 2 z) 755 2 0) 755 1 = what := by rw [u2_i (by omega), u2_c (by omega), u2_c (by omega), u2_c (by omega), u2_e]
  rw [hp, Option.bind_some]
  generalize u2 (u2 (u2 (u2 (u2 σ 755 1 what) (755 + 1) 0 x) (755 + 1) 1 y) (755 + 1) 2 z) 755 2 0 = c0 at *
  have hU0 := hU.keep hG m0
  have hB0 := h.keep m0
  have e02 : c0 0 2 = σ 0 2 := m0 0 2 (by unfold SCR; have := hG.cell.2.2; omega)
  refine ⟨-1, u2 c0 757 0 (z_w (c0 757 0 + 1)), u2 (u2 (u2 c0 757 0 (z_w (c0 757 0 + 1))) 758 0 0) 768 0 (z_w (c0 768 0 + 1)), ?_, fun u v w t => ?_, hB0.unt hU0 (((FM.refl.u (Or.inr (Or.inl rfl))).u (Or.inl (by unfold SCR; omega))).u (Or.inr (Or.inr (Or.inl rfl)))) (hB0.2.1.frame ?_ ?_ ?_ ?_) (fun i hi' => ?_)⟩
  · rw [U_doOr hB0.1 hU0 (by omega), Option.bind_some]
  · rw [U_act (by rw [u2_c (by omega)]; exact hU0.2.2.1), Option.bind_some, u2_c (show (768 : Nat) ≠ 757 by omega)]
  · rw [u2_c (by omega), u2_c (by omega), u2_c (by omega)]
  · rw [u2_ne (by omega), u2_ne (by omega), u2_ne (by omega)]
  · rw [u2_c (by omega), u2_i (by omega), u2_c (by omega)]
  · rw [u2_ne (by omega), u2_ne (by omega), u2_ne (by omega)]
  · have q := hB0.2.2.2.2.2.2.2
    rw [u2_c (show (757 : Nat) ≠ 768 by omega), u2_c (show (757 : Nat) ≠ 758 by omega)]
    by_cases e : i = 0
    · rw [e, u2_e, u2_e, q 0 (by omega)]
    · rw [u2_i e, u2_i e, u2_c (by omega), u2_c (by omega)]
      exact q i hi'
theorem G_tick (h : GV σ b) (hx : -2147483648 ≤ v1 ∧ v1 < 2147483648) (hb : b < 2147483000) : ∃ r σ1 σ2, f_X11_tick v1 σ = some (r, σ1) ∧ f_X12_tick v1 σ1 = some (r, σ2) ∧ GV σ2 (b + 40) := by
  obtain ⟨⟨N, stp, len, hB⟩, hU | ⟨K, L, LI, n, H, hi, hP, hK, hN, hL, hLI⟩⟩ := h
  · obtain ⟨r, σ1, σ2, g1, g2, g3⟩ := U_put (b := b + 40) (what := 0) (x := v1) (y := 0) (z := 0) hB hU (by omega)
    exact ⟨r, σ1, σ2, g1, g2 _ _ _ _, g3⟩
  · obtain ⟨r, σ1, σ2, L', n', H', g1, g2, g3, g4, g5, g6⟩ := P_tick (v1 := v1) hP hK hx (by omega)
    exact ⟨r, σ1, σ2, g1, g2, hB.told g3 hK hN (by omega) (by omega) ((g5.mono (fun c j q => by unfold SU SJ2 SJ at q; unfold SCA; omega)).trans (g6.mono (fun c j q => by unfold SYA SYR at q; unfold SCA; omega))) (hB.2.1.frame ((g6 2 1 (by unfold SYA SYR; omega)).trans (g5 2 1 (by unfold SU SJ2 SJ; omega))) (funext fun j => (g6 3 j (by unfold SYA SYR; omega)).trans (g5 3 j (by unfold SU SJ2 SJ; omega))) ((g6 758 2 (by unfold SYA SYR; omega)).trans (g5 758 2 (by unfold SU SJ2 SJ; omega))) (funext fun j => (g6 759 j (by unfold SYA SYR; omega)).trans (g5 759 j (by unfold SU SJ2 SJ; omega))))⟩
end S_GA
