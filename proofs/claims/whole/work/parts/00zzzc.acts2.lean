-- the other calls that do, both sides, told or not
def SCB : Nat → Nat → Prop := fun c j => (c = 0 ∧ (j = 9 ∨ j = 18)) ∨ (173 ≤ c ∧ c < 758) ∨ (c = 758 ∧ j ≠ 30 ∧ j ≠ 2) ∨ c = 768 ∨ 776 ≤ c
section S_GB
variable {σ σ' r K : Nat → Nat → Int} {H : Int → Nat → Int} {b b' v1 v2 v3 L LI n hi what x y z : Int} {a N st : Nat} {stp : Nat → Nat → QS} {len : Nat → Nat}
theorem BV.told2 (h : BV σ N stp len) (hP : PV σ' K L LI n H hi) (hK : WK K) (hN : KN K) (hL : L ≤ b') (hLI : LI ≤ b') (hf : FM SCB σ σ') : GV σ' b' :=
  h.told hP hK hN hL hLI (hf.mono (fun c j q => by unfold SCB at q; unfold SCA; omega)) (h.2.1.frame (hf 2 1 (by unfold SCB; omega)) (funext fun j => hf 3 j (by unfold SCB; omega)) (hf 758 2 (by unfold SCB; omega)) (funext fun j => hf 759 j (by unfold SCB; omega)))
theorem SU.cb : ∀ c j, SU c j → SCB c j := fun c j q => by unfold SU SJ2 SJ at q; unfold SCB; omega
theorem SYA.cb : ∀ c j, SYA c j → SCB c j := fun c j q => by unfold SYA SYR at q; unfold SCB; omega
theorem G_move (h : GV σ b) (hx : -2147483648 ≤ v1 ∧ v1 < 2147483648) (hb : b < 2147483000) : ∃ r σ1 σ2, f_X11_move v1 v2 σ = some (r, σ1) ∧ f_X12_move v1 v2 σ1 = some (r, σ2) ∧ GV σ2 (b + 40) := by
  obtain ⟨⟨N, stp, len, hB⟩, hU | ⟨K, L, LI, n, H, hi, hP, hK, hN, hL, hLI⟩⟩ := h
  · obtain ⟨r, σ1, σ2, g1, g2, g3⟩ := U_put (b := b + 40) (what := 1) (x := v1) (y := v2) (z := 0) hB hU (by omega)
    exact ⟨r, σ1, σ2, g1, g2 _ _ _ _, g3⟩
  · obtain ⟨r, σ1, σ2, L', n', H', g1, g2, g3, g4, g5, g6⟩ := P_move (v1 := v1) (v2 := v2) hP hK hx (by omega)
    exact ⟨r, σ1, σ2, g1, g2, hB.told2 g3 hK hN (by omega) (by omega) ((g5.mono SU.cb).trans (g6.mono SYA.cb))⟩
theorem G_stop (h : GV σ b) (hx : -2147483648 ≤ v1 ∧ v1 < 2147483648) (hb : b < 2147483000) : ∃ r σ1 σ2, f_X11_stop v1 σ = some (r, σ1) ∧ f_X12_stop v1 σ1 = some (r, σ2) ∧ GV σ2 (b + 40) := by
  obtain ⟨⟨N, stp, len, hB⟩, hU | ⟨K, L, LI, n, H, hi, hP, hK, hN, hL, hLI⟩⟩ := h
  · obtain ⟨r, σ1, σ2, g1, g2, g3⟩ := U_put (b := b + 40) (what := 4) (x := v1) (y := 0) (z := 0) hB hU (by omega)
    exact ⟨r, σ1, σ2, g1, g2 _ _ _ _, g3⟩
  · obtain ⟨r, σ1, σ2, L', n', H', g1, g2, g3, g4, g5, g6⟩ := P_stop (v1 := v1) hP hK hx (by omega)
    exact ⟨r, σ1, σ2, g1, g2, hB.told2 g3 hK hN (by omega) (by omega) ((g5.mono SU.cb).trans (g6.mono SYA.cb))⟩
theorem G_start (h : GV σ b) (hx : -2147483648 ≤ v1 ∧ v1 < 2147483648) (hb : b < 2147483000) : ∃ r σ1 σ2, f_X11_start v1 σ = some (r, σ1) ∧ f_X12_start v1 σ1 = some (r, σ2) ∧ GV σ2 (b + 40) := by
  obtain ⟨⟨N, stp, len, hB⟩, hU | ⟨K, L, LI, n, H, hi, hP, hK, hN, hL, hLI⟩⟩ := h
  · obtain ⟨r, σ1, σ2, g1, g2, g3⟩ := U_put (b := b + 40) (what := 5) (x := v1) (y := 0) (z := 0) hB hU (by omega)
    exact ⟨r, σ1, σ2, g1, g2 _ _ _ _, g3⟩
  · obtain ⟨r, σ1, σ2, L', n', H', g1, g2, g3, g4, g5, g6⟩ := P_start (v1 := v1) hP hK hx (by omega)
    exact ⟨r, σ1, σ2, g1, g2, hB.told2 g3 hK hN (by omega) (by omega) ((g5.mono SU.cb).trans (g6.mono SYA.cb))⟩
theorem G_settle (h : GV σ b) (hb : b < 2147483000) : ∃ r σ1 σ2, f_X11_settle σ = some (r, σ1) ∧ f_X12_settle σ1 = some (r, σ2) ∧ GV σ2 (b + 40) := by
  obtain ⟨⟨N, stp, len, hB⟩, hU | ⟨K, L, LI, n, H, hi, hP, hK, hN, hL, hLI⟩⟩ := h
  · obtain ⟨r, σ1, σ2, g1, g2, g3⟩ := U_put (b := b + 40) (what := 6) (x := 0) (y := 0) (z := 0) hB hU (by omega)
    exact ⟨r, σ1, σ2, g1, g2 _ _ _ _, g3⟩
  · obtain ⟨r, σ1, σ2, L', n', H', g1, g2, g3, g4, g5, g6⟩ := P_settle hP hK (by omega)
    exact ⟨r, σ1, σ2, g1, g2, hB.told2 g3 hK hN (by omega) (by omega) ((g5.mono SU.cb).trans (g6.mono SYA.cb))⟩
/-- an asker's act untold -/
theorem U_by (h : BV σ N stp len) (hU : UV σ) (hw : 0 ≤ what ∧ what ≤ 6) : ∃ σ1 σ2, ((f_X10_readAsker σ).bind fun q1 => (f_X8_put 755 what x y z q1.1 q1.2).bind fun q4 => (f_X11_doOrRefuseAsker 755 q4).bind fun q7 => some (q7.1, q7.2)) = some (-1, σ1) ∧ (∀ u v w t : Int, ((f_X12_actBy u v w t σ1).bind fun q1 => some (q1.1, q1.2)) = some (-1, σ2)) ∧ GV σ2 b := by
  have hG := h.1
  obtain ⟨who, c', _, g1, _, g3, _⟩ := T_asker h.2.1
  have hp : f_X8_put 755 what x y z who c' = some (u2 (u2 (u2 (u2 (u2 c' 755 1 what) (755 + 1) 0 x) (755 + 1) 1 y) (755 + 1) 2 z) 755 2 who) := rfl
  have m0 : FM (SCR (σ 0 2).toNat) σ (u2 (u2 (u2 (u2 (u2 c' 755 1 what) (755 + 1) 0 x) (755 + 1) 1 y) (755 + 1) 2 z) 755 2 who) := (((((g3.mono (fun c j q => by unfold SRD at q; unfold SCR; omega)).u (by unfold SCR; omega)).u (by unfold SCR; omega)).u (by unfold SCR; omega)).u (by unfold SCR; omega)).u (by unfold SCR; omega)
  have e1 : (u2 (u2 (u2 (u2 (u2 c' 755 1 what) (755 + 1) 0 x) (755 + 1) 1 y) (755 + 1) 2 z) 755 2 who) 755 1 = what := by rw [u2_i (by omega), u2_c (by omega), u2_c (by omega), u2_c (by omega), u2_e]
  rw [g1, Option.bind_some, hp, Option.bind_some]
  generalize u2 (u2 (u2 (u2 (u2 c' 755 1 what) (755 + 1) 0 x) (755 + 1) 1 y) (755 + 1) 2 z) 755 2 who = c0 at *
  have hU0 := hU.keep hG m0
  have hB0 := h.keep m0
  refine ⟨u2 c0 757 0 (z_w (c0 757 0 + 1)), u2 (u2 (u2 (u2 c0 757 0 (z_w (c0 757 0 + 1))) 758 0 0) 758 41 (c0 758 6)) 768 0 (z_w (c0 768 0 + 1)), ?_, fun u v w t => ?_, hB0.unt hU0 ((((FM.refl.u (Or.inr (Or.inl rfl))).u (Or.inl (by unfold SCR; omega))).u (Or.inl (by unfold SCR; omega))).u (Or.inr (Or.inr (Or.inl rfl)))) (hB0.2.1.frame ?_ ?_ ?_ ?_) (fun i hi' => ?_)⟩
  · unfold f_X11_doOrRefuseAsker
    rw [U_doOr hB0.1 hU0 (by omega), Option.bind_some]
    rfl
  · have e21 : (u2 (u2 c0 757 0 (z_w (c0 757 0 + 1))) 758 0 0) 758 21 = 0 := by rw [u2_i (by omega), u2_c (by omega)]; exact hU0.2.2.1
    have hc : f_X12_isCluster v (u2 (u2 c0 757 0 (z_w (c0 757 0 + 1))) 758 0 0) = some 0 := by
      unfold f_X12_isCluster
      by_cases d : v < 0
      · rw [if_pos d]
      · rw [if_neg d, if_pos (by omega)]
    unfold f_X12_actBy
    rw [hc, Option.bind_some, if_pos rfl]
    unfold f_X12_actBy_31 f_X12_actBy_58
    rw [if_neg (show ¬ (0 : Int) = -1 by omega), if_neg (show ¬ (0 : Int) = -1 by omega), if_pos (by omega), if_pos (by omega), Option.bind_some]
    rw [u2_c (show (768 : Nat) ≠ 758 by omega), u2_c (show (768 : Nat) ≠ 758 by omega), u2_c (show (768 : Nat) ≠ 757 by omega), u2_i (show (6 : Nat) ≠ 0 by omega), u2_c (show (758 : Nat) ≠ 757 by omega)]
    rfl
  · rw [u2_c (by omega), u2_c (by omega), u2_c (by omega), u2_c (by omega)]
  · rw [u2_ne (by omega), u2_ne (by omega), u2_ne (by omega), u2_ne (by omega)]
  · rw [u2_c (by omega), u2_i (by omega), u2_i (by omega), u2_c (by omega)]
  · rw [u2_ne (by omega), u2_ne (by omega), u2_ne (by omega), u2_ne (by omega)]
  · have q := hB0.2.2.2.2.2.2.2
    rw [u2_c (show (757 : Nat) ≠ 768 by omega), u2_c (show (757 : Nat) ≠ 758 by omega), u2_c (show (757 : Nat) ≠ 758 by omega)]
    by_cases e : i = 0
    · rw [e, u2_e, u2_e, q 0 (by omega)]
    · rw [u2_i e, u2_i e, u2_c (by omega), u2_c (by omega), u2_c (by omega)]
      exact q i hi'
theorem SBC.ca : ∀ c j, SBC c j → SCA c j := fun c j q => by unfold SBC SU SJ2 SJ SRD at q; unfold SCA; omega
theorem SBD.ca : ∀ c j, SBD c j → SCA c j := fun c j q => by unfold SBD SYA SYR SRE at q; unfold SCA; omega
theorem G_ask (h : GV σ b) (hx : -2147483648 ≤ v1 ∧ v1 < 2147483648) (hb : b < 2147483000) : ∃ r σ1 σ2, f_X11_ask v1 v2 v3 σ = some (r, σ1) ∧ f_X12_ask v1 v2 v3 σ1 = some (r, σ2) ∧ GV σ2 (b + 40) := by
  obtain ⟨⟨N, stp, len, hB⟩, hU | ⟨K, L, LI, n, H, hi, hP, hK, hN, hL, hLI⟩⟩ := h
  · obtain ⟨σ1, σ2, g1, g2, g3⟩ := U_by (b := b + 40) (what := 2) (x := v1) (y := v2) (z := v3) hB hU (by omega)
    exact ⟨-1, σ1, σ2, by rw [f_X11_ask_e]; exact g1, g2 _ _ _ _, g3⟩
  · obtain ⟨r, σ1, σ2, L', n', H', g1, g2, g3, g4, g4', g5, g6⟩ := P_ask (v1 := v1) (v2 := v2) (v3 := v3) hP hK hB.2.1 hx (by omega)
    exact ⟨r, σ1, σ2, g1, g2, hB.told g3 hK hN (by omega) (by omega) ((g5.mono SBC.ca).trans (g6.mono SBD.ca)) g4'⟩
theorem G_drop (h : GV σ b) (hx : -2147483648 ≤ v1 ∧ v1 < 2147483648) (hb : b < 2147483000) : ∃ r σ1 σ2, f_X11_drop v1 σ = some (r, σ1) ∧ f_X12_drop v1 σ1 = some (r, σ2) ∧ GV σ2 (b + 40) := by
  obtain ⟨⟨N, stp, len, hB⟩, hU | ⟨K, L, LI, n, H, hi, hP, hK, hN, hL, hLI⟩⟩ := h
  · obtain ⟨σ1, σ2, g1, g2, g3⟩ := U_by (b := b + 40) (what := 3) (x := v1) (y := 0) (z := 0) hB hU (by omega)
    exact ⟨-1, σ1, σ2, by rw [f_X11_drop_e]; exact g1, g2 _ _ _ _, g3⟩
  · obtain ⟨r, σ1, σ2, L', n', H', g1, g2, g3, g4, g4', g5, g6⟩ := P_drop (v1 := v1) hP hK hB.2.1 hx (by omega)
    exact ⟨r, σ1, σ2, g1, g2, hB.told g3 hK hN (by omega) (by omega) ((g5.mono SBC.ca).trans (g6.mono SBD.ca)) g4'⟩
/-- nothing done -/
theorem G_still {A : Option (Int × (Nat → Nat → Int))} {B : (Nat → Nat → Int) → Option (Int × (Nat → Nat → Int))} {r : Int} (h : GV σ b) (h1 : A = some (r, σ)) (h2 : B σ = some (r, u2 σ 758 0 0)) : ∃ r σ1 σ2, A = some (r, σ1) ∧ B σ1 = some (r, σ2) ∧ GV σ2 b := ⟨r, σ, u2 σ 758 0 0, h1, h2, h.keep (FM.refl.u (by unfold SCR; omega))⟩
theorem U_ref21 (h : UV σ) : (u2 σ 758 0 0) 758 21 = 0 := by
  rw [u2_i (by omega)]
  exact h.2.2.1
theorem G_years (h : GV σ b) (hb : b < 2147483000) : ∃ r σ1 σ2, f_X11_years v1 v2 σ = some (r, σ1) ∧ f_X12_years v1 v2 σ1 = some (r, σ2) ∧ GV σ2 (b + 40) := by
  have h' := h.mono (b' := b + 40) (by omega)
  obtain ⟨⟨N, stp, len, hB⟩, hU | ⟨K, L, LI, n, H, hi, hP, hK, hN, hL, hLI⟩⟩ := h
  · refine G_still (r := -1) h' ?_ ?_
    · unfold f_X11_years
      rw [if_pos hB.1.cell.1, U_isTold hU, Option.bind_some, if_pos rfl]
    · unfold f_X12_years
      rw [if_pos (U_ref21 hU)]
  · obtain ⟨r, σ1, σ2, L', n', H', g1, g2, g3, g4, g5, g6⟩ := P_years (v1 := v1) (v2 := v2) hP hK (by omega)
    exact ⟨r, σ1, σ2, g1, g2, hB.told2 g3 hK hN (by omega) (by omega) ((g5.mono (fun c j q => by unfold SYC SJ at q; unfold SCB; omega)).trans (g6.mono (fun c j q => by unfold SYD SYR at q; unfold SCB; omega)))⟩
theorem G_undo (h : GV σ b) : ∃ r σ1 σ2, f_X11_undo σ = some (r, σ1) ∧ f_X12_undo σ1 = some (r, σ2) ∧ GV σ2 b := by
  have h' := h
  obtain ⟨⟨N, stp, len, hB⟩, hU | ⟨K, L, LI, n, H, hi, hP, hK, hN, hL, hLI⟩⟩ := h
  · refine G_still (r := -1) h' ?_ ?_
    · unfold f_X11_undo f_X3_giveBack
      rw [if_pos hU.2.1.2.2.1, Option.bind_some, if_pos rfl]
    · unfold f_X12_undo
      rw [if_pos (show (u2 σ 758 0 0) 758 36 = 0 by rw [u2_i (by omega)]; exact hU.2.2.2.2.1)]
  · obtain ⟨r, σ1, σ2, L', n', H', g1, g2, g3, g4, g5, g6⟩ := P_undo hP hK
    exact ⟨r, σ1, σ2, g1, g2, hB.told2 g3 hK hN (by omega) (by omega) ((g5.mono (fun c j q => by unfold SUN at q; unfold SCB; omega)).trans (g6.mono (fun c j q => by unfold SUR at q; unfold SCB; omega)))⟩
theorem G_image (h : GV σ b) : ∃ r σ1 σ2, f_X11_image σ = some (r, σ1) ∧ f_X12_image σ1 = some (r, σ2) ∧ GV σ2 b := by
  have h' := h
  obtain ⟨⟨N, stp, len, hB⟩, hU | ⟨K, L, LI, n, H, hi, hP, hK, hN, hL, hLI⟩⟩ := h
  · refine G_still (r := -1) h' ?_ ?_
    · unfold f_X11_image
      rw [if_pos hB.1.cell.1, U_isTold hU, Option.bind_some, if_pos rfl]
    · unfold f_X12_image
      rw [if_pos (U_ref21 hU)]
  · obtain ⟨r, σ1, σ2, g1, g2, g3, g5, g6⟩ := P_image hP hK
    exact ⟨r, σ1, σ2, g1, g2, hB.told2 g3 hK hN (by omega) (by omega) ((g5.mono (fun c j q => by unfold SIM at q; unfold SCB; omega)).trans (g6.mono (fun c j q => by unfold SIR at q; unfold SCB; omega)))⟩
theorem G_back (h : GV σ b) : ∃ r σ1 σ2, f_X11_back σ = some (r, σ1) ∧ f_X12_back σ1 = some (r, σ2) ∧ GV σ2 b := by
  have h' := h
  obtain ⟨⟨N, stp, len, hB⟩, hU | ⟨K, L, LI, n, H, hi, hP, hK, hN, hL, hLI⟩⟩ := h
  · refine G_still (r := -1) h' ?_ ?_
    · unfold f_X11_back
      rw [if_pos hU.2.1.2.2.2]
    · unfold f_X12_back
      rw [if_pos (show (u2 σ 758 0 0) 758 37 = 0 by rw [u2_i (by omega)]; exact hU.2.2.2.2.2.1)]
  · obtain ⟨r, σ1, σ2, L', n', g1, g2, g3, g4, g5, g6⟩ := P_back hP hK
    exact ⟨r, σ1, σ2, g1, g2, hB.told2 g3 hK hN (by omega) (by omega) ((g5.mono (fun c j q => by unfold SBK at q; unfold SCB; omega)).trans (g6.mono (fun c j q => by unfold SBR at q; unfold SCB; omega)))⟩
theorem R_isInB {v x y : Int} : f_X12_isIn v x y σ = some 0 ∨ f_X12_isIn v x y σ = some 1 := by
  by_cases d : x ≤ v ∧ v ≤ y
  · exact Or.inr (R_isIn_y d.1 d.2)
  · exact Or.inl (R_isIn_n d)
theorem G_perform (h : GV σ b) (hb : b < 2147483000) : ∃ r σ1 σ2, f_X11_perform v1 σ = some (r, σ1) ∧ f_X12_perform v1 σ1 = some (r, σ2) ∧ GV σ2 (b + 40) := by
  have h' := h.mono (b' := b + 40) (by omega)
  obtain ⟨⟨N, stp, len, hB⟩, hU | ⟨K, L, LI, n, H, hi, hP, hK, hN, hL, hLI⟩⟩ := h
  · refine G_still (r := -1) h' ?_ ?_
    · unfold f_X11_perform
      rw [if_pos hB.1.cell.1, U_isTold hU, Option.bind_some, if_pos rfl]
    · unfold f_X12_perform f_X12_isScript
      rcases R_isInB (σ := u2 σ 758 0 0) (v := v1) (x := 0) (y := z_w ((u2 σ 758 0 0) 758 30 - 1)) with e | e
      · rw [e, Option.bind_some, Option.bind_some, if_pos rfl]
      · rw [e, Option.bind_some, Option.bind_some, if_neg (by omega), if_pos (U_ref21 hU)]
  · obtain ⟨r, σ1, σ2, L', n', H', g1, g2, g3, g4, g5, g6⟩ := P_perform (v1 := v1) hP hB.2.2.1 hK (by omega)
    exact ⟨r, σ1, σ2, g1, g2, hB.told2 g3 hK hN (by omega) (by omega) ((g5.mono (fun c j q => by unfold SJ at q; unfold SCB; omega)).trans (g6.mono (fun c j q => by unfold SYP SYR at q; unfold SCB; omega)))⟩
theorem G_run (h : GV σ b) : ∃ r σ1 σ2, f_X11_run v1 v2 σ = some (r, σ1) ∧ f_X12_run v1 v2 σ1 = some (r, σ2) ∧ GV σ2 b := by
  have h' := h
  obtain ⟨⟨N, stp, len, hB⟩, hU | ⟨K, L, LI, n, H, hi, hP, hK, hN, hL, hLI⟩⟩ := h
  · refine G_still (r := -1000000) h' ?_ ?_
    · unfold f_X11_run
      rw [if_pos hB.1.cell.1, U_isTold hU, Option.bind_some, if_pos rfl]
    · unfold f_X12_run f_X12_isScript
      rcases R_isInB (σ := u2 σ 758 0 0) (v := v1) (x := 0) (y := z_w ((u2 σ 758 0 0) 758 30 - 1)) with e | e
      · rw [e, Option.bind_some, Option.bind_some, if_pos rfl]
      · rw [e, Option.bind_some, Option.bind_some, if_neg (by omega), if_pos (U_ref21 hU)]
  · obtain ⟨r, σ1, σ2, g1, g2, g5, g6⟩ := P_run (v1 := v1) (v2 := v2) hP hB.2.2.1 hK
    have ha := hB.1.cell.2.2
    exact ⟨r, σ1, σ2, g1, g2, h'.keep2 g5 g6 (fun c j q => by unfold SRC at q; unfold SCR; omega) (fun c j q => by unfold SRR SD at q; unfold SCR; omega)⟩
/-- a question alone -/
theorem G_asks {A : Option Int} {B : (Nat → Nat → Int) → Option (Int × (Nat → Nat → Int))} (h : GV σ b) (hq : ∃ r, A = some r ∧ B σ = some (r, u2 σ 758 0 0)) : ∃ r σ2, A = some r ∧ B σ = some (r, σ2) ∧ GV σ2 b := by
  obtain ⟨r, h1, h2⟩ := hq
  exact ⟨r, _, h1, h2, h.keep (FM.refl.u (by unfold SCR; omega))⟩
theorem G_status (h : GV σ b) : ∃ r σ2, f_X11_status v1 σ = some r ∧ f_X12_status v1 σ = some (r, σ2) ∧ GV σ2 b := by
  refine G_asks h ?_
  obtain ⟨⟨N, stp, len, hB⟩, _⟩ := h
  have q := hB.2.2.2.2.2.2.2
  unfold f_X11_status f_X12_status
  by_cases d0 : v1 < 0
  · exact ⟨-1, by rw [if_pos d0], by rw [R_isIn_n (by omega), Option.bind_some, if_pos rfl]⟩
  by_cases d4 : 4 ≤ v1
  · exact ⟨-1, by rw [if_neg d0, if_pos d4], by rw [R_isIn_n (by omega), Option.bind_some, if_pos rfl]⟩
  · exact ⟨σ 757 v1.toNat, by rw [if_neg d0, if_neg d4, if_pos (by omega)], by rw [R_isIn_y (by omega) (by omega), Option.bind_some, if_neg (by omega), if_pos (by omega), u2_c (by omega), q _ (by omega)]⟩
theorem G_log (h : GV σ b) (hb : b < 2147483000) : ∃ r σ2, f_X11_log v1 v2 σ = some r ∧ f_X12_log v1 v2 σ = some (r, σ2) ∧ GV σ2 b := by
  refine G_asks h ?_
  obtain ⟨⟨N, stp, len, hB⟩, hU | ⟨K, L, LI, n, H, hi, hP, hK, hN, hL, hLI⟩⟩ := h
  · refine ⟨-1000000, ?_, ?_⟩
    · have e := hU.2.1.1
      unfold f_X11_log f_X11_logLength
      by_cases d : v1 < 0
      · rw [if_pos d]
      · rw [if_neg d, Option.bind_some, if_neg (by omega)]
    · have e : (u2 σ 758 0 0) 776 75 = 0 := by rw [u2_c (by omega)]; exact hU.2.2.2.2.2.2.2
      unfold f_X12_log
      by_cases d : v1 < 0
      · rw [if_pos d]
      · rw [if_neg d, if_pos (by omega)]
  · exact P_log hP (by omega)
end S_GB
