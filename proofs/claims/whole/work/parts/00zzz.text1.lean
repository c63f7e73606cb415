-- a script told, or its fault: both sides
/-- what may change while the tape and the scripts are seen to apart -/
def SCX (a : Nat) : Nat → Nat → Prop := fun c j => (c = 0 ∧ j ≠ 2 ∧ j ≠ 3 ∧ j ≠ 9) ∨ c = 1 ∨ c = 2 ∨ c = 3 ∨ (4 ≤ c ∧ c < 173 ∧ ¬ (a ≤ c ∧ c < a + 19)) ∨ (186 ≤ c ∧ c < 199) ∨ (742 ≤ c ∧ c < 757) ∨ (c = 758 ∧ (j < 21 ∨ j = 22 ∨ j = 24 ∨ (27 ≤ j ∧ j < 35) ∨ 40 ≤ j)) ∨ c = 759 ∨ c = 760 ∨ c = 762 ∨ c = 764 ∨ c = 766 ∨ c = 769 ∨ c = 771 ∨ c = 773 ∨ c = 774 ∨ c = 775 ∨ c = 777 ∨ 780 ≤ c
section S_T1X
variable {σ σ' r K : Nat → Nat → Int} {b v1 : Int} {a N : Nat} {stp : Nat → Nat → QS} {len : Nat → Nat}
theorem UV.keepX (hG : GX σ) (h : UV σ) (hf : FM (SCX (σ 0 2).toNat) σ σ') : UV σ' := by
  have ha := hG.cell.2.2
  have e0 : σ' 0 2 = σ 0 2 := hf 0 2 (by unfold SCX; omega)
  have ec : ∀ j, σ' (σ 0 2).toNat j = σ (σ 0 2).toNat j := fun j => hf _ j (by unfold SCX; omega)
  unfold UV
  rw [e0, ec, ec, ec, hf 173 3 (by unfold SCX; omega), hf 173 4 (by unfold SCX; omega), hf 220 2 (by unfold SCX; omega), hf 0 9 (by unfold SCX; omega), hf 758 21 (by unfold SCX; omega), hf 758 23 (by unfold SCX; omega), hf 758 36 (by unfold SCX; omega), hf 758 37 (by unfold SCX; omega), hf 776 44 (by unfold SCX; omega), hf 776 75 (by unfold SCX; omega)]
  exact h
theorem TV.keepX (hG : GX σ) (h : TV σ b) (hf : FM (SCX (σ 0 2).toNat) σ σ') : TV σ' b := by
  have ha := hG.cell.2.2
  obtain ⟨K, L, LI, n, H, hi, h1, h2, h3, h4, h5⟩ := h
  refine ⟨K, L, LI, n, H, hi, h1.frame2 h2 (hf 0 2 (by unfold SCX; omega)) (hf 0 9 (by unfold SCX; omega)) (fun c _ _ => funext fun j => hf c j (by unfold SCX; omega)) (fun c _ _ _ => funext fun j => hf c j (by unfold SCX; omega)) (funext fun j => hf 757 j (by unfold SCX; omega)) (fun c hc => funext fun j => hf c j (by unfold SCX; omega)) (fun j hj => hf 758 j (by unfold SCX; omega)) ((hf 758 38 (by unfold SCX; omega)).trans h1.2.1.2.2.2.1) (by rw [hf 758 39 (by unfold SCX; omega)]; exact h1.2.1.2.2.2.2), h2, h3, h4, h5⟩
theorem GV.keepX (h : GV σ b) (hf : FM (SCX (σ 0 2).toNat) σ σ') (hT : TPR σ' σ') (hQ : ∃ N stp len, QV σ' N stp len) : GV σ' b := by
  obtain ⟨⟨_, _, _, h1, h2, h3, h4, h5, h6, h7, h8⟩, hU⟩ := h
  obtain ⟨N, stp, len, hQ⟩ := hQ
  have ha := h1.cell.2.2
  refine ⟨⟨N, stp, len, ?_, hT, hQ, by rw [hf 220 1 (by unfold SCX; omega)]; exact h4, by rw [hf 758 35 (by unfold SCX; omega)]; exact h5, by rw [hf 758 38 (by unfold SCX; omega)]; exact h6, by rw [hf 758 39 (by unfold SCX; omega)]; exact h7, fun i hi' => by rw [hf 757 i (by unfold SCX; omega), hf 768 i (by unfold SCX; omega)]; exact h8 i hi'⟩, hU.imp (fun q => q.keepX h1 hf) (fun q => q.keepX h1 hf)⟩
  unfold GX
  rw [hf 0 2 (by unfold SCX; omega), hf 0 3 (by unfold SCX; omega)]
  exact h1
theorem QV.slots (h : QV σ N stp len) (hc : ∀ c, 43 ≤ c → c < 43 + 26 * N → σ' c = σ c) (hr : ∀ c j, (c = 773 ∧ j < 48 * N) ∨ (c = 775 ∧ j < 12 * N) ∨ (c = 774 ∧ j < N) → σ' c j = σ c j) : ∀ v, v < N → (1 ≤ len v ∧ len v ≤ 12) ∧ QC σ' (43 + 26 * v) (stp v) (len v) ∧ QR σ' v (stp v) (len v) ∧ ∀ i, i < len v → QW (stp v i) := fun v hv => by
  obtain ⟨g1, g2, g3, g4⟩ := h.2.2.2 v hv
  refine ⟨g1, g2.frame g1.2 (fun c c1 c2 => hc c (by omega) (by omega)), ⟨by rw [hr 774 v (by omega)]; exact g3.1, fun i hi => ?_⟩, g4⟩
  obtain ⟨e1, e2, e3, e4, e5⟩ := g3.2 i hi
  exact ⟨by rw [hr 773 _ (by omega)]; exact e1, by rw [hr 773 _ (by omega)]; exact e2, by rw [hr 773 _ (by omega)]; exact e3, by rw [hr 773 _ (by omega)]; exact e4, by rw [hr 775 _ (by omega)]; exact e5⟩
theorem J_script (hT : TPR σ σ) (ha : 3 < a) : ∃ f c', f_X10_readScript a σ = some (f, c') ∧ FM (SSC a) σ c' ∧ ∀ r : Nat → Nat → Int, r 758 2 = σ 758 2 → r 759 = σ 759 → ∃ r', f_X12_readScript (u2 (u2 r 758 3 0) 758 4 (-1)) = some r' ∧ FM SSR r r' ∧ SE c' r' a f := by
  obtain ⟨f, c', r', g1, g2, g3, g4, g5⟩ := T_script hT ha
  refine ⟨f, c', g1, g3, fun r h2 h9 => ?_⟩
  obtain ⟨f2, c2, r2, k1, k2, k3, k4, k5⟩ := T_script (c := σ) (r := r) (hT.frame rfl rfl h2 h9) ha
  rw [g1] at k1
  obtain ⟨e1, e2⟩ := Prod.mk.inj (Option.some.inj k1)
  rw [← e1, ← e2] at k5
  exact ⟨r2, k2, k4, k5⟩
theorem T_fault1 {r r' : Nat → Nat → Int} (h : f_X12_readScript (u2 (u2 (u2 r 758 0 0) 758 3 0) 758 4 (-1)) = some r') : f_X12_fault 1 r = some (r' 758 4, r') := by
  unfold f_X12_fault
  rw [R_isIn_y (by omega) (by omega), Option.bind_some, if_neg (show ¬ (1 : Int) = 0 by omega), if_neg (show ¬ (1 : Int) = 0 by omega), if_pos rfl, h, Option.bind_some]
theorem C_spare (h : QV σ N stp len) : f_X11_spareScript σ = some (43 + 26 * N) := by
  have h0 := h.1
  have h1 := h.2.2.1
  unfold f_X11_spareScript
  rw [h0, if_pos (by omega), show (min (N : Int) 4).toNat = N from by omega]
/-- the fault's part of both, where the script isn't kept -/
theorem GV.spare (h : GV σ b) (hQ : QV σ N stp len) {c' r' : Nat → Nat → Int} (hc : FM (SSC (43 + 26 * N)) σ c') (hr : FM (fun x j => SSR x j ∨ (x = 758 ∧ j = 0)) c' r') : GV r' b := by
  have hG := h.1
  obtain ⟨_, _, _, hG, hT, _⟩ := hG
  have ha := hG.cell.2.2
  have hN := hQ.2.2.1
  have hx : FM (SCX (σ 0 2).toNat) σ r' := (hc.mono (fun c j q => by unfold SSC SRD at q; unfold SCX; omega)).trans (hr.mono (fun c j q => by unfold SSR SRE at q; unfold SCX; omega))
  have lo : ∀ c j, ¬ SSC (43 + 26 * N) c j → ¬ (SSR c j ∨ (c = 758 ∧ j = 0)) → r' c j = σ c j := fun c j q1 q2 => (hr c j q2).trans (hc c j q1)
  refine h.keepX hx (hT.frame (lo 2 1 (by unfold SSC SRD; omega) (by unfold SSR SRE; omega)) (funext fun j => lo 3 j (by unfold SSC SRD; omega) (by unfold SSR SRE; omega)) (lo 758 2 (by unfold SSC SRD; omega) (by unfold SSR SRE; omega)) (funext fun j => lo 759 j (by unfold SSC SRD; omega) (by unfold SSR SRE; omega))) ⟨N, stp, len, (lo 0 5 (by unfold SSC SRD; omega) (by unfold SSR SRE; omega)).trans hQ.1, (lo 758 30 (by unfold SSC SRD; omega) (by unfold SSR SRE; omega)).trans hQ.2.1, hN, hQ.slots (fun c c1 c2 => funext fun j => lo c j (by unfold SSC SRD; omega) (by unfold SSR SRE; omega)) (fun c j hj => lo c j (by unfold SSC SRD; omega) (by unfold SSR SRE; omega))⟩
theorem G_fault1 (h : GV σ b) : ∃ r σ1 σ2, f_X11_fault 1 σ = some (r, σ1) ∧ f_X12_fault 1 σ1 = some (r, σ2) ∧ GV σ2 b := by
  have h' := h
  obtain ⟨⟨N, stp, len, hG, hT, hQ, hB⟩, hU⟩ := h
  have hN := hQ.2.2.1
  obtain ⟨f, c', g1, g2, g3⟩ := J_script (a := 43 + 26 * N) hT (by omega)
  have gr : ∀ c, 758 ≤ c → c' c = σ c := fun c hc => funext fun j => g2 c j (by unfold SSC SRD; omega)
  obtain ⟨r', k1, k2, k3⟩ := g3 (u2 c' 758 0 0) (by rw [u2_i (by omega), gr 758 (by omega)]) (by rw [u2_ne (by omega), gr 759 (by omega)])
  have mm : FM (fun x j => SSR x j ∨ (x = 758 ∧ j = 0)) c' (u2 c' 758 0 0) := FM.refl.u (Or.inr ⟨rfl, rfl⟩)
  refine ⟨f, c', r', ?_, ?_, h'.spare hQ g2 (mm.trans (k2.mono (fun c j hc => Or.inl hc)))⟩
  · unfold f_X11_fault
    rw [if_neg (show ¬ (1 : Int) = 0 by omega), if_pos rfl, C_spare hQ, Option.bind_some, g1, Option.bind_some]
  · rw [T_fault1 k1, k3.2.2.1]
theorem G_fault2 (h : GV σ b) : ∃ r σ1 σ2, f_X11_fault 2 σ = some (r, σ1) ∧ f_X12_fault 2 σ1 = some (r, σ2) ∧ GV σ2 b := by
  have h' := h
  obtain ⟨⟨N, stp, len, hG, hT, hQ, hB⟩, hU⟩ := h
  obtain ⟨w, c', r1, g1, g2, g3, g4, g5, g6, g7⟩ := T_asker hT
  have gr : ∀ c, 758 ≤ c → c' c = σ c := fun c hc => funext fun j => g3 c j (by unfold SRD; omega)
  obtain ⟨w', c2, r2, k1, k2, k3, k4, k5, k6, k7⟩ := T_asker (c := σ) (r := u2 c' 758 0 0) (hT.frame rfl rfl (by rw [u2_i (by omega), gr 758 (by omega)]) (by rw [u2_ne (by omega), gr 759 (by omega)]))
  rw [g1] at k1
  obtain ⟨e1, e2⟩ := Prod.mk.inj (Option.some.inj k1)
  rw [← e2] at k6
  have mm : FM (fun x j => SRE x j ∨ (x = 758 ∧ j = 0)) c' (u2 c' 758 0 0) := FM.refl.u (Or.inr ⟨rfl, rfl⟩)
  refine ⟨c' 2 4, c', r2, ?_, ?_, h'.keep2 g3 (mm.trans (k4.mono (fun c j hc => Or.inl hc))) (fun c j q => by unfold SRD at q; unfold SCR; omega) (fun c j q => by unfold SRE at q; unfold SCR; omega)⟩
  · unfold f_X11_fault
    rw [if_neg (show ¬ (2 : Int) = 0 by omega), if_neg (show ¬ (2 : Int) = 1 by omega), if_pos rfl, g1, Option.bind_some]
  · rw [T_fault2 k2, k6]
theorem G_fault (h : GV σ b) : ∃ r σ1 σ2, f_X11_fault v1 σ = some (r, σ1) ∧ f_X12_fault v1 σ1 = some (r, σ2) ∧ GV σ2 b := by
  by_cases d0 : v1 = 0
  · subst d0
    exact G_fault0 h
  by_cases d1 : v1 = 1
  · subst d1
    exact G_fault1 h
  by_cases d2 : v1 = 2
  · subst d2
    exact G_fault2 h
  refine ⟨-2, σ, u2 σ 758 0 0, ?_, ?_, h.keep (FM.refl.u (by unfold SCR; omega))⟩
  · unfold f_X11_fault
    rw [if_neg d0, if_neg d1, if_neg d2]
  · unfold f_X12_fault
    rw [R_isIn_n (by omega), Option.bind_some, if_pos rfl]
end S_T1X
