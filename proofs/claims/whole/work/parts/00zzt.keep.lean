-- how both sides stand between calls; what may change without harm
def GX (σ : Nat → Nat → Int) : Prop := (σ 0 2 = 4 ∧ σ 0 3 = 23) ∨ (σ 0 2 = 23 ∧ σ 0 3 = 4)
def BV (σ : Nat → Nat → Int) (N : Nat) (stp : Nat → Nat → QS) (len : Nat → Nat) : Prop := GX σ ∧ TPR σ σ ∧ QV σ N stp len ∧ (0 ≤ σ 220 1 ∧ σ 220 1 < 40) ∧ (0 ≤ σ 758 35 ∧ σ 758 35 < 40) ∧ σ 758 38 = -1 ∧ 0 ≤ σ 758 39 ∧ ∀ i : Nat, i < 4 → σ 757 i = σ 768 i
/-- no chip is told -/
def UV (σ : Nat → Nat → Int) : Prop := (σ (σ 0 2).toNat 0 = 0 ∧ σ (σ 0 2).toNat 1 = 0 ∧ σ (σ 0 2).toNat 2 = 0) ∧ (σ 173 3 = 0 ∧ σ 173 4 = 0 ∧ σ 220 2 = 0 ∧ σ 0 9 = 0) ∧ (σ 758 21 = 0 ∧ σ 758 23 = 0 ∧ σ 758 36 = 0 ∧ σ 758 37 = 0 ∧ σ 776 44 = 0 ∧ σ 776 75 = 0)
def TV (σ : Nat → Nat → Int) (b : Int) : Prop := ∃ K L LI n H hi, PV σ K L LI n H hi ∧ WK K ∧ KN K ∧ L ≤ b ∧ LI ≤ b
def GV (σ : Nat → Nat → Int) (b : Int) : Prop := (∃ N stp len, BV σ N stp len) ∧ (UV σ ∨ TV σ b)
/-- what may change -/
def SCR (a : Nat) : Nat → Nat → Prop := fun c j => (c = 0 ∧ j ≠ 2 ∧ j ≠ 3 ∧ j ≠ 5 ∧ j ≠ 9) ∨ c = 1 ∨ (c = 2 ∧ j ≠ 1) ∨ (4 ≤ c ∧ c < 43 ∧ ¬ (a ≤ c ∧ c < a + 19)) ∨ (186 ≤ c ∧ c < 199) ∨ (742 ≤ c ∧ c < 757) ∨ (c = 758 ∧ (j < 21 ∧ j ≠ 2 ∨ j = 22 ∨ j = 24 ∨ 40 ≤ j)) ∨ c = 760 ∨ c = 762 ∨ c = 764 ∨ c = 766 ∨ c = 769 ∨ c = 771 ∨ c = 777 ∨ 780 ≤ c
section S_KP
variable {σ σ' K : Nat → Nat → Int} {H : Int → Nat → Int} {L LI n hi b b' : Int} {a : Nat}
theorem GX.cell (h : GX σ) : (σ 0 2).toNat ∈ ax_iX1 ∧ (σ 0 3).toNat ∈ ax_iX1 ∧ (((σ 0 2).toNat = 4 ∧ (σ 0 3).toNat = 23) ∨ ((σ 0 2).toNat = 23 ∧ (σ 0 3).toNat = 4)) := by
  rcases h with ⟨h1, h2⟩ | ⟨h1, h2⟩ <;> rw [h1, h2] <;> decide
theorem PV.frame2 (h : PV σ K L LI n H hi) (hK : WK K) (h1 : σ' 0 2 = σ 0 2) (h2 : σ' 0 9 = σ 0 9) (h3 : ∀ c, (σ 0 2).toNat ≤ c → c < (σ 0 2).toNat + 19 → σ' c = σ c) (h4 : ∀ c, 173 ≤ c → c < 742 → ¬ (186 ≤ c ∧ c < 199) → σ' c = σ c) (h5 : σ' 757 = σ 757) (h6 : ∀ c, c = 761 ∨ c = 763 ∨ c = 765 ∨ c = 767 ∨ c = 768 ∨ c = 770 ∨ c = 772 ∨ c = 776 ∨ c = 778 ∨ c = 779 → σ' c = σ c) (h7 : ∀ j, j = 21 ∨ j = 23 ∨ j = 25 ∨ j = 26 ∨ j = 35 ∨ j = 36 ∨ j = 37 → σ' 758 j = σ 758 j) (h8 : σ' 758 38 = -1) (h9 : 0 ≤ σ' 758 39) : PV σ' K L LI n H hi := by
  have hkn := hK.n
  obtain ⟨⟨c0, c1, i0, i1, i2, i3, i4⟩, ⟨r0, r1, r2, r3, r4⟩, hD, hc⟩ := h
  unfold PV
  rw [h6 776 (by omega), h6 778 (by omega)]
  refine ⟨⟨by rw [h1]; exact c0, by rw [h1]; exact c1.frame (by omega) (fun c q1 q2 => h3 c q1 q2), i0.frame (fun c _ _ => h4 c (by omega) (by omega) (by omega)), i1.frame (fun c _ _ => h4 c (by omega) (by omega) (by omega)), i2.frame (fun j _ => by rw [h4 220 (by omega) (by omega) (by omega)]) (fun c _ _ => h4 c (by omega) (by omega) (by omega)) (fun c _ _ => h4 c (by omega) (by omega) (by omega)), h2.trans i3, fun q => ?_⟩, ⟨r0.frame (fun c hc => h6 c (by omega)) (fun j hj => h7 j (by omega)), r1.frame (h7 35 (by omega)) (h7 36 (by omega)) (h6 779 (by omega)), (h7 37 (by omega)).trans r2, h8, h9⟩, hD, fun i hi' => by rw [h5, h6 768 (by omega)]; exact hc i hi'⟩
  obtain ⟨q0, q1⟩ := i4 q
  exact ⟨q0.frame (fun c _ _ => h4 c (by omega) (by omega) (by omega)), q1.frame (fun c _ _ => h4 c (by omega) (by omega) (by omega))⟩
theorem TV.mono (h : TV σ b) (hb : b ≤ b') : TV σ b' := by
  obtain ⟨K, L, LI, n, H, hi, h1, h2, h3, h4, h5⟩ := h
  exact ⟨K, L, LI, n, H, hi, h1, h2, h3, by omega, by omega⟩
theorem GV.mono (h : GV σ b) (hb : b ≤ b') : GV σ b' := ⟨h.1, h.2.imp id (fun q => q.mono hb)⟩
theorem UV.keep (hG : GX σ) (h : UV σ) (hf : FM (SCR (σ 0 2).toNat) σ σ') : UV σ' := by
  have ha := hG.cell.2.2
  have e0 : σ' 0 2 = σ 0 2 := hf 0 2 (by unfold SCR; omega)
  have ec : ∀ j, σ' (σ 0 2).toNat j = σ (σ 0 2).toNat j := fun j => hf _ j (by unfold SCR; omega)
  unfold UV
  rw [e0, ec, ec, ec, hf 173 3 (by unfold SCR; omega), hf 173 4 (by unfold SCR; omega), hf 220 2 (by unfold SCR; omega), hf 0 9 (by unfold SCR; omega), hf 758 21 (by unfold SCR; omega), hf 758 23 (by unfold SCR; omega), hf 758 36 (by unfold SCR; omega), hf 758 37 (by unfold SCR; omega), hf 776 44 (by unfold SCR; omega), hf 776 75 (by unfold SCR; omega)]
  exact h
theorem TV.keep (hG : GX σ) (h : TV σ b) (hf : FM (SCR (σ 0 2).toNat) σ σ') : TV σ' b := by
  have ha := hG.cell.2.2
  obtain ⟨K, L, LI, n, H, hi, h1, h2, h3, h4, h5⟩ := h
  refine ⟨K, L, LI, n, H, hi, h1.frame2 h2 (hf 0 2 (by unfold SCR; omega)) (hf 0 9 (by unfold SCR; omega)) (fun c _ _ => funext fun j => hf c j (by unfold SCR; omega)) (fun c _ _ _ => funext fun j => hf c j (by unfold SCR; omega)) (funext fun j => hf 757 j (by unfold SCR; omega)) (fun c hc => funext fun j => hf c j (by unfold SCR; omega)) (fun j hj => hf 758 j (by unfold SCR; omega)) ((hf 758 38 (by unfold SCR; omega)).trans h1.2.1.2.2.2.1) (by rw [hf 758 39 (by unfold SCR; omega)]; exact h1.2.1.2.2.2.2), h2, h3, h4, h5⟩
theorem BV.keep {N : Nat} {stp : Nat → Nat → QS} {len : Nat → Nat} (h : BV σ N stp len) (hf : FM (SCR (σ 0 2).toNat) σ σ') : BV σ' N stp len := by
  obtain ⟨h1, h2, h3, h4, h5, h6, h7, h8⟩ := h
  have ha := h1.cell.2.2
  refine ⟨?_, h2.frame (hf 2 1 (by unfold SCR; omega)) (funext fun j => hf 3 j (by unfold SCR; omega)) (hf 758 2 (by unfold SCR; omega)) (funext fun j => hf 759 j (by unfold SCR; omega)), h3.frame (hf 0 5 (by unfold SCR; omega)) (hf 758 30 (by unfold SCR; omega)) (fun c _ _ => funext fun j => hf c j (by unfold SCR; omega)) (fun c _ _ => funext fun j => hf c j (by unfold SCR; omega)), by rw [hf 220 1 (by unfold SCR; omega)]; exact h4, by rw [hf 758 35 (by unfold SCR; omega)]; exact h5, by rw [hf 758 38 (by unfold SCR; omega)]; exact h6, by rw [hf 758 39 (by unfold SCR; omega)]; exact h7, fun i hi' => by rw [hf 757 i (by unfold SCR; omega), hf 768 i (by unfold SCR; omega)]; exact h8 i hi'⟩
  unfold GX
  rw [hf 0 2 (by unfold SCR; omega), hf 0 3 (by unfold SCR; omega)]
  exact h1
theorem GV.keep (h : GV σ b) (hf : FM (SCR (σ 0 2).toNat) σ σ') : GV σ' b := by
  obtain ⟨⟨N, stp, len, h1⟩, h2⟩ := h
  exact ⟨⟨N, stp, len, h1.keep hf⟩, h2.imp (fun q => q.keep h1.1 hf) (fun q => q.keep h1.1 hf)⟩
/-- kept in two steps: the class's, the reference's -/
theorem GV.keep2 {σ1 σ2 : Nat → Nat → Int} {S T : Nat → Nat → Prop} (h : GV σ b) (hf : FM S σ σ1) (hg : FM T σ1 σ2) (hS : ∀ c j, S c j → SCR (σ 0 2).toNat c j) (hT : ∀ c j, T c j → SCR (σ 0 2).toNat c j) : GV σ2 b := h.keep ((hf.mono hS).trans (hg.mono hT))
end S_KP
