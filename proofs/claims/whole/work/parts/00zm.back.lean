-- going back to the image, both sides
section S_BK
variable {σ K : Nat → Nat → Int} {H : Int → Nat → Int} {L LI n hi v1 v2 : Int} {w : Nat → Int} {g d : Nat}
def SBK : Nat → Nat → Prop := fun c j => (173 ≤ c ∧ c < 186) ∨ (212 < c ∧ c < 216) ∨ (c = 220 ∧ j = 2)
def SBR : Nat → Nat → Prop := fun c j => c = 776 ∨ (c = 758 ∧ (j = 0 ∨ j = 36))
set_option maxHeartbeats 4000000 in
theorem P_back (h : PV σ K L LI n H hi) (hK : WK K) : ∃ r σ1 σ2 L' n', f_X11_back σ = some (r, σ1) ∧ f_X12_back σ1 = some (r, σ2) ∧ PV σ2 K L' LI n' H hi ∧ (L' = L ∨ L' = LI) ∧ FM SBK σ σ1 ∧ FM SBR σ1 σ2 := by
  have hkn := hK.n
  have h' := h
  obtain ⟨⟨c0, c1, i0, i1, i2, i3, i4⟩, ⟨r0, r1, r2, r3, r4⟩, ⟨d0, d1, d2, d3⟩, hc⟩ := h
  have ha := ax_a c0
  by_cases e : hi = 0
  · refine ⟨-1, σ, u2 σ 758 0 0, L, n, ?_, ?_, ?_, Or.inl rfl, FM.refl, FM.refl.u (by unfold SBR; omega)⟩
    · unfold f_X11_back
      rw [i3, if_pos e]
    · unfold f_X12_back
      rw [u2_i (by omega), r2, if_pos e]
    · exact h'.frame hK (by rw [u2_ne (by omega)]) (by rw [u2_ne (by omega)]) (fun c _ _ => u2_ne (by omega)) (fun c _ _ => u2_ne (by omega)) (u2_ne (by omega)) (fun c _ _ => u2_ne (by omega)) (fun j _ _ => u2_i (by omega))
  · obtain ⟨q0, q1⟩ := i4 e
    obtain ⟨s0, s1⟩ := d3 e
    have hb := s0.n
    obtain ⟨σ1, g1, g2, g3⟩ := C_copyFrom (d := 173) hK.kl q0 (WS.kl.mpr s0) (by omega)
    obtain ⟨σ2, k1, k2, k3⟩ := C_logCopy (d := 212) (q1.frame (σ' := σ1) (fun c _ _ => g3 c (by omega))) (by omega)
    have ef : ∀ c, ¬ (173 ≤ c ∧ c < 186) → ¬ (212 < c ∧ c < 216) → σ2 c = σ c := fun c q1 q2 => (k3 c (by omega)).trans (g3 c (by omega))
    have gr : ∀ c, 758 ≤ c → (u2 σ2 220 2 0) c = σ c := fun c hc => (u2_ne (by omega)).trans (ef c (by omega) (by omega))
    have hrow : ∀ j, j < 256 → (ov (σ 778) 0 (σ 776) 0 256) j = σ 778 j := fun j hj => by
      unfold ov
      rw [if_pos (by omega), show 0 + (j - 0) = j from by omega]
    have e1 : (u2 (u2 σ2 220 2 0) 758 0 0) 776 = σ 776 := (u2_ne (by omega)).trans (gr 776 (by omega))
    have e2 : (u2 (u2 σ2 220 2 0) 758 0 0) 778 = σ 778 := (u2_ne (by omega)).trans (gr 778 (by omega))
    have e3 : f_X12_copyRow 778 256 0 776 256 0 (u2 (u2 σ2 220 2 0) 758 0 0) = some (setR (u2 (u2 σ2 220 2 0) 758 0 0) 776 (ov (σ 778) 0 (σ 776) 0 256)) := by
      rw [R_copyRow (Or.inl (by omega)) (by omega) (by omega) (by omega) (by omega) (by omega) (by omega), e1, e2]
      rfl
    refine ⟨σ 778 41, u2 σ2 220 2 0, u2 (setR (u2 (u2 σ2 220 2 0) 758 0 0) 776 (ov (σ 778) 0 (σ 776) 0 256)) 758 36 0, LI, 0, ?_, ?_, ?_, Or.inr rfl, ((g3.fm (fun c j hc => by unfold SBK; omega)).trans (k3.fm (fun c j hc => by unfold SBK; omega))).u (by unfold SBK; omega), ((FM.refl.u (by unfold SBR; omega)).r (fun j => Or.inl rfl)).u (by unfold SBR; omega)⟩
    · unfold f_X11_back f_X3_forget
      rw [i3, if_neg e, g1, Option.bind_some, k1, Option.bind_some, Option.bind_some, u2_c (by omega), k3 173 (by omega), g2.n0]
    · unfold f_X12_back
      have e4 : (u2 (u2 σ2 220 2 0) 758 0 0) 758 37 = hi := by
        rw [u2_i (by omega), gr 758 (by omega)]
        exact r2
      have e5 : (u2 (setR (u2 (u2 σ2 220 2 0) 758 0 0) 776 (ov (σ 778) 0 (σ 776) 0 256)) 758 36 0) 776 41 = σ 778 41 := by
        rw [u2_c (by omega), setR_s]
        exact hrow 41 (by omega)
      rw [e4, if_neg e, e3, Option.bind_some, e5]
    · have hf : ∀ c, c ≠ 758 → c ≠ 776 → (u2 (setR (u2 (u2 σ2 220 2 0) 758 0 0) 776 (ov (σ 778) 0 (σ 776) 0 256)) 758 36 0) c = (u2 σ2 220 2 0) c := fun c q1 q2 => by rw [u2_ne q1, setR_n q2, u2_ne q1]
      have hf2 : ∀ j, j ≠ 0 → j ≠ 36 → (u2 (setR (u2 (u2 σ2 220 2 0) 758 0 0) 776 (ov (σ 778) 0 (σ 776) 0 256)) 758 36 0) 758 j = σ 758 j := fun j q1 q2 => by rw [u2_i q2, setR_n (by omega), u2_i q1, gr 758 (by omega)]
      have e36 : (u2 (setR (u2 (u2 σ2 220 2 0) 758 0 0) 776 (ov (σ 778) 0 (σ 776) 0 256)) 758 36 0) 758 36 = 0 := u2_e
      have e776 : (u2 (setR (u2 (u2 σ2 220 2 0) 758 0 0) 776 (ov (σ 778) 0 (σ 776) 0 256)) 758 36 0) 776 = ov (σ 778) 0 (σ 776) 0 256 := by rw [u2_ne (by omega), setR_s]
      generalize (u2 (setR (u2 (u2 σ2 220 2 0) 758 0 0) 776 (ov (σ 778) 0 (σ 776) 0 256)) 758 36 0) = σ3 at hf hf2 e36 e776 ⊢
      have e778 : σ3 778 = σ 778 := (hf 778 (by omega) (by omega)).trans (gr 778 (by omega))
      have ec2 : ∀ c, c ≠ 220 → c < 758 → σ3 c = σ2 c := fun c q0 q => (hf c (by omega) (by omega)).trans (u2_ne q0)
      have ec : ∀ c, c ≠ 220 → c < 758 → ¬ (173 ≤ c ∧ c < 186) → ¬ (212 < c ∧ c < 216) → σ3 c = σ c := fun c q0 q q1 q2 => (ec2 c q0 q).trans (ef c q1 q2)
      have e0 : σ3 0 = σ 0 := ec 0 (by omega) (by omega) (by omega) (by omega)
      have e2202 : σ3 220 2 = 0 := by rw [hf 220 (by omega) (by omega), u2_e]
      have e2201 : σ3 220 1 = σ 220 1 := by rw [hf 220 (by omega) (by omega), u2_i (by omega), ef 220 (by omega) (by omega)]
      unfold PV
      rw [e776, e778]
      refine ⟨⟨by rw [e0]; exact c0, by rw [e0]; exact c1.frame (by omega) (fun c _ _ => ec c (by omega) (by omega) (by omega) (by omega)), ?_, ?_, ?_, by rw [e0]; exact i3, fun _ => ⟨?_, ?_⟩⟩, ⟨?_, ?_, (hf2 37 (by omega) (by omega)).trans r2, (hf2 38 (by omega) (by omega)).trans r3, by rw [hf2 39 (by omega) (by omega)]; exact r4⟩, ⟨s0.cg75 hK (fun j hj => hrow j (by omega)), s1.cg75 hK (fun j hj => hrow j (by omega)), fun j j0 j1 => by omega, d3⟩, fun i hi' => ?_⟩
      · exact (g2.frame (fun c _ _ => (ec2 c (by omega) (by omega)).trans (k3 c (by omega)))).cg75 hK.kl (by omega) (fun j hj => hrow j (by omega))
      · exact (k2.cg (fun j _ j1 => hrow j j1)).frame (fun c _ _ => ec2 c (by omega) (by omega))
      · unfold HC
        rw [e2202, e2201]
        exact ⟨rfl, by omega, by omega, i2.2.2.2.1, fun j j0 j1 => by omega⟩
      · exact q0.frame (fun c _ _ => ec c (by omega) (by omega) (by omega) (by omega))
      · exact q1.frame (fun c _ _ => ec c (by omega) (by omega) (by omega) (by omega))
      · exact r0.frame (fun c hc => (hf c (by omega) (by omega)).trans (gr c (by omega))) (fun j hj => hf2 j (by omega) (by omega))
      · unfold HR
        rw [e36, hf2 35 (by omega) (by omega)]
        exact ⟨rfl, by omega, by omega, r1.2.2.2.1, fun j i j0 j1 => by omega⟩
      · rw [ec 757 (by omega) (by omega) (by omega) (by omega), hf 768 (by omega) (by omega), gr 768 (by omega)]
        exact hc i hi'
end S_BK
