-- the image kept and gone back to, and the log shown, both sides
section S_IM
variable {σ K : Nat → Nat → Int} {H : Int → Nat → Int} {L LI n hi v1 v2 : Int} {w : Nat → Int} {g d : Nat}
theorem C_logCopy (h : RL σ g L w) (hd : d + 3 < g + 1 ∨ g + 3 < d + 1) : ∃ σ', f_X4_copyFrom d g σ = some σ' ∧ RL σ' d L w ∧ FR (fun c => d < c ∧ c < d + 4) σ σ' := by
  obtain ⟨p0, p1, p2⟩ := h
  unfold f_X4_copyFrom
  refine ⟨_, rfl, ⟨p0, p1, fun i f i0 i1 f0 f1 => ?_⟩, fun c hc => ?_⟩
  · rw [p2 i f i0 i1 f0 f1]
    have hf : f = 0 ∨ f = 1 ∨ f = 2 := by omega
    rcases hf with rfl | rfl | rfl
    · show _ = z_cpy _ _ _ 0 0 100 (d + 1) _
      rw [zc_n (by omega), zc_n (by omega), zc_e (by omega)]
      rfl
    · show _ = z_cpy _ _ _ 0 0 100 (d + 2) _
      rw [zc_n (by omega), zc_e (by omega), zc_n (by omega)]
      rfl
    · show _ = z_cpy _ _ _ 0 0 100 (d + 3) _
      rw [zc_e (by omega), zc_n (by omega), zc_n (by omega)]
      rfl
  · rw [z_cpy_ne (by omega), z_cpy_ne (by omega), z_cpy_ne (by omega)]
def SIM : Nat → Nat → Prop := fun c j => (199 ≤ c ∧ c < 212) ∨ (216 < c ∧ c < 220) ∨ (c = 0 ∧ j = 9)
def SIR : Nat → Nat → Prop := fun c j => c = 778 ∨ (c = 758 ∧ (j = 0 ∨ j = 37))
set_option maxHeartbeats 4000000 in
theorem P_image (h : PV σ K L LI n H hi) (hK : WK K) : ∃ r σ1 σ2, f_X11_image σ = some (r, σ1) ∧ f_X12_image σ1 = some (r, σ2) ∧ PV σ2 K L L n H 1 ∧ FM SIM σ σ1 ∧ FM SIR σ1 σ2 := by
  have hkn := hK.n
  obtain ⟨⟨c0, c1, i0, i1, i2, i3, i4⟩, ⟨r0, r1, r2, r3, r4⟩, ⟨d0, d1, d2, d3⟩, hc⟩ := h
  have ha := ax_a c0
  obtain ⟨σ1, g1, g2, g3⟩ := C_copyFrom (d := 199) hK.kl i0 (WS.kl.mpr d0) (by omega)
  obtain ⟨σ2, k1, k2, k3⟩ := C_logCopy (d := 216) (i1.frame (σ' := σ1) (fun c _ _ => g3 c (by omega))) (by omega)
  have hb := d0.n
  have ef : ∀ c, ¬ (199 ≤ c ∧ c < 212) → ¬ (216 < c ∧ c < 220) → σ2 c = σ c := fun c q1 q2 => (k3 c (by omega)).trans (g3 c (by omega))
  have ef3 : ∀ c, c ≠ 0 → ¬ (199 ≤ c ∧ c < 212) → ¬ (216 < c ∧ c < 220) → (u2 σ2 0 9 1) c = σ c := fun c q0 q1 q2 => (u2_ne q0).trans (ef c q1 q2)
  have gr : ∀ c, 758 ≤ c → (u2 σ2 0 9 1) c = σ c := fun c hc => ef3 c (by omega) (by omega) (by omega)
  have hrow : ∀ j, j < 256 → (ov (σ 776) 0 (σ 778) 0 256) j = σ 776 j := fun j hj => by
    unfold ov
    rw [if_pos (by omega), show 0 + (j - 0) = j from by omega]
  refine ⟨σ 776 41, u2 σ2 0 9 1, u2 (setR (u2 (u2 σ2 0 9 1) 758 0 0) 778 (ov (σ 776) 0 (σ 778) 0 256)) 758 37 1, ?_, ?_, ?_, ((g3.fm (fun c j hc => by unfold SIM; omega)).trans (k3.fm (fun c j hc => by unfold SIM; omega))).u (by unfold SIM; omega), ((FM.refl.u (by unfold SIR; omega)).r (fun j => Or.inl rfl)).u (by unfold SIR; omega)⟩
  · unfold f_X11_image
    rw [if_pos c0, C_isTold_y c1 (by omega), Option.bind_some, if_neg (show ¬ (1 : Int) = 0 by omega), g1, Option.bind_some, k1, Option.bind_some, u2_ne (by omega), ef 173 (by omega) (by omega), i0.n0]
  · unfold f_X12_image
    have e21 : (u2 (u2 σ2 0 9 1) 758 0 0) 758 21 = K 0 0 := by
      rw [u2_i (by omega), gr 758 (by omega)]
      exact r0.n0
    have e1 : (u2 (u2 σ2 0 9 1) 758 0 0) 776 = σ 776 := (u2_ne (by omega)).trans (gr 776 (by omega))
    have e2 : (u2 (u2 σ2 0 9 1) 758 0 0) 778 = σ 778 := (u2_ne (by omega)).trans (gr 778 (by omega))
    have e3 : f_X12_copyRow 776 256 0 778 256 0 (u2 (u2 σ2 0 9 1) 758 0 0) = some (setR (u2 (u2 σ2 0 9 1) 758 0 0) 778 (ov (σ 776) 0 (σ 778) 0 256)) := by
      rw [R_copyRow (Or.inl (by omega)) (by omega) (by omega) (by omega) (by omega) (by omega) (by omega), e1, e2]
      rfl
    have e4 : (u2 (setR (u2 (u2 σ2 0 9 1) 758 0 0) 778 (ov (σ 776) 0 (σ 778) 0 256)) 758 37 1) 776 41 = σ 776 41 := by
      rw [u2_c (by omega), setR_n (by omega), e1]
    rw [e21, if_neg (by omega), e3, Option.bind_some, e4]
  · have hf : ∀ c, c ≠ 758 → c ≠ 778 → (u2 (setR (u2 (u2 σ2 0 9 1) 758 0 0) 778 (ov (σ 776) 0 (σ 778) 0 256)) 758 37 1) c = (u2 σ2 0 9 1) c := fun c q1 q2 => by rw [u2_ne q1, setR_n q2, u2_ne q1]
    have hf2 : ∀ j, j ≠ 0 → j ≠ 37 → (u2 (setR (u2 (u2 σ2 0 9 1) 758 0 0) 778 (ov (σ 776) 0 (σ 778) 0 256)) 758 37 1) 758 j = σ 758 j := fun j q1 q2 => by rw [u2_i q2, setR_n (by omega), u2_i q1, gr 758 (by omega)]
    have e37 : (u2 (setR (u2 (u2 σ2 0 9 1) 758 0 0) 778 (ov (σ 776) 0 (σ 778) 0 256)) 758 37 1) 758 37 = 1 := u2_e
    have e778 : (u2 (setR (u2 (u2 σ2 0 9 1) 758 0 0) 778 (ov (σ 776) 0 (σ 778) 0 256)) 758 37 1) 778 = ov (σ 776) 0 (σ 778) 0 256 := by rw [u2_ne (by omega), setR_s]
    generalize (u2 (setR (u2 (u2 σ2 0 9 1) 758 0 0) 778 (ov (σ 776) 0 (σ 778) 0 256)) 758 37 1) = σ3 at hf hf2 e37 e778 ⊢
    have e776 : σ3 776 = σ 776 := (hf 776 (by omega) (by omega)).trans (gr 776 (by omega))
    have ec : ∀ c, c ≠ 0 → c < 758 → ¬ (199 ≤ c ∧ c < 212) → ¬ (216 < c ∧ c < 220) → σ3 c = σ c := fun c q0 q q1 q2 => (hf c (by omega) (by omega)).trans (ef3 c q0 q1 q2)
    have ec2 : ∀ c, c ≠ 0 → c < 758 → σ3 c = σ2 c := fun c q0 q => (hf c (by omega) (by omega)).trans (u2_ne q0)
    have e02 : σ3 0 2 = σ 0 2 := by rw [hf 0 (by omega) (by omega), u2_i (by omega), ef 0 (by omega) (by omega)]
    have e09 : σ3 0 9 = 1 := by rw [hf 0 (by omega) (by omega), u2_e]
    unfold PV
    rw [e776, e778]
    refine ⟨⟨by rw [e02]; exact c0, by rw [e02]; exact c1.frame (by omega) (fun c _ _ => ec c (by omega) (by omega) (by omega) (by omega)), ?_, ?_, ?_, e09, fun _ => ⟨?_, ?_⟩⟩, ⟨?_, ?_, e37, (hf2 38 (by omega) (by omega)).trans r3, by rw [hf2 39 (by omega) (by omega)]; exact r4⟩, ⟨d0, d1, d2, fun _ => ⟨d0.cg75 hK (fun j hj => hrow j (by omega)), d1.cg75 hK (fun j hj => hrow j (by omega))⟩⟩, fun i hi' => ?_⟩
    · exact i0.frame (fun c _ _ => ec c (by omega) (by omega) (by omega) (by omega))
    · exact i1.frame (fun c _ _ => ec c (by omega) (by omega) (by omega) (by omega))
    · exact i2.frame (fun j _ => by rw [ec 220 (by omega) (by omega) (by omega) (by omega)]) (fun c _ _ => ec c (by omega) (by omega) (by omega) (by omega)) (fun c _ _ => ec c (by omega) (by omega) (by omega) (by omega))
    · exact (g2.frame (fun c _ _ => (ec2 c (by omega) (by omega)).trans (k3 c (by omega)))).cg75 hK.kl (by omega) (fun j hj => hrow j (by omega))
    · exact (k2.cg (fun j _ j1 => hrow j j1)).frame (fun c _ _ => ec2 c (by omega) (by omega))
    · exact r0.frame (fun c hc => (hf c (by omega) (by omega)).trans (gr c (by omega))) (fun j hj => hf2 j (by omega) (by omega))
    · exact r1.frame (hf2 35 (by omega) (by omega)) (hf2 36 (by omega) (by omega)) ((hf 779 (by omega) (by omega)).trans (gr 779 (by omega)))
    · rw [ec 757 (by omega) (by omega) (by omega) (by omega), hf 768 (by omega) (by omega), gr 768 (by omega)]
      exact hc i hi'
end S_IM
