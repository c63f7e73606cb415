-- the text of a chip as a call
section S_T1
variable {σ K s : Nat → Nat → Int} {w : Nat → Int} {b : Int}
theorem DR.u2 {r : Nat → Nat → Int} {v : Int} (h : DR r K) : DR (u2 r 758 2 v) K := by
  obtain ⟨⟨a1, a2, a3⟩, h2⟩ := h
  exact ⟨⟨by rw [u2_i (by omega)]; exact a1, by rw [u2_i (by omega)]; exact a2, by rw [u2_i (by omega)]; exact a3⟩, h2⟩
def STT : Nat → Nat → Prop := fun c j => SLR c j ∨ (c = 758 ∧ (j = 0 ∨ j = 2)) ∨ STE c j ∨ (c = 776 ∨ (c = 758 ∧ (j = 36 ∨ j = 37)))
set_option maxHeartbeats 1000000 in
theorem G_text0 (h : GV σ b) (hb : 0 ≤ b) : ∃ r σ1 σ2, f_X11_text 0 σ = some (r, σ1) ∧ f_X12_text 0 σ1 = some (r, σ2) ∧ GV σ2 b := by
  have h' := h
  obtain ⟨⟨N, stp, len, hG, hT, hQ, hh, hr, z1, z2, z3⟩, hU⟩ := h
  obtain ⟨x1, x2, x3⟩ := hG.cell
  obtain ⟨f, c', g1, g2, g3⟩ := J_chip (a := (σ 0 3).toNat) hT (by omega) (by omega)
  have gr : ∀ c, 758 ≤ c → c' c = σ c := fun c hc => funext fun j => g2 c j (by unfold SLC SRD; omega)
  have g0 : ∀ j, c' 0 j = σ 0 j := fun j => g2 0 j (by unfold SLC SRD; omega)
  by_cases hf : f = -1
  · -- the class's run
    obtain ⟨s1, s2, s3, s4, s5, s6, s7⟩ := C_sbegin (σ := u2 (u2 c' 0 2 ((((c' 0 3).toNat) : Nat) : Int)) 0 3 ((((c' 0 2).toNat) : Nat) : Int)) (a := 173) (by omega)
    have k02 : s1 0 2 = (((σ 0 3).toNat : Nat) : Int) := by rw [s7 0 2 (by omega), u2_i (by omega), u2_e, g0]
    have k03 : s1 0 3 = (((σ 0 2).toNat : Nat) : Int) := by rw [s7 0 3 (by omega), u2_e, g0]
    have k00 : ∀ j, j ≠ 2 → j ≠ 3 → s1 0 j = σ 0 j := fun j j2 j3 => by rw [s7 0 j (by omega), u2_i j3, u2_i j2, g0]
    have kc : ∀ c, c ≠ 0 → (c < 173 ∨ 181 < c) → s1 c = c' c := fun c c0 hc => funext fun j => by rw [s7 c j (by omega), u2_ne c0, u2_ne c0]
    -- where the class stands
    generalize hσ1 : u2 (u2 (u2 s1 220 2 0) 0 9 0) 2 1 0 = σ1
    have m02 : σ1 0 2 = (((σ 0 3).toNat : Nat) : Int) := by rw [← hσ1, u2_ne (by omega), u2_i (by omega), u2_ne (by omega), k02]
    have m03 : σ1 0 3 = (((σ 0 2).toNat : Nat) : Int) := by rw [← hσ1, u2_ne (by omega), u2_i (by omega), u2_ne (by omega), k03]
    have m00 : ∀ j, j ≠ 2 → j ≠ 3 → j ≠ 9 → σ1 0 j = σ 0 j := fun j j2 j3 j9 => by rw [← hσ1, u2_ne (by omega), u2_i j9, u2_ne (by omega), k00 j j2 j3]
    have m09 : σ1 0 9 = 0 := by rw [← hσ1, u2_ne (by omega), u2_e]
    have m21 : σ1 2 1 = 0 := by rw [← hσ1, u2_e]
    have mc : ∀ c, c ≠ 0 → c ≠ 2 → c ≠ 220 → (c < 173 ∨ 181 < c) → σ1 c = c' c := fun c c0 c2 c220 hc => by rw [← hσ1, u2_ne c2, u2_ne c0, u2_ne c220, kc c c0 hc]
    have ms : ∀ c, 173 ≤ c → c ≤ 181 → σ1 c = s1 c := fun c c0 c2 => by rw [← hσ1, u2_ne (by omega), u2_ne (by omega), u2_ne (by omega)]
    have m220 : σ1 220 2 = 0 ∧ σ1 220 1 = σ 220 1 := by
      refine ⟨by rw [← hσ1, u2_ne (by omega), u2_ne (by omega), u2_e], ?_⟩
      rw [← hσ1, u2_ne (by omega), u2_ne (by omega), u2_i (by omega), kc 220 (by omega) (by omega)]
      exact g2 220 1 (by unfold SLC SRD; omega)
    have mr : ∀ c, 758 ≤ c → σ1 c = σ c := fun c hc => by rw [mc c (by omega) (by omega) (by omega) (by omega), gr c hc]
    -- the reference's
    obtain ⟨r', k1, k2, k3, k4, k5, k6⟩ := g3 (u2 (u2 σ1 758 0 0) 758 0 0) (by rw [u2_i (by omega), u2_i (by omega), mr 758 (by omega)]) (by rw [u2_ne (by omega), u2_ne (by omega), mr 759 (by omega)])
    rcases k6 with ⟨_, K0, q1, q2, q3, q4⟩ | q
    rotate_left
    · exact absurd hf q
    have q2' : DR (u2 r' 758 2 0) K0 := q2.u2
    obtain ⟨hK, hN⟩ := WK.told q2' q3 q4
    obtain ⟨r3, t1, t2, t3⟩ := R_tells q2' q3 q4
    obtain ⟨r4, w1, w2, w3, w4, w5⟩ := R_zero (r := r3)
    have hA : FM STT σ1 (u2 (u2 σ1 758 0 0) 758 0 0) := (FM.refl.u (Or.inr (Or.inl ⟨rfl, Or.inl rfl⟩))).u (Or.inr (Or.inl ⟨rfl, Or.inl rfl⟩))
    have hB : FM STT (u2 (u2 σ1 758 0 0) 758 0 0) r' := k2.mono (fun c j q => Or.inl q)
    have hC : FM STT r' (u2 r' 758 2 0) := FM.refl.u (Or.inr (Or.inl ⟨rfl, Or.inr rfl⟩))
    have hD : FM STT (u2 r' 758 2 0) r3 := t3.mono (fun c j q => Or.inr (Or.inr (Or.inl q)))
    have hE : FM STT r3 r4 := w5.mono (fun c j q => Or.inr (Or.inr (Or.inr q)))
    have hall : FM STT σ1 r4 := (((hA.trans hB).trans hC).trans hD).trans hE
    have lo : ∀ c, c < 758 → r4 c = σ1 c := fun c hc => funext fun j => hall c j (by unfold STT SLR SRE STE; omega)
    have n02 : r4 0 2 = (((σ 0 3).toNat : Nat) : Int) := by rw [lo 0 (by omega), m02]
    have n03 : r4 0 3 = (((σ 0 2).toNat : Nat) : Int) := by rw [lo 0 (by omega), m03]
    have ea : (r4 0 2).toNat = (σ 0 3).toNat := by omega
    have hRM : RM r4 (m_told (u2 r' 758 2 0) K0) := t2.frame (fun c hc => funext fun j => w5 c j (by omega)) (fun j hj => w5 758 j (by omega))
    have hRC : RC r4 (r4 0 2).toNat (m_told (u2 r' 758 2 0) K0) := by
      rw [ea]
      exact (q1.told q2').frame (by have := hK.1; omega) (fun c d1 d2 => by rw [lo c (by omega), mc c (by omega) (by omega) (by omega) (by omega)])
    have hans : r4 758 21 = r4 (r4 0 2).toNat 0 := by rw [hRM.1.1, hRC.1.1]
    have e758 : ∀ j, j = 35 ∨ j = 38 ∨ j = 39 ∨ j = 30 → r4 758 j = σ 758 j := fun j hj => by rw [hall 758 j (by unfold STT SLR SRE STE; omega), mr 758 (by omega)]
    have hP : PV r4 (m_told (u2 r' 758 2 0) K0) 0 0 0 (fun _ _ => 0) 0 := by
      refine PV_new hK (by rw [ea]; exact x2) hRC hRM (fun j hj => ?_) (fun j hj => ?_) (fun j hj => ?_) (fun j hj => ?_) w2 ?_ ?_ ?_ ?_ w3 w4 ?_ ?_ (fun i hi => ?_)
      · rw [lo 173 (by omega), ms 173 (by omega) (by omega)]
        exact s3 j hj
      · rw [lo (173 + 1) (by omega), lo (173 + 2) (by omega), lo (173 + 3) (by omega), lo (173 + 4) (by omega), ms (173 + 1) (by omega) (by omega), ms (173 + 2) (by omega) (by omega), ms (173 + 3) (by omega) (by omega), ms (173 + 4) (by omega) (by omega)]
        exact s4 j hj
      · rw [lo (173 + 5) (by omega), lo (173 + 6) (by omega), lo (173 + 7) (by omega), ms (173 + 5) (by omega) (by omega), ms (173 + 6) (by omega) (by omega), ms (173 + 7) (by omega) (by omega)]
        exact s5 j hj
      · rw [lo (173 + 8) (by omega), ms (173 + 8) (by omega) (by omega)]
        exact s6 j hj
      · rw [lo 220 (by omega), m220.1]
      · rw [lo 0 (by omega), m09]
      · rw [lo 220 (by omega), m220.2]
        exact hh
      · rw [e758 35 (by omega)]
        exact hr
      · rw [e758 38 (by omega)]
        exact z1
      · rw [e758 39 (by omega)]
        exact z2
      · rw [lo 757 (by omega), mc 757 (by omega) (by omega) (by omega) (by omega), hall 768 i (by unfold STT SLR SRE STE; omega), mr 768 (by omega), g2 757 i (by unfold SLC SRD; omega)]
        exact z3 i hi
    have r2 : r4 758 2 = 0 := by rw [w5 758 2 (by omega), t3 758 2 (by unfold STE; omega), u2_e]
    refine ⟨r4 758 21, σ1, r4, ?_, ?_, ⟨⟨N, stp, len, hG.swap n02 n03, ⟨by rw [lo 2 (by omega), m21, r2], by omega, by omega, fun j hj => by rw [r2] at hj; omega⟩, hQ.frame (by rw [lo 0 (by omega), m00 5 (by omega) (by omega) (by omega)]) (e758 30 (by omega)) (fun c d1 d2 => by rw [lo c (by omega), mc c (by omega) (by omega) (by omega) (by omega)]; exact funext fun j => g2 c j (by unfold SLC SRD; omega)) (fun c d1 d2 => funext fun j => by rw [hall c j (by unfold STT SLR SRE STE; omega), mr c (by omega)]), by rw [lo 220 (by omega), m220.2]; exact hh, by rw [e758 35 (by omega)]; exact hr, by rw [e758 38 (by omega)]; exact z1, by rw [e758 39 (by omega)]; exact z2, hP.2.2.2⟩, Or.inr ⟨_, 0, 0, 0, _, 0, hP, hK, hN, hb, hb⟩⟩⟩
    · rw [f_X11_text_e]
      unfold f_X11_takeChip f_X3_forget
      rw [if_pos rfl, if_pos x2, g1, Option.bind_some, if_pos hf]
      simp only []
      rw [if_pos (show (c' 0 2).toNat ∈ ax_iX1 by rw [g0]; exact x1), if_pos (show (c' 0 3).toNat ∈ ax_iX1 by rw [g0]; exact x2), s2, Option.bind_some, Option.bind_some, hσ1, if_pos (show (σ1 0 2).toNat ∈ ax_iX1 by rw [m02]; exact x2), Option.bind_some]
      rw [hans, lo 0 (by omega), lo (σ1 0 2).toNat (by rw [m02]; omega)]
    · unfold f_X12_text f_X12_text_28
      rw [R_isIn_y (by omega) (by omega), Option.bind_some, if_neg (show ¬ (1 : Int) = 0 by omega), if_neg (show ¬ (0 : Int) = 1 by omega), T_fault0 k1, Option.bind_some, if_pos (show r' 758 4 = -1 by rw [k5, hf]), if_neg (show ¬ (0 : Int) = 1 by omega), t1, Option.bind_some, w1]
  · obtain ⟨r', k1, k2, k3, k4, k5, k6⟩ := g3 (u2 (u2 c' 758 0 0) 758 0 0) (by rw [u2_i (by omega), u2_i (by omega), gr 758 (by omega)]) (by rw [u2_ne (by omega), u2_ne (by omega), gr 759 (by omega)])
    refine ⟨-1, c', r', ?_, ?_, h'.keep2 g2 (((FM.refl.u (Or.inr ⟨rfl, rfl⟩)).u (Or.inr ⟨rfl, rfl⟩)).trans (k2.mono (fun c j hc => Or.inl hc))) (SLC.scr (by omega)) SLR.scr⟩
    · rw [f_X11_text_e]
      unfold f_X11_takeChip
      rw [if_pos rfl, if_pos x2, g1, Option.bind_some, if_neg hf, Option.bind_some]
    · unfold f_X12_text f_X12_text_28
      rw [R_isIn_y (by omega) (by omega), Option.bind_some, if_neg (show ¬ (1 : Int) = 0 by omega), if_neg (show ¬ (0 : Int) = 1 by omega), T_fault0 k1, Option.bind_some, if_neg (show ¬ r' 758 4 = -1 by rw [k5]; exact hf)]
end S_T1
