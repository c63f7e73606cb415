-- the cluster's answer, the class's and the reference's in memories that differ at the law's own row
section S_C2
variable {σ τ K : Nat → Nat → Int} {v1 v2 b : Int}
set_option maxHeartbeats 4000000 in
theorem Q_cluster2 (h : PQ σ K) (ht : PQ τ K) (hw : τ 776 = σ 776) : (f_cl v1 v2 σ = some none ∧ f_X12_cluster v1 v2 τ = some (0, u2 (u2 τ 758 0 0) 758 0 1)) ∨ ∃ r, f_cl v1 v2 σ = some (some r) ∧ f_X12_cluster v1 v2 τ = some (r, u2 τ 758 0 0) := by
  obtain ⟨a1, a2, a3, a4⟩ := ht.ref (τ := τ) (fun c hc => rfl)
  rw [hw] at a2
  obtain ⟨h0, hC, hR, _, hK, hS, hL, _, _⟩ := h
  have hM := ht.2.2.2.1
  have h38 := ht.2.2.2.2.2.2.2.1
  have h39 := ht.2.2.2.2.2.2.2.2
  have hkn := hK.n
  have hS' : WS K ((u2 τ 758 0 0) 776) := by rw [a2]; exact hS
  unfold f_cl f_X12_cluster f_X1_clusterFact f_X11_clusterNow f_X12_cluster_88
  rw [if_pos h0]
  by_cases d1 : 0 ≤ v1 ∧ v1 < K 0 0
  · have hk := hK.c d1.1 d1.2
    rw [R_isCluster_y a1 d1.1 d1.2]
    by_cases d2 : 0 ≤ v2 ∧ v2 ≤ 10
    · right
      have r7 := R_lowOf (b := 776) (c := v1) hS' (show 1 ≤ K 4 v1.toNat by omega)
      have r8 := R_highOf (b := 776) a1 hK hS' a3 (show (u2 τ 758 0 0) 758 39 = τ 758 39 from u2_i (by omega)) d1.1 d1.2
      have r9 := R_needOf (b := 776) a1 hK hS' d1.1 d1.2
      have r10 := R_wantOf (b := 776) a1 hK hS' d1.1 d1.2
      rw [a2] at r7 r8 r9 r10
      have q7 := C_lowOf (c := v1) hR hS (Int.le_refl 0) (show 1 ≤ K 4 v1.toNat by omega)
      have q8 := C_highOf hR hC hK hS (Int.le_refl 0) d1.1 d1.2
      have q9 := C_needOf hR hC hK hS d1.1 d1.2
      have q10 := C_wantOf hR hC hK hS d1.1 d1.2
      have ehi : m_high K (σ 776) (-1) (τ 758 39) v1 = m_high K (σ 776) (-1) 0 v1 := by
        unfold m_high
        rw [if_neg (by omega), if_neg (by omega)]
      rw [ehi] at r8
      have c3 : 0 ≤ v1 ∧ v1 < 3 := by omega
      have k : v2 = 0 ∨ v2 = 1 ∨ v2 = 2 ∨ v2 = 3 ∨ v2 = 4 ∨ v2 = 5 ∨ v2 = 6 ∨ v2 = 7 ∨ v2 = 8 ∨ v2 = 9 ∨ v2 = 10 := by omega
      have f0 := hM.c0 c3.1 c3.2
      have f1 := hM.c1 c3.1 c3.2
      have f2 := hM.c2 c3.1 c3.2
      have f3 := hM.c3 c3.1 c3.2
      have g2 := hC.c2 d1.1 d1.2
      have g3 := hC.c3 d1.1 d1.2
      have g4 := hC.c4 d1.1 d1.2
      have g5 := hC.c5 d1.1 d1.2
      have s5 := hR.c5 d1.1 d1.2
      have s6 := hR.c6 d1.1 d1.2
      have s7 := hR.c7 d1.1 d1.2
      have i2 := R_isIn_y (σ := u2 τ 758 0 0) d2.1 d2.2
      have hc1 := C_hasCluster_y hC d1.1 d1.2
      rcases k with rfl | rfl | rfl | rfl | rfl | rfl | rfl | rfl | rfl | rfl | rfl
      · exact ⟨K 1 v1.toNat, by simp (disch := first | assumption | omega) only [if_true, if_false, zid, zlid, if_pos, if_neg, u2_e, u2_c, u2_i, u1_e, u1_i, Option.bind_some, hc1, g2], by simp (disch := first | assumption | omega) only [if_true, if_false, zid, zlid, if_pos, if_neg, u2_e, u2_c, u2_i, u1_e, u1_i, Option.bind_some, i2, Int.add_zero, f0]⟩
      · exact ⟨K 2 v1.toNat, by simp (disch := first | assumption | omega) only [if_true, if_false, zid, zlid, if_pos, if_neg, u2_e, u2_c, u2_i, u1_e, u1_i, Option.bind_some, hc1, g3], by simp (disch := first | assumption | omega) only [if_true, if_false, zid, zlid, if_pos, if_neg, u2_e, u2_c, u2_i, u1_e, u1_i, Option.bind_some, i2, f1]⟩
      · exact ⟨K 3 v1.toNat, by simp (disch := first | assumption | omega) only [if_true, if_false, zid, zlid, if_pos, if_neg, u2_e, u2_c, u2_i, u1_e, u1_i, Option.bind_some, hc1, g4], by simp (disch := first | assumption | omega) only [if_true, if_false, zid, zlid, if_pos, if_neg, u2_e, u2_c, u2_i, u1_e, u1_i, Option.bind_some, i2, f2]⟩
      · exact ⟨K 4 v1.toNat, by simp (disch := first | assumption | omega) only [if_true, if_false, zid, zlid, if_pos, if_neg, u2_e, u2_c, u2_i, u1_e, u1_i, Option.bind_some, hc1, g5], by simp (disch := first | assumption | omega) only [if_true, if_false, zid, zlid, if_pos, if_neg, u2_e, u2_c, u2_i, u1_e, u1_i, Option.bind_some, i2, f3]⟩
      · exact ⟨σ 776 v1.toNat, by simp (disch := first | assumption | omega) only [if_true, if_false, zid, zlid, if_pos, if_neg, u2_e, u2_c, u2_i, u1_e, u1_i, Option.bind_some, hc1, s5], by simp (disch := first | assumption | omega) only [if_true, if_false, zid, zlid, if_pos, if_neg, u2_e, u2_c, u2_i, u1_e, u1_i, Option.bind_some, i2, a2, hw, Int.zero_add]⟩
      · exact ⟨σ 776 (3 + v1).toNat, by simp (disch := first | assumption | omega) only [if_true, if_false, zid, zlid, if_pos, if_neg, u2_e, u2_c, u2_i, u1_e, u1_i, Option.bind_some, hc1, s6], by simp (disch := first | assumption | omega) only [if_true, if_false, zid, zlid, if_pos, if_neg, u2_e, u2_c, u2_i, u1_e, u1_i, Option.bind_some, i2, a2, hw]⟩
      · exact ⟨σ 776 (6 + v1).toNat, by simp (disch := first | assumption | omega) only [if_true, if_false, zid, zlid, if_pos, if_neg, u2_e, u2_c, u2_i, u1_e, u1_i, Option.bind_some, hc1, s7], by simp (disch := first | assumption | omega) only [if_true, if_false, zid, zlid, if_pos, if_neg, u2_e, u2_c, u2_i, u1_e, u1_i, Option.bind_some, i2, a2, hw]⟩
      · exact ⟨m_low (σ 776) v1, by simp (disch := first | assumption | omega) only [if_true, if_false, zid, zlid, if_pos, if_neg, u2_e, u2_c, u2_i, u1_e, u1_i, Option.bind_some, hc1, q7], by simp (disch := first | assumption | omega) only [if_true, if_false, zid, zlid, if_pos, if_neg, u2_e, u2_c, u2_i, u1_e, u1_i, Option.bind_some, i2, r7]⟩
      · exact ⟨m_high K (σ 776) (-1) 0 v1, by simp (disch := first | assumption | omega) only [if_true, if_false, zid, zlid, if_pos, if_neg, u2_e, u2_c, u2_i, u1_e, u1_i, Option.bind_some, hc1, q8], by simp (disch := first | assumption | omega) only [if_true, if_false, zid, zlid, if_pos, if_neg, u2_e, u2_c, u2_i, u1_e, u1_i, Option.bind_some, i2, r8]⟩
      · exact ⟨m_need K (σ 776) v1, by simp (disch := first | assumption | omega) only [if_true, if_false, zid, zlid, if_pos, if_neg, u2_e, u2_c, u2_i, u1_e, u1_i, Option.bind_some, hc1, q9], by simp (disch := first | assumption | omega) only [if_true, if_false, zid, zlid, if_pos, if_neg, u2_e, u2_c, u2_i, u1_e, u1_i, Option.bind_some, i2, r9]⟩
      · exact ⟨m_want K (σ 776) v1, by simp (disch := first | assumption | omega) only [if_true, if_false, zid, zlid, if_pos, if_neg, u2_e, u2_c, u2_i, u1_e, u1_i, Option.bind_some, hc1, q10], by simp (disch := first | assumption | omega) only [if_true, if_false, zid, zlid, if_pos, if_neg, u2_e, u2_c, u2_i, u1_e, u1_i, Option.bind_some, i2, r10]⟩
    · left
      refine ⟨?_, ?_⟩
      · rw [C_hasCluster_y hC d1.1 d1.2, Option.bind_some, if_neg (show ¬ (1 : Int) = 0 by omega)]
        by_cases e : v2 < 0
        · rw [if_pos e]
        · rw [if_neg e, if_neg (show ¬ v2 ≤ 10 by omega)]
      · rw [Option.bind_some, if_neg (show ¬ (1 : Int) = 0 by omega), R_isIn_n d2, Option.bind_some, if_pos rfl]
  · left
    refine ⟨?_, ?_⟩
    · rw [C_hasCluster_n hC d1, Option.bind_some, if_pos rfl]
    · rw [R_isCluster_n a1 d1, Option.bind_some, if_pos rfl]
theorem G_cluster2 (h : GV σ b) (hf : FM (fun c _ => c = 787) σ τ) : (f_cl v1 v2 σ = some none ∧ f_X12_cluster v1 v2 τ = some (0, u2 (u2 τ 758 0 0) 758 0 1)) ∨ ∃ r, f_cl v1 v2 σ = some (some r) ∧ f_X12_cluster v1 v2 τ = some (r, u2 τ 758 0 0) := by
  obtain ⟨⟨N, stp, len, hB⟩, hU | ⟨K, L, LI, n, H, hi, hP, hK, hN, hL, hLI⟩⟩ := h
  · have hU2 : UV τ := hU.keep hB.1 (hf.mono (fun c j q => by unfold SCR; omega))
    refine Or.inl ⟨?_, ?_⟩
    · unfold f_cl
      rw [if_pos hB.1.cell.1, U_hasCluster hU, Option.bind_some, if_pos rfl]
    · unfold f_X12_cluster
      rw [U_isCluster hU2, Option.bind_some, if_pos rfl]
  · have ha := hB.1.cell.2.2
    have hP2 : PV τ K L LI n H hi := hP.frame2 hK (hf 0 2 (by omega)) (hf 0 9 (by omega)) (fun c _ _ => funext fun j => hf c j (by omega)) (fun c _ _ _ => funext fun j => hf c j (by omega)) (funext fun j => hf 757 j (by omega)) (fun c hc => funext fun j => hf c j (by omega)) (fun j hj => hf 758 j (by omega)) ((hf 758 38 (by omega)).trans hP.2.1.2.2.2.1) (by rw [hf 758 39 (by omega)]; exact hP.2.1.2.2.2.2)
    exact Q_cluster2 (hP.q hK) (hP2.q hK) (funext fun j => hf 776 j (by omega))
end S_C2
