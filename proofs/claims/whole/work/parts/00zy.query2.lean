-- questions about the chip and the state, both sides
def f_cl (v1 v2 : Int) (σ : Nat → Nat → Int) : Option (Option Int) := if (σ 0 2).toNat ∈ ax_iX1 then (f_X1_hasCluster ((σ 0 2).toNat) v1 σ).bind fun q => if q = 0 then some none else if v2 < 0 then some none else if v2 ≤ 10 then (if v2 ≤ 3 then (if (σ 0 2).toNat ∈ ax_iX1 then (f_X1_clusterFact ((σ 0 2).toNat) v1 v2 σ).bind fun q2 => some (some q2) else none) else (f_X11_clusterNow v1 v2 σ).bind fun q2 => some (some q2)) else some none else none
section S_Q2
variable {σ K : Nat → Nat → Int} {v1 v2 v3 : Int}
theorem Q_rule (h : PQ σ K) : ∃ r, f_X11_rule v1 σ = some r ∧ f_X12_rule v1 σ = some (r, u2 σ 758 0 0) := by
  obtain ⟨a1, a2, a3, a4⟩ := h.ref (τ := σ) (fun c hc => rfl)
  obtain ⟨h0, hC, hR, hM, hK, hS, hL, h38, h39⟩ := h
  have hkn := hK.n
  unfold f_X11_rule f_X12_rule
  rw [if_pos h0, C_isTold_y hC (by omega), Option.bind_some, if_neg (show ¬ (1 : Int) = 0 by omega), a4, if_neg (show ¬ K 0 0 = 0 by omega)]
  by_cases d : 0 ≤ v1 ∧ v1 ≤ 7
  · rw [if_neg (show ¬ v1 < 0 by omega), if_pos d.2, R_isIn_y d.1 d.2, Option.bind_some, if_neg (show ¬ (1 : Int) = 0 by omega), a1.n3, a1.n2]
    by_cases e : v1 = 6
    · refine ⟨K 0 3, ?_, ?_⟩
      · rw [if_pos (show 6 ≤ v1 by omega), if_pos e, if_pos h0, hC.n3]
      · rw [if_pos e]
    · by_cases f : v1 = 7
      · refine ⟨K 0 2, ?_, ?_⟩
        · rw [if_pos (show 6 ≤ v1 by omega), if_neg e, if_pos h0, hC.n2]
        · rw [if_neg e, if_pos f]
      · refine ⟨K 10 v1.toNat, ?_, ?_⟩
        · rw [if_neg (show ¬ 6 ≤ v1 by omega), if_pos h0, if_pos (by omega), hC.r (by omega)]
        · rw [if_neg e, if_neg f, if_pos (by omega), a1.r (by omega)]
  · refine ⟨-1, ?_, ?_⟩
    · by_cases e : v1 < 0
      · rw [if_pos e]
      · rw [if_neg e, if_neg (by omega)]
    · rw [R_isIn_n d, Option.bind_some, if_pos rfl]
theorem Q_point (h : PQ σ K) : ∃ r, f_X11_point v1 v2 v3 σ = some r ∧ f_X12_point v1 v2 v3 σ = some (r, u2 σ 758 0 0) := by
  obtain ⟨a1, a2, a3, a4⟩ := h.ref (τ := σ) (fun c hc => rfl)
  obtain ⟨h0, hC, hR, hM, hK, hS, hL, h38, h39⟩ := h
  have hkn := hK.n
  unfold f_X11_point f_X12_point
  rw [if_pos h0]
  by_cases d1 : 0 ≤ v1 ∧ v1 < K 0 0
  · have hk := hK.c d1.1 d1.2
    rw [R_isCluster_y a1 d1.1 d1.2, Option.bind_some, if_neg (show ¬ (1 : Int) = 0 by omega), R_lastPoint a1 hK d1.1 d1.2, Option.bind_some]
    by_cases d2 : 0 ≤ v2 ∧ v2 < K 4 v1.toNat
    · rw [C_hasPoint_y hC (by omega) d1.1 d1.2 d2.1 d2.2, Option.bind_some, if_neg (show ¬ (1 : Int) = 0 by omega), R_isIn_y d2.1 (by omega), Option.bind_some, if_neg (show ¬ (1 : Int) = 0 by omega)]
      by_cases d3 : 0 ≤ v3 ∧ v3 ≤ 1
      · rw [R_isIn_y d3.1 d3.2, Option.bind_some, if_neg (show ¬ (1 : Int) = 0 by omega), if_neg (show ¬ v3 < 0 by omega), if_pos d3.2, zid (x := 5 * v1) (by omega) (by omega), zid (x := 5 * v1 + v2) (by omega) (by omega), zid (x := 2 * (5 * v1 + v2)) (by omega) (by omega), zid (x := 2 * (5 * v1 + v2) + v3) (by omega) (by omega), if_pos (show 0 ≤ 2 * (5 * v1 + v2) + v3 ∧ 2 * (5 * v1 + v2) + v3 < 30 by omega)]
        by_cases e : v3 = 0
        · rw [if_pos e, if_pos h0, if_pos (by omega), if_pos (by omega), e, Int.add_zero, hC.p7 d1.1 d1.2 d2.1 d2.2, a1.p0 d1.1 (by omega) d2.1 (by omega)]
          exact ⟨_, rfl, rfl⟩
        · rw [if_neg e, if_pos h0, if_pos (by omega), if_pos (by omega), show v3 = 1 from by omega, hC.p11 d1.1 d1.2 d2.1 d2.2, a1.p1 d1.1 (by omega) d2.1 (by omega)]
          exact ⟨_, rfl, rfl⟩
      · refine ⟨-1, ?_, ?_⟩
        · by_cases e : v3 < 0
          · rw [if_pos e]
          · rw [if_neg e, if_neg (by omega)]
        · rw [R_isIn_n d3, Option.bind_some, if_pos rfl]
    · rw [C_hasPoint_n hC (by omega) (by omega), Option.bind_some, if_pos rfl, R_isIn_n (by omega), Option.bind_some, if_pos rfl]
      exact ⟨_, rfl, rfl⟩
  · rw [C_hasPoint_n hC (by omega) (by omega), Option.bind_some, if_pos rfl, R_isCluster_n a1 d1, Option.bind_some, if_pos rfl]
    exact ⟨_, rfl, rfl⟩
set_option maxHeartbeats 1000000 in
theorem Q_cluster (h : PQ σ K) : (f_cl v1 v2 σ = some none ∧ f_X12_cluster v1 v2 σ = some (0, u2 (u2 σ 758 0 0) 758 0 1)) ∨ ∃ r, f_cl v1 v2 σ = some (some r) ∧ f_X12_cluster v1 v2 σ = some (r, u2 σ 758 0 0) := by
  obtain ⟨a1, a2, a3, a4⟩ := h.ref (τ := σ) (fun c hc => rfl)
  obtain ⟨h0, hC, hR, hM, hK, hS, hL, h38, h39⟩ := h
  have hkn := hK.n
  have hS' : WS K ((u2 σ 758 0 0) 776) := by rw [a2]; exact hS
  unfold f_cl f_X12_cluster f_X1_clusterFact f_X11_clusterNow f_X12_cluster_88
  rw [if_pos h0]
  by_cases d1 : 0 ≤ v1 ∧ v1 < K 0 0
  · have hk := hK.c d1.1 d1.2
    rw [R_isCluster_y a1 d1.1 d1.2]
    by_cases d2 : 0 ≤ v2 ∧ v2 ≤ 10
    · right
      have r7 := R_lowOf (b := 776) (c := v1) hS' (show 1 ≤ K 4 v1.toNat by omega)
      have r8 := R_highOf (b := 776) a1 hK hS' a3 (show (u2 σ 758 0 0) 758 39 = σ 758 39 from u2_i (by omega)) d1.1 d1.2
      have r9 := R_needOf (b := 776) a1 hK hS' d1.1 d1.2
      have r10 := R_wantOf (b := 776) a1 hK hS' d1.1 d1.2
      rw [a2] at r7 r8 r9 r10
      have q7 := C_lowOf (c := v1) hR hS (Int.le_refl 0) (show 1 ≤ K 4 v1.toNat by omega)
      have q8 := C_highOf hR hC hK hS (Int.le_refl 0) d1.1 d1.2
      have q9 := C_needOf hR hC hK hS d1.1 d1.2
      have q10 := C_wantOf hR hC hK hS d1.1 d1.2
      have ehi : m_high K (σ 776) (-1) (σ 758 39) v1 = m_high K (σ 776) (-1) 0 v1 := by
        unfold m_high
        rw [if_neg (by omega), if_neg (by omega)]
      rw [ehi] at r8
      have c3 : 0 ≤ v1 ∧ v1 < 3 := by omega
      have k : v2 = 0 ∨ v2 = 1 ∨ v2 = 2 ∨ v2 = 3 ∨ v2 = 4 ∨ v2 = 5 ∨ v2 = 6 ∨ v2 = 7 ∨ v2 = 8 ∨ v2 = 9 ∨ v2 = 10 := by omega
      have f0 := hM.c0 c3.1 c3.2
      have f1 := hM.c1 c3.1 c3.2
      have f2 := hM.c2 c3.1 c3.2
      have f3 := hM.c3 c3.1 c3.2
      have g2 := hC.c2 d1.1 d1.2
      have g3 := hC.c3 d1.1 d1.2
      have g4 := hC.c4 d1.1 d1.2
      have g5 := hC.c5 d1.1 d1.2
      have s5 := hR.c5 d1.1 d1.2
      have s6 := hR.c6 d1.1 d1.2
      have s7 := hR.c7 d1.1 d1.2
      have i2 := R_isIn_y (σ := u2 σ 758 0 0) d2.1 d2.2
      have hc1 := C_hasCluster_y hC d1.1 d1.2
      rcases k with rfl | rfl | rfl | rfl | rfl | rfl | rfl | rfl | rfl | rfl | rfl
      · exact ⟨K 1 v1.toNat, by simp (disch := first | assumption | omega) only [if_true, if_false, zid, zlid, if_pos, if_neg, u2_e, u2_c, u2_i, u1_e, u1_i, Option.bind_some, hc1, g2], by simp (disch := first | assumption | omega) only [if_true, if_false, zid, zlid, if_pos, if_neg, u2_e, u2_c, u2_i, u1_e, u1_i, Option.bind_some, i2, Int.add_zero, f0]⟩
      · exact ⟨K 2 v1.toNat, by simp (disch := first | assumption | omega) only [if_true, if_false, zid, zlid, if_pos, if_neg, u2_e, u2_c, u2_i, u1_e, u1_i, Option.bind_some, hc1, g3], by simp (disch := first | assumption | omega) only [if_true, if_false, zid, zlid, if_pos, if_neg, u2_e, u2_c, u2_i, u1_e, u1_i, Option.bind_some, i2, f1]⟩
      · exact ⟨K 3 v1.toNat, by simp (disch := first | assumption | omega) only [if_true, if_false, zid, zlid, if_pos, if_neg, u2_e, u2_c, u2_i, u1_e, u1_i, Option.bind_some, hc1, g4], by simp (disch := first | assumption | omega) only [if_true, if_false, zid, zlid, if_pos, if_neg, u2_e, u2_c, u2_i, u1_e, u1_i, Option.bind_some, i2, f2]⟩
      · exact ⟨K 4 v1.toNat, by simp (disch := first | assumption | omega) only [if_true, if_false, zid, zlid, if_pos, if_neg, u2_e, u2_c, u2_i, u1_e, u1_i, Option.bind_some, hc1, g5], by simp (disch := first | assumption | omega) only [if_true, if_false, zid, zlid, if_pos, if_neg, u2_e, u2_c, u2_i, u1_e, u1_i, Option.bind_some, i2, f3]⟩
      · exact ⟨σ 776 v1.toNat, by simp (disch := first | assumption | omega) only [if_true, if_false, zid, zlid, if_pos, if_neg, u2_e, u2_c, u2_i, u1_e, u1_i, Option.bind_some, hc1, s5], by simp (disch := first | assumption | omega) only [if_true, if_false, zid, zlid, if_pos, if_neg, u2_e, u2_c, u2_i, u1_e, u1_i, Option.bind_some, i2, a2, Int.zero_add]⟩
      · exact ⟨σ 776 (3 + v1).toNat, by simp (disch := first | assumption | omega) only [if_true, if_false, zid, zlid, if_pos, if_neg, u2_e, u2_c, u2_i, u1_e, u1_i, Option.bind_some, hc1, s6], by simp (disch := first | assumption | omega) only [if_true, if_false, zid, zlid, if_pos, if_neg, u2_e, u2_c, u2_i, u1_e, u1_i, Option.bind_some, i2, a2]⟩
      · exact ⟨σ 776 (6 + v1).toNat, by simp (disch := first | assumption | omega) only [if_true, if_false, zid, zlid, if_pos, if_neg, u2_e, u2_c, u2_i, u1_e, u1_i, Option.bind_some, hc1, s7], by simp (disch := first | assumption | omega) only [if_true, if_false, zid, zlid, if_pos, if_neg, u2_e, u2_c, u2_i, u1_e, u1_i, Option.bind_some, i2, a2]⟩
      · exact ⟨m_low (σ 776) v1, by simp (disch := first | assumption | omega) only [if_true, if_false, zid, zlid, if_pos, if_neg, u2_e, u2_c, u2_i, u1_e, u1_i, Option.bind_some, hc1, q7], by simp (disch := first | assumption | omega) only [if_true, if_false, zid, zlid, if_pos, if_neg, u2_e, u2_c, u2_i, u1_e, u1_i, Option.bind_some, i2, r7]⟩
      · exact ⟨m_high K (σ 776) (-1) 0 v1, by simp (disch := first | assumption | omega) only [if_true, if_false, zid, zlid, if_pos, if_neg, u2_e, u2_c, u2_i, u1_e, u1_i, Option.bind_some, hc1, q8], by simp (disch := first | assumption | omega) only [if_true, if_false, zid, zlid, if_pos, if_neg, u2_e, u2_c, u2_i, u1_e, u1_i, Option.bind_some, i2, r8]⟩
      · exact ⟨m_need K (σ 776) v1, by simp (disch := first | assumption | omega) only [if_true, if_false, zid, zlid, if_pos, if_neg, u2_e, u2_c, u2_i, u1_e, u1_i, Option.bind_some, hc1, q9], by simp (disch := first | assumption | omega) only [if_true, if_false, zid, zlid, if_pos, if_neg, u2_e, u2_c, u2_i, u1_e, u1_i, Option.bind_some, i2, r9]⟩
      · exact ⟨m_want K (σ 776) v1, by simp (disch := first | assumption | omega) only [if_true, if_false, zid, zlid, if_pos, if_neg, u2_e, u2_c, u2_i, u1_e, u1_i, Option.bind_some, hc1, q10], by simp (disch := first | assumption | omega) only [if_true, if_false, zid, zlid, if_pos, if_neg, u2_e, u2_c, u2_i, u1_e, u1_i, Option.bind_some, i2, r10]⟩
    · left
      refine ⟨?_, ?_⟩
      · rw [C_hasCluster_y hC d1.1 d1.2, Option.bind_some, if_neg (show ¬ (1 : Int) = 0 by omega)]
        by_cases e : v2 < 0
        · rw [if_pos e]
        · rw [if_neg e, if_neg (show ¬ v2 ≤ 10 by omega)]
      · rw [Option.bind_some, if_neg (show ¬ (1 : Int) = 0 by omega), R_isIn_n d2, Option.bind_some, if_pos rfl]
  · left
    refine ⟨?_, ?_⟩
    · rw [C_hasCluster_n hC d1, Option.bind_some, if_pos rfl]
    · rw [R_isCluster_n a1 d1, Option.bind_some, if_pos rfl]
theorem Q_asked (h : PQ σ K) : ∃ r, f_X11_asked v1 v2 σ = some r ∧ f_X12_asked v1 v2 σ = some (r, u2 σ 758 0 0) := by
  obtain ⟨a1, a2, a3, a4⟩ := h.ref (τ := σ) (fun c hc => rfl)
  obtain ⟨h0, hC, hR, hM, hK, hS, hL, h38, h39⟩ := h
  have hn := hS.n
  have n4 := hR.n4
  rw [if_pos rfl, Int.add_zero] at n4
  unfold f_X11_asked f_X12_asked f_X7_hasAsk
  rw [a2, zid (x := σ 776 44 - 1) (by omega) (by omega), n4]
  by_cases d1 : 0 ≤ v1 ∧ v1 < σ 776 44
  · rw [if_neg (show ¬ v1 < 0 by omega), if_neg (show ¬ σ 776 44 ≤ v1 by omega), Option.bind_some, if_neg (show ¬ (1 : Int) = 0 by omega), R_isIn_y d1.1 (by omega), Option.bind_some, if_neg (show ¬ (1 : Int) = 0 by omega)]
    by_cases d2 : 0 ≤ v2 ∧ v2 ≤ 2
    · rw [R_isIn_y d2.1 d2.2, Option.bind_some, if_neg (show ¬ (1 : Int) = 0 by omega), zid (x := 5 * v1) (by omega) (by omega), zid (x := 47 + 5 * v1) (by omega) (by omega), zid (x := 47 + 5 * v1 + v2) (by omega) (by omega), if_pos (show 0 ≤ 47 + 5 * v1 + v2 ∧ 47 + 5 * v1 + v2 < 256 by omega)]
      have k : v2 = 0 ∨ v2 = 1 ∨ v2 = 2 := by omega
      have k10 := hR.k10 d1.1 d1.2
      have k11 := hR.k11 d1.1 d1.2
      have k12 := hR.k12 d1.1 d1.2
      rcases k with rfl | rfl | rfl
      · exact ⟨σ 776 (47 + 5 * v1).toNat, by simp (disch := first | assumption | omega) only [if_true, if_false, zid, zlid, if_pos, if_neg, u2_e, u2_c, u2_i, u1_e, u1_i, Option.bind_some, k10], by rw [Int.add_zero]⟩
      · exact ⟨σ 776 (48 + 5 * v1).toNat, by simp (disch := first | assumption | omega) only [if_true, if_false, zid, zlid, if_pos, if_neg, u2_e, u2_c, u2_i, u1_e, u1_i, Option.bind_some, k11], by rw [show (47 + 5 * v1 + 1) = 48 + 5 * v1 from by omega]⟩
      · exact ⟨σ 776 (49 + 5 * v1).toNat, by simp (disch := first | assumption | omega) only [if_true, if_false, zid, zlid, if_pos, if_neg, u2_e, u2_c, u2_i, u1_e, u1_i, Option.bind_some, k12], by rw [show (47 + 5 * v1 + 2) = 49 + 5 * v1 from by omega]⟩
    · refine ⟨-1, ?_, ?_⟩
      · rw [if_neg (by omega), if_neg (by omega), if_neg (by omega)]
      · rw [R_isIn_n d2, Option.bind_some, if_pos rfl]
  · refine ⟨-1, ?_, ?_⟩
    · by_cases e : v1 < 0
      · rw [if_pos e, Option.bind_some, if_pos rfl]
      · rw [if_neg e, if_pos (by omega), Option.bind_some, if_pos rfl]
    · rw [R_isIn_n (by omega), Option.bind_some, if_pos rfl]
/-- the chip's names -/
def KN (K : Nat → Nat → Int) : Prop := (∀ c : Int, 0 ≤ c → c < K 0 0 → NB (K 11 c.toNat)) ∧ (∀ t : Int, 0 ≤ t → t < K 0 1 → NB (K 12 t.toNat))
theorem Q_name (h : PQ σ K) (hN : KN K) : ∃ r, f_X11_name v1 v2 v3 σ = some r ∧ f_X12_name v1 v2 v3 σ = some (r, u2 σ 758 0 0) := by
  obtain ⟨a1, a2, a3, a4⟩ := h.ref (τ := σ) (fun c hc => rfl)
  obtain ⟨h0, hC, hR, hM, hK, hS, hL, h38, h39⟩ := h
  have hkn := hK.n
  have hn := hS.n
  have n4 := hR.n4
  rw [if_pos rfl, Int.add_zero] at n4
  have nb : ∀ {x : Int}, NB x → ∃ r, f_X11_letterOf x v3 σ = some r ∧ f_X12_letterOf x v3 (u2 σ 758 0 0) = some r := fun hx => by
    obtain ⟨r, p⟩ := hx v3
    exact ⟨r, (p _).1, (p _).2⟩
  unfold f_X11_name f_X12_name f_X11_name_29 f_X11_name_59 f_X7_hasAsk
  rw [a2, zid (x := σ 776 44 - 1) (by omega) (by omega), n4]
  by_cases e0 : v1 = 0
  · rw [if_pos e0, if_pos e0, if_pos h0, if_neg (by omega), if_neg (by omega)]
    by_cases d : 0 ≤ v2 ∧ v2 < K 0 0
    · obtain ⟨r, p, q⟩ := nb (hN.1 v2 d.1 d.2)
      rw [C_hasCluster_y hC d.1 d.2, R_isCluster_y a1 d.1 d.2, Option.bind_some, Option.bind_some, if_neg (show ¬ (1 : Int) = 0 by omega), if_neg (show ¬ (1 : Int) = 0 by omega), if_pos h0, if_pos (by omega), if_pos (by omega), hC.c1 d.1 d.2, a1.x11 d.1 (by omega), p, q]
      exact ⟨r, rfl, rfl⟩
    · rw [C_hasCluster_n hC d, R_isCluster_n a1 d, Option.bind_some, Option.bind_some, if_pos rfl, if_pos rfl]
      exact ⟨_, rfl, rfl⟩
  rw [if_neg e0, if_neg e0]
  by_cases e1 : v1 = 1
  · rw [if_pos e1, if_pos e1, if_pos h0, if_neg (by omega)]
    by_cases d : 0 ≤ v2 ∧ v2 < K 0 1
    · obtain ⟨r, p, q⟩ := nb (hN.2 v2 d.1 d.2)
      rw [C_hasTask_y hC d.1 d.2, R_isTask_y a1 d.1 d.2, Option.bind_some, Option.bind_some, if_neg (show ¬ (1 : Int) = 0 by omega), if_neg (show ¬ (1 : Int) = 0 by omega), if_pos h0, if_pos (by omega), if_pos (by omega), hC.t15 d.1 d.2, a1.x12 d.1 (by omega), p, q]
      exact ⟨r, rfl, rfl⟩
    · rw [C_hasTask_n hC d, R_isTask_n a1 d, Option.bind_some, Option.bind_some, if_pos rfl, if_pos rfl]
      exact ⟨_, rfl, rfl⟩
  rw [if_neg e1, if_neg e1]
  by_cases e2 : v1 = 2
  · rw [if_pos e2, if_pos e2]
    by_cases d : 0 ≤ v2 ∧ v2 < σ 776 44
    · have hk := hS.k d.1 d.2
      obtain ⟨r, p, q⟩ := nb hk.2.2.2.2.2.2
      rw [if_neg (show ¬ v2 < 0 by omega), if_neg (show ¬ σ 776 44 ≤ v2 by omega), Option.bind_some, if_neg (show ¬ (1 : Int) = 0 by omega), R_isIn_y d.1 (by omega), Option.bind_some, if_neg (show ¬ (1 : Int) = 0 by omega), if_pos (by omega), hR.k9 d.1 d.2, R_nameOf d.1 (by omega), Option.bind_some, a2, p, q]
      exact ⟨r, rfl, rfl⟩
    · refine ⟨-1, ?_, ?_⟩
      · by_cases e : v2 < 0
        · rw [if_pos e, Option.bind_some, if_pos rfl]
        · rw [if_neg e, if_pos (by omega), Option.bind_some, if_pos rfl]
      · rw [R_isIn_n (by omega), Option.bind_some, if_pos rfl]
  · rw [if_neg e2, if_neg e2]
    exact ⟨_, rfl, rfl⟩
end S_Q2
