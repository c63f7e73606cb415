-- prices and ways asked for, both sides
/-- what questions look at: both chips, both states; K holds the log's length -/
def PQ (σ K : Nat → Nat → Int) : Prop := (σ 0 2).toNat ∈ ax_iX1 ∧ RC σ (σ 0 2).toNat K ∧ RS σ 173 K (σ 776) (-1) 0 ∧ RM σ K ∧ WK K ∧ WS K (σ 776) ∧ WL K (σ 776) ∧ σ 758 38 = -1 ∧ 0 ≤ σ 758 39
/-- what questions may touch -/
def SQ1 : Nat → Nat → Prop := fun c _ => (186 ≤ c ∧ c < 199) ∨ (744 ≤ c ∧ c ≤ 756)
def SQ2 : Nat → Nat → Prop := fun c j => c = 777 ∨ (780 ≤ c ∧ c ≤ 786) ∨ (c = 758 ∧ (j = 0 ∨ j = 41 ∨ j = 42 ∨ j = 47))
section S_PL
variable {σ K : Nat → Nat → Int} {H : Int → Nat → Int} {L LI n hi v1 v2 : Int}
theorem PV.q (h : PV σ K L LI n H hi) (hK : WK K) : PQ σ (KL K L) := by
  obtain ⟨hC, hR, hD, hc⟩ := h
  exact ⟨hC.1, hC.2.1.kl, hC.2.2.1, hR.1.kl, hK.kl, WS.kl.mpr hD.1, WL.kl.mpr hD.2.1, hR.2.2.2.1, hR.2.2.2.2⟩
theorem R_lay {τ : Nat → Nat → Int} (hM : RM τ K) (hK : WK K) (hS : WS K (τ 776)) : ∃ σ2, f_X12_laysShares 776 τ = some σ2 ∧ RSH σ2 K (m_shs K (τ 776)) ∧ RM σ2 K ∧ σ2 776 = τ 776 ∧ σ2 758 = τ 758 ∧ FM SQ2 τ σ2 := by
  obtain ⟨σ2, k1, k2, k3⟩ := R_laysShares (b := 776) hM hK hS (by omega) (by omega)
  exact ⟨σ2, k1, k2, hM.fm k3 (fun c j h => by omega), funext fun j => k3 776 j (by omega), funext fun j => k3 758 j (by omega), k3.mono (fun c j hc => by unfold SQ2; omega)⟩
theorem PQ.ref {τ : Nat → Nat → Int} (h : PQ σ K) (hf : ∀ c, 758 ≤ c → τ c = σ c) : RM (u2 τ 758 0 0) K ∧ (u2 τ 758 0 0) 776 = σ 776 ∧ (u2 τ 758 0 0) 758 38 = -1 ∧ (u2 τ 758 0 0) 758 21 = K 0 0 := by
  obtain ⟨h0, hC, hR, hM, hK, hS, hL, h38, h39⟩ := h
  refine ⟨hM.frame (fun c hc => by rw [u2_ne (by omega), hf c (by omega)]) (fun j hj => by rw [u2_i (by omega), hf 758 (by omega)]), by rw [u2_ne (by omega), hf 776 (by omega)], by rw [u2_i (by omega), hf 758 (by omega)]; exact h38, by rw [u2_i (by omega), hf 758 (by omega)]; exact hM.n0⟩
theorem SF.q1 {σ' : Nat → Nat → Int} (h : FM SF σ σ') : FM SQ1 σ σ' := h.mono (fun c j hc => by unfold SF at hc; unfold SQ1; omega)
theorem Q_price (h : PQ σ K) : ∃ r σ1 σ2, f_X11_price σ = some (r, σ1) ∧ f_X12_price σ1 = some (r, σ2) ∧ FM SQ1 σ σ1 ∧ FM SQ2 σ1 σ2 := by
  have h' := h
  obtain ⟨h0, hC, hR, hM, hK, hS, hL, h38, h39⟩ := h
  have ha := ax_a h0
  have hkn := hK.n
  have hpw := m_pow_in hK
  obtain ⟨σ1, g1, g2⟩ := C_priceAsItIs hR hC hK hS (by omega) (by omega) (by omega)
  obtain ⟨a1, a2, a3, a4⟩ := h'.ref (τ := σ1) (fun c hc => SF.fr g2 (by omega))
  obtain ⟨σ2, k1, k2, k3, k4, k5, k6⟩ := R_lay a1 hK (by rw [a2]; exact hS)
  rw [a2] at k2 k4
  have hw := m_way_in hK hS
  obtain ⟨σ3, l1, l2, l3⟩ := R_priceOf (b := 776) (n := m_way K (σ 776)) k3 hK (by rw [k4]; exact hS) (by omega) (by omega) (by rw [k5]; exact a3) k2 hw.1 (by omega)
  rw [k4] at l1
  have e1 := R_wayOf (b := 776) k3 hK (by rw [k4]; exact hS)
  rw [k4] at e1
  refine ⟨?_, σ1, σ3, ?_, ?_, SF.q1 g2, ((FM.refl.u (by unfold SQ2; omega)).trans k6).trans (l2.mono (fun c j hc => by unfold SQ2; omega))⟩
  rotate_left 2
  · unfold f_X12_price
    rw [a4, if_neg (by omega), k1, Option.bind_some, e1, Option.bind_some, l1, Option.bind_some]
  · unfold f_X11_price
    rw [if_pos h0, C_isTold_y hC (by omega), Option.bind_some, if_neg (show ¬ (1 : Int) = 0 by omega), if_pos h0, g1, Option.bind_some]
set_option maxHeartbeats 4000000 in
theorem Q_best (h : PQ σ K) : ∃ r σ1 σ2, f_X11_best v1 v2 σ = some (r, σ1) ∧ f_X12_best v1 v2 σ1 = some (r, σ2) ∧ FM SQ1 σ σ1 ∧ FM SQ2 σ1 σ2 := by
  have h' := h
  obtain ⟨h0, hC, hR, hM, hK, hS, hL, h38, h39⟩ := h
  have ha := ax_a h0
  have hkn := hK.n
  have hpw := m_pow_in hK
  have hbi := m_best_in hK hS (m_shs_in (w := σ 776) hK) (m_pow K).toNat
  obtain ⟨σ1, g1, g2, g3, g4, g5, g6⟩ := C_findBest hR hC hK hS (by omega) (by omega) (by omega)
  obtain ⟨a1, a2, a3, a4⟩ := h'.ref (τ := σ1) (fun c hc => SF.fr g6 (by omega))
  obtain ⟨σ2, k1, k2, k3, k4, k5, k6⟩ := R_lay a1 hK (by rw [a2]; exact hS)
  rw [a2] at k2 k4
  obtain ⟨σ3, l1, l2, l3⟩ := R_bestWay (b := 776) k3 hK (by rw [k4]; exact hS) (by omega) (by omega) (by rw [k5]; exact a3) k2
  rw [k4] at l1 l2
  have hM3 := k3.fm l3 (fun c j h => by omega)
  have e02 : (σ1 0 2).toNat = (σ 0 2).toNat := by rw [SF.fr g6 (c := 0) (by omega)]
  have hC1 : RC σ1 (σ 0 2).toNat K := hC.frame (by omega) (fun c _ _ => SF.fr g6 (by omega))
  have hf : FM SQ2 σ1 σ3 := ((FM.refl.u (by unfold SQ2; omega)).trans k6).trans (l3.mono (fun c j hc => by unfold SQ2; omega))
  have hcl : f_X11_best v1 v2 σ = if (m_best K (σ 776) (m_shs K (σ 776))).1 = -1 then some (-1, σ1) else if v1 = 0 then some ((m_best K (σ 776) (m_shs K (σ 776))).2, σ1) else if v1 = 1 ∧ 0 ≤ v2 ∧ v2 < K 0 1 then some (m_core K (m_best K (σ 776) (m_shs K (σ 776))).1 v2, σ1) else some (-1, σ1) := by
    unfold f_X11_best
    rw [if_pos h0, C_isTold_y hC (by omega), Option.bind_some, if_neg (show ¬ (1 : Int) = 0 by omega), if_pos h0, g1, Option.bind_some]
    dsimp only
    by_cases d : (m_best K (σ 776) (m_shs K (σ 776))).1 = -1
    · rw [if_pos d, if_pos d, if_pos rfl]
    rw [if_neg d, if_neg d, if_neg (show ¬ (1 : Int) = 0 by omega)]
    by_cases e : v1 = 0
    · rw [if_pos e, if_pos e, g2]
    rw [if_neg e, if_neg e]
    by_cases f : v1 = 1
    · rw [if_pos f, e02, if_pos h0]
      by_cases t : 0 ≤ v2 ∧ v2 < K 0 1
      · rw [C_hasTask_y hC1 t.1 t.2, Option.bind_some, if_neg (show ¬ (1 : Int) = 0 by omega), if_pos (by omega), if_pos ⟨f, t⟩, g3 d v2 t.1 t.2]
      · rw [C_hasTask_n hC1 t, Option.bind_some, if_pos rfl, if_neg (fun q => t q.2)]
    · rw [if_neg f, if_neg (fun q => f q.1)]
  have h37 : f_X12_best_37 v1 v2 (u2 σ1 758 0 0) = if (m_best K (σ 776) (m_shs K (σ 776))).1 = -1 then some (-1, σ3) else if v1 = 0 then some ((m_best K (σ 776) (m_shs K (σ 776))).2, σ3) else (f_X12_coreIn (m_best K (σ 776) (m_shs K (σ 776))).1 v2 σ3).bind fun q20 => some (q20, σ3) := by
    unfold f_X12_best_37
    rw [k1, Option.bind_some, l1, Option.bind_some]
    dsimp only
    by_cases d : (m_best K (σ 776) (m_shs K (σ 776))).1 = -1
    · rw [if_pos d, if_pos d]
    rw [if_neg d, if_neg d, l2 d]
  by_cases d0 : 0 ≤ v1 ∧ v1 ≤ 1 ∧ (v1 = 1 → 0 ≤ v2 ∧ v2 < K 0 1)
  · have hr : f_X12_best v1 v2 σ1 = f_X12_best_37 v1 v2 (u2 σ1 758 0 0) := by
      unfold f_X12_best
      rw [a4, if_neg (by omega), R_isIn_y d0.1 d0.2.1, Option.bind_some, if_neg (show ¬ (1 : Int) = 0 by omega)]
      by_cases f : v1 = 1
      · have t := d0.2.2 f
        rw [if_pos f, R_isTask_y a1 t.1 t.2, Option.bind_some, if_neg (show ¬ (1 : Int) = 0 by omega)]
      · rw [if_neg f]
    by_cases d : (m_best K (σ 776) (m_shs K (σ 776))).1 = -1
    · rw [if_pos d] at hcl h37
      exact ⟨_, _, _, hcl, hr.trans h37, SF.q1 g6, hf⟩
    rw [if_neg d] at hcl h37
    by_cases e : v1 = 0
    · rw [if_pos e] at hcl h37
      exact ⟨_, _, _, hcl, hr.trans h37, SF.q1 g6, hf⟩
    rw [if_neg e] at hcl h37
    have f : v1 = 1 := by omega
    have t := d0.2.2 f
    have hbb : (m_best K (σ 776) (m_shs K (σ 776))) = iter (m_bestS K (σ 776) (m_shs K (σ 776))) (m_pow K).toNat 0 (-1, -1) := rfl
    rw [← hbb] at hbi
    rw [if_pos ⟨f, t⟩] at hcl
    rw [R_coreIn hM3 hK t.1 t.2 (by omega) (by omega), Option.bind_some] at h37
    exact ⟨_, _, _, hcl, hr.trans h37, SF.q1 g6, hf⟩
  · have hr : f_X12_best v1 v2 σ1 = some (-1, u2 σ1 758 0 0) := by
      unfold f_X12_best
      rw [a4, if_neg (by omega)]
      by_cases e : 0 ≤ v1 ∧ v1 ≤ 1
      · rw [R_isIn_y e.1 e.2, Option.bind_some, if_neg (show ¬ (1 : Int) = 0 by omega)]
        have f : v1 = 1 := by omega
        rw [if_pos f, R_isTask_n a1 (fun q => d0 ⟨e.1, e.2, fun _ => q⟩), Option.bind_some, if_pos rfl]
      · rw [R_isIn_n e, Option.bind_some, if_pos rfl]
    have hc' : f_X11_best v1 v2 σ = some (-1, σ1) := by
      rw [hcl]
      by_cases d : (m_best K (σ 776) (m_shs K (σ 776))).1 = -1
      · rw [if_pos d]
      rw [if_neg d, if_neg (fun q => d0 ⟨by omega, by omega, fun q2 => by omega⟩), if_neg (fun q => d0 ⟨by omega, by omega, fun _ => q.2⟩)]
    exact ⟨-1, σ1, _, hc', hr, SF.q1 g6, FM.refl.u (by unfold SQ2; omega)⟩
set_option maxHeartbeats 4000000 in
theorem Q_greedy (h : PQ σ K) : ∃ r σ1 σ2, f_X11_greedy v1 v2 σ = some (r, σ1) ∧ f_X12_greedy v1 v2 σ1 = some (r, σ2) ∧ FM SQ1 σ σ1 ∧ FM SQ2 σ1 σ2 := by
  have h' := h
  obtain ⟨h0, hC, hR, hM, hK, hS, hL, h38, h39⟩ := h
  have ha := ax_a h0
  have hkn := hK.n
  obtain ⟨σ1, g1, g2, g3, g6⟩ := C_putGreedily hR hC hK hS (by omega) (by omega) (by omega)
  obtain ⟨a1, a2, a3, a4⟩ := h'.ref (τ := σ1) (fun c hc => SF.fr g6 (by omega))
  obtain ⟨σ2, k1, k2, k3, k4, k5, k6⟩ := R_lay a1 hK (by rw [a2]; exact hS)
  rw [a2] at k2 k4
  obtain ⟨σ3, l1, l2, l3⟩ := R_putsAll k3 hK (by rw [k4]; exact hS) (by rw [k5]; exact a3) (by rw [k4]; exact k2)
  rw [k4] at l1 l2
  have hM3 := k3.fm l3 (fun c j h => by omega)
  have e776 : σ3 776 = σ 776 := (funext fun j => l3 776 j (by omega) : σ3 776 = σ2 776).trans k4
  have e02 : (σ1 0 2).toNat = (σ 0 2).toNat := by rw [SF.fr g6 (c := 0) (by omega)]
  have hC1 : RC σ1 (σ 0 2).toNat K := hC.frame (by omega) (fun c _ _ => SF.fr g6 (by omega))
  have hf : FM SQ2 σ1 σ3 := ((FM.refl.u (by unfold SQ2; omega)).trans k6).trans (l3.mono (fun c j hc => by unfold SQ2; omega))
  by_cases d : (m_greedy K (σ 776)).1 = 0
  · have hc' : f_X11_greedy v1 v2 σ = some (-1, σ1) := by
      unfold f_X11_greedy
      rw [if_pos h0, C_isTold_y hC (by omega), Option.bind_some, if_neg (show ¬ (1 : Int) = 0 by omega), if_pos h0, g1, Option.bind_some]
      dsimp only
      rw [if_pos d]
    have hr : f_X12_greedy_37 v1 v2 (u2 σ1 758 0 0) = some (-1, σ3) := by
      unfold f_X12_greedy_37
      rw [k1, Option.bind_some, l1, Option.bind_some]
      dsimp only
      rw [if_pos d]
    have hg : ∃ σ', f_X12_greedy v1 v2 σ1 = some (-1, σ') ∧ FM SQ2 σ1 σ' := by
      unfold f_X12_greedy
      rw [a4, if_neg (by omega)]
      by_cases e : 0 ≤ v1 ∧ v1 ≤ 1
      · rw [R_isIn_y e.1 e.2, Option.bind_some, if_neg (show ¬ (1 : Int) = 0 by omega)]
        by_cases f : v1 = 1
        · rw [if_pos f]
          by_cases t : 0 ≤ v2 ∧ v2 < K 0 1
          · rw [R_isTask_y a1 t.1 t.2, Option.bind_some, if_neg (show ¬ (1 : Int) = 0 by omega), hr]
            exact ⟨_, rfl, hf⟩
          · rw [R_isTask_n a1 t, Option.bind_some, if_pos rfl]
            exact ⟨_, rfl, FM.refl.u (by unfold SQ2; omega)⟩
        · rw [if_neg f, hr]
          exact ⟨_, rfl, hf⟩
      · rw [R_isIn_n e, Option.bind_some, if_pos rfl]
        exact ⟨_, rfl, FM.refl.u (by unfold SQ2; omega)⟩
    obtain ⟨σ', x1, x2⟩ := hg
    exact ⟨-1, σ1, σ', hc', x1, SF.q1 g6, x2⟩
  · have d1 : (m_greedy K (σ 776)).1 = 1 := by
      rcases m_greedyL_01 (K := K) (w := σ 776) (sh := m_shs K (σ 776)) (K 0 1).toNat (fun _ => -1) with q | q
      · exact absurd q d
      · exact q
    obtain ⟨σ4, c1, c2⟩ := C_priceOf hC1 hK hS (by omega) (m_shs_in (w := σ 776) hK) g3 (g2 d1)
    have hp := R_pricePut (b := 776) hM3 hK (by rw [e776]; exact hS) (by rw [l3 758 38 (by omega), k5]; exact a3) (sh := m_shs K (σ 776)) (fun t t0 t1 => by
      rw [l3 781 t.toNat (by omega), l3 782 t.toNat (by omega)]
      exact k2 t t0 t1) (l2 d1)
    rw [e776] at hp
    have hf4 : FM SQ1 σ σ4 := (SF.q1 g6).trans (c2.fm (fun c j hc => by unfold SQ1; omega))
    have gr4 : ∀ c, 758 ≤ c → σ4 c = σ1 c := fun c hc => c2 c (by omega)
    have hc' : f_X11_greedy v1 v2 σ = if v1 = 0 then some (m_price K (σ 776) (m_shs K (σ 776)) (m_greedy K (σ 776)).2, σ4) else if v1 = 1 ∧ 0 ≤ v2 ∧ v2 < K 0 1 then some ((m_greedy K (σ 776)).2 v2.toNat, σ1) else some (-1, σ1) := by
      unfold f_X11_greedy
      rw [if_pos h0, C_isTold_y hC (by omega), Option.bind_some, if_neg (show ¬ (1 : Int) = 0 by omega), if_pos h0, g1, Option.bind_some]
      dsimp only
      rw [if_neg d]
      by_cases e : v1 = 0
      · rw [if_pos e, if_pos e, e02, if_pos h0, c1, Option.bind_some]
      rw [if_neg e, if_neg e]
      by_cases f : v1 = 1
      · rw [if_pos f, e02, if_pos h0]
        by_cases t : 0 ≤ v2 ∧ v2 < K 0 1
        · rw [C_hasTask_y hC1 t.1 t.2, Option.bind_some, if_neg (show ¬ (1 : Int) = 0 by omega), if_pos (by omega), if_pos ⟨f, t⟩, g2 d1 v2 t.1 t.2]
        · rw [C_hasTask_n hC1 t, Option.bind_some, if_pos rfl, if_neg (fun q => t q.2)]
      · rw [if_neg f, if_neg (fun q => f q.1)]
    rw [hc']
    by_cases e : v1 = 0
    · obtain ⟨b1, b2, b3, b4⟩ := h'.ref (τ := σ4) (fun c hc => (gr4 c hc).trans (SF.fr g6 (by omega)))
      obtain ⟨ρ2, m1, m2, m3, m4, m5, m6⟩ := R_lay b1 hK (by rw [b2]; exact hS)
      rw [b2] at m2 m4
      obtain ⟨ρ3, n1, n2, n3⟩ := R_putsAll m3 hK (by rw [m4]; exact hS) (by rw [m5]; exact b3) (by rw [m4]; exact m2)
      rw [m4] at n1 n2
      have hM5 := m3.fm n3 (fun c j h => by omega)
      have f776 : ρ3 776 = σ 776 := (funext fun j => n3 776 j (by omega) : ρ3 776 = ρ2 776).trans m4
      have hp5 := R_pricePut (b := 776) hM5 hK (by rw [f776]; exact hS) (by rw [n3 758 38 (by omega), m5]; exact b3) (sh := m_shs K (σ 776)) (fun t t0 t1 => by
        rw [n3 781 t.toNat (by omega), n3 782 t.toNat (by omega)]
        exact m2 t t0 t1) (n2 d1)
      rw [f776] at hp5
      refine ⟨_, σ4, ρ3, if_pos e, ?_, hf4, ((FM.refl.u (by unfold SQ2; omega)).trans m6).trans (n3.mono (fun c j hc => by unfold SQ2; omega))⟩
      unfold f_X12_greedy f_X12_greedy_37
      rw [b4, if_neg (by omega), R_isIn_y (by omega) (by omega), Option.bind_some, if_neg (show ¬ (1 : Int) = 0 by omega), if_neg (by omega), m1, Option.bind_some, n1, Option.bind_some]
      dsimp only
      rw [if_neg d, if_pos e, hp5, Option.bind_some]
    · rw [if_neg e]
      have h37 : f_X12_greedy_37 v1 v2 (u2 σ1 758 0 0) = if 0 ≤ v2 ∧ v2 < 4 then some (σ3 783 v2.toNat, σ3) else none := by
        unfold f_X12_greedy_37
        rw [k1, Option.bind_some, l1, Option.bind_some]
        dsimp only
        rw [if_neg d, if_neg e]
      unfold f_X12_greedy
      by_cases f : v1 = 1
      · by_cases t : 0 ≤ v2 ∧ v2 < K 0 1
        · refine ⟨_, σ1, σ3, if_pos ⟨f, t⟩, ?_, SF.q1 g6, hf⟩
          rw [a4, if_neg (by omega), R_isIn_y (by omega) (by omega), Option.bind_some, if_neg (show ¬ (1 : Int) = 0 by omega), if_pos f, R_isTask_y a1 t.1 t.2, Option.bind_some, if_neg (show ¬ (1 : Int) = 0 by omega), h37, if_pos (by omega), l2 d1 v2 t.1 t.2]
        · refine ⟨-1, σ1, u2 σ1 758 0 0, if_neg (fun q => t q.2), ?_, SF.q1 g6, FM.refl.u (by unfold SQ2; omega)⟩
          rw [a4, if_neg (by omega), R_isIn_y (by omega) (by omega), Option.bind_some, if_neg (show ¬ (1 : Int) = 0 by omega), if_pos f, R_isTask_n a1 t, Option.bind_some, if_pos rfl]
      · refine ⟨-1, σ1, u2 σ1 758 0 0, if_neg (fun q => f q.1), ?_, SF.q1 g6, FM.refl.u (by unfold SQ2; omega)⟩
        rw [a4, if_neg (by omega), R_isIn_n (by omega), Option.bind_some, if_pos rfl]
set_option maxHeartbeats 4000000 in
theorem Q_moves (h : PQ σ K) : ∃ r σ1 σ2, f_X11_moves σ = some (r, σ1) ∧ f_X12_moves σ1 = some (r, σ2) ∧ FM SQ1 σ σ1 ∧ FM SQ2 σ1 σ2 := by
  have h' := h
  obtain ⟨h0, hC, hR, hM, hK, hS, hL, h38, h39⟩ := h
  have ha := ax_a h0
  have hkn := hK.n
  obtain ⟨x, σ1, g1, g2, g3⟩ := C_fewestMoves hR hC hK hS (by omega) (by omega) (by omega)
  have hf1 : FM SQ1 σ σ1 := g3.mono (fun c j hc => by unfold SQ1; omega)
  obtain ⟨a1, a2, a3, a4⟩ := h'.ref (τ := σ1) (fun c hc => funext fun j => g3 c j (by omega))
  obtain ⟨σ2, k1, k2, k3, k4, k5, k6⟩ := R_lay a1 hK (by rw [a2]; exact hS)
  rw [a2] at k2 k4
  obtain ⟨σ3, l1, l2, l3⟩ := R_bestWay (b := 776) k3 hK (by rw [k4]; exact hS) (by omega) (by omega) (by rw [k5]; exact a3) k2
  rw [k4] at l1 l2
  have hM3 := k3.fm l3 (fun c j h => by omega)
  have e776 : σ3 776 = σ 776 := (funext fun j => l3 776 j (by omega) : σ3 776 = σ2 776).trans k4
  have hf : FM SQ2 σ1 σ3 := ((FM.refl.u (by unfold SQ2; omega)).trans k6).trans (l3.mono (fun c j hc => by unfold SQ2; omega))
  have hc' : f_X11_moves σ = some (x, σ1) := by
    unfold f_X11_moves
    rw [if_pos h0, C_isTold_y hC (by omega), Option.bind_some, if_neg (show ¬ (1 : Int) = 0 by omega), if_pos h0, g1, Option.bind_some]
  by_cases d : (m_best K (σ 776) (m_shs K (σ 776))).1 = -1
  · have ex : x = -1 := by
      rcases g2 with q | q
      · exact q.2
      · exact absurd d q.1
    refine ⟨x, σ1, σ3, hc', ?_, hf1, hf⟩
    unfold f_X12_moves
    rw [a4, if_neg (by omega), k1, Option.bind_some, l1, Option.bind_some]
    dsimp only
    rw [if_pos d, ex]
  · have hb : b_Ans (m_pr K (σ 776) (m_shs K (σ 776))) (m_pow K) (m_best K (σ 776) (m_shs K (σ 776))).2 (m_way K (σ 776)) (m_N K) x := by
      rcases g2 with q | q
      · exact absurd q.1 d
      · exact q.2
    obtain ⟨y, σ4, n1, n2, n3⟩ := R_moves_47 hM3 hK (by rw [e776]; exact hS) (by rw [l3 758 38 (by omega), k5]; exact a3) (sh := m_shs K (σ 776)) (fun t t0 t1 => by
      rw [l3 781 t.toNat (by omega), l3 782 t.toNat (by omega)]
      exact k2 t t0 t1)
    rw [e776, l2 d] at n2
    have exy := b_one hb n2
    have hpw : f_X12_power (σ3 758 23) σ3 = some (m_pow K) := by
      rw [hM3.n1]
      exact R_power hM3 hK (by omega) (by omega)
    refine ⟨x, σ1, σ4, hc', ?_, hf1, hf.trans (n3.mono (fun c j hc => by unfold SQ2; omega))⟩
    unfold f_X12_moves
    rw [a4, if_neg (by omega), k1, Option.bind_some, l1, Option.bind_some]
    dsimp only
    rw [if_neg d, hpw, Option.bind_some, n1, exy]
end S_PL
