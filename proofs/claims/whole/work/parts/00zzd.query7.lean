-- all, counts; both sides
def m_mlS (w : Nat → Int) (t s : Int) : Int := if s = -1 then t else if w (29 + t).toNat ≤ w (29 + s).toNat then s else t
def m_fuS (K : Nat → Nat → Int) (w : Nat → Int) (v s : Int) : Int := if m_sho K w v ≤ m_sho K w s then s else v
def m_saS (K : Nat → Nat → Int) (w : Nat → Int) (t s : Int) : Int := s + m_shs K w t.toNat
section S_Q7
variable {σ K : Nat → Nat → Int} {w w0 : Nat → Int} {a a1 a2 b : Nat} {v1 v2 v3 v4 tr th : Int}
theorem C_mostLoaded (hR : RS σ a K w tr th) (hC : RC σ a1 K) (hK : WK K) : f_X7_mostLoaded a a1 σ = some (iter (m_mlS w) (K 0 1).toNat 0 (-1)) := by
  have hkn := hK.n
  have h := sim_loop (F := fun k t (q : Int) => f_X7_mostLoaded_4 k a a1 q t σ) (X := m_mlS w) (hi := K 0 1)
    (fun t q g => 0 ≤ t ∧ q = g ∧ (g = -1 ∨ 0 ≤ g ∧ g < t))
    (fun g r => r = some g)
    (fun k t q g ht hq => by
      obtain ⟨t0, rfl, hg⟩ := hq
      rw [f_X7_mostLoaded_4, hC.n1, if_neg (by omega), zid (x := t + 1) (by omega) (by omega)]
      unfold m_mlS
      by_cases c : q = -1
      · rw [if_pos c, if_pos c]
        exact ⟨t, rfl, by omega, rfl, by omega⟩
      · rw [if_neg c, if_neg c, if_pos (by omega), if_pos (by omega), hR.t3 t0 ht, hR.t3 (by omega) (by omega)]
        refine ⟨_, rfl, by omega, rfl, ?_⟩
        split <;> omega)
    (fun k q g hq => by
      obtain ⟨t0, rfl, hg⟩ := hq
      rw [f_X7_mostLoaded_4, hC.n1, if_pos (Int.le_refl _)])
    (K 0 1).toNat 100000 0 (-1) (-1) (by omega) (by omega) ⟨by omega, rfl, Or.inl rfl⟩
  exact h
theorem R_loadest (hM : RM σ K) (hK : WK K) : f_X12_loadest σ = some (iter (m_mlS (σ 776)) (K 0 1).toNat 0 (-1)) := by
  have hkn := hK.n
  have h := sim_loop (F := fun k t (q : Int) => f_X12_loadest_4 k q t σ) (X := m_mlS (σ 776)) (hi := K 0 1)
    (fun t q g => 0 ≤ t ∧ q = g ∧ (g = -1 ∨ 0 ≤ g ∧ g < t))
    (fun g r => r = some g)
    (fun k t q g ht hq => by
      obtain ⟨t0, rfl, hg⟩ := hq
      rw [f_X12_loadest_4, hM.n1, if_neg (by omega), zid (x := t + 1) (by omega) (by omega)]
      unfold m_mlS
      by_cases c : q = -1
      · rw [if_pos c, if_pos c]
        exact ⟨t, rfl, by omega, rfl, by omega⟩
      · rw [if_neg c, if_neg c, zid (x := 29 + t) (by omega) (by omega), if_pos (by omega), zid (x := 29 + q) (by omega) (by omega), if_pos (by omega)]
        refine ⟨_, rfl, by omega, rfl, ?_⟩
        split <;> omega)
    (fun k q g hq => by
      obtain ⟨t0, rfl, hg⟩ := hq
      rw [f_X12_loadest_4, hM.n1, if_pos (Int.le_refl _)])
    (K 0 1).toNat 100000 0 (-1) (-1) (by omega) (by omega) ⟨by omega, rfl, Or.inl rfl⟩
  exact h
theorem C_fullest (h0 : (σ 0 2).toNat ∈ ax_iX1) (hR : RS σ 173 K w tr th) (hC : RC σ (σ 0 2).toNat K) (hK : WK K) (hS : WS K w) : f_X11_fullestCore σ = some (iter (m_fuS K w) (K 0 2 - 1).toNat 1 0) := by
  have hkn := hK.n
  have h := sim_loop (F := fun k t (q : Int) => f_X11_fullestCore_4 k q t σ) (X := m_fuS K w) (hi := K 0 2)
    (fun t q g => 1 ≤ t ∧ q = g)
    (fun g r => r = some g)
    (fun k t q g ht hq => by
      obtain ⟨t0, rfl⟩ := hq
      rw [f_X11_fullestCore_4, if_pos h0, hC.n2, if_neg (by omega), (C_sharesOn h0 hR hC hK hS).1, Option.bind_some, (C_sharesOn h0 hR hC hK hS).1, Option.bind_some, zid (x := t + 1) (by omega) (by omega)]
      exact ⟨_, rfl, by omega, rfl⟩)
    (fun k q g hq => by
      obtain ⟨t0, rfl⟩ := hq
      rw [f_X11_fullestCore_4, if_pos h0, hC.n2, if_pos (Int.le_refl _)])
    (K 0 2 - 1).toNat 100000 1 0 0 (by omega) (by omega) ⟨by omega, rfl⟩
  exact h
theorem R_fullest (hM : RM σ K) (hK : WK K) (hS : WS K (σ 776)) : f_X12_fullest σ = some (iter (m_fuS K (σ 776)) (K 0 2 - 1).toNat 1 0) := by
  have hkn := hK.n
  have h := sim_loop (F := fun k t (q : Int) => f_X12_fullest_4 k q t σ) (X := m_fuS K (σ 776)) (hi := K 0 2)
    (fun t q g => 1 ≤ t ∧ q = g)
    (fun g r => r = some g)
    (fun k t q g ht hq => by
      obtain ⟨t0, rfl⟩ := hq
      rw [f_X12_fullest_4, hM.n2, if_neg (by omega), R_sharesOn hM hK hS, Option.bind_some, R_sharesOn hM hK hS, Option.bind_some, zid (x := t + 1) (by omega) (by omega)]
      exact ⟨_, rfl, by omega, rfl⟩)
    (fun k q g hq => by
      obtain ⟨t0, rfl⟩ := hq
      rw [f_X12_fullest_4, hM.n2, if_pos (Int.le_refl _)])
    (K 0 2 - 1).toNat 100000 1 0 0 (by omega) (by omega) ⟨by omega, rfl⟩
  exact h
theorem C_sharesAll (h0 : (σ 0 2).toNat ∈ ax_iX1) (hR : RS σ 173 K w tr th) (hC : RC σ (σ 0 2).toNat K) (hK : WK K) (hS : WS K w) : f_X11_sharesOfAll σ = some (iter (m_saS K w) (K 0 1).toNat 0 0) := by
  have hkn := hK.n
  have hsh := m_shs_in (w := w) hK
  have h := sim_loop (F := fun k t (q : Int) => f_X11_sharesOfAll_4 k q t σ) (X := m_saS K w) (hi := K 0 1)
    (fun t q g => 0 ≤ t ∧ q = g ∧ 0 ≤ g ∧ g ≤ 1000 * t)
    (fun g r => r = some g)
    (fun k t q g ht hq => by
      obtain ⟨t0, rfl, g0, g1⟩ := hq
      have hs := hsh t t0 ht
      rw [f_X11_sharesOfAll_4, if_pos h0, hC.n1, if_neg (by omega), C_shareQ h0 hR hC hK hS t0 ht, Option.bind_some, zid (x := t + 1) (by omega) (by omega), zid (x := q + m_shs K w t.toNat) (by omega) (by omega)]
      exact ⟨_, rfl, by omega, rfl, by unfold m_saS; omega⟩)
    (fun k q g hq => by
      obtain ⟨t0, rfl, g0, g1⟩ := hq
      rw [f_X11_sharesOfAll_4, if_pos h0, hC.n1, if_pos (Int.le_refl _)])
    (K 0 1).toNat 100000 0 0 0 (by omega) (by omega) ⟨by omega, rfl, by omega, by omega⟩
  exact h
theorem R_sharesAll (hM : RM σ K) (hK : WK K) (hS : WS K (σ 776)) : f_X12_shares σ = some (iter (m_saS K (σ 776)) (K 0 1).toNat 0 0) := by
  have hkn := hK.n
  have hsh := m_shs_in (w := σ 776) hK
  have h := sim_loop (F := fun k t (q : Int) => f_X12_shares_4 k q t σ) (X := m_saS K (σ 776)) (hi := K 0 1)
    (fun t q g => 0 ≤ t ∧ q = g ∧ 0 ≤ g ∧ g ≤ 1000 * t)
    (fun g r => r = some g)
    (fun k t q g ht hq => by
      obtain ⟨t0, rfl, g0, g1⟩ := hq
      have hs := hsh t t0 ht
      rw [f_X12_shares_4, hM.n1, if_neg (by omega), R_shareOf (b := 776) hM hK hS t0 ht, Option.bind_some, zid (x := t + 1) (by omega) (by omega), zid (x := q + m_shs K (σ 776) t.toNat) (by omega) (by omega)]
      exact ⟨_, rfl, by omega, rfl, by unfold m_saS; omega⟩)
    (fun k q g hq => by
      obtain ⟨t0, rfl, g0, g1⟩ := hq
      rw [f_X12_shares_4, hM.n1, if_pos (Int.le_refl _)])
    (K 0 1).toNat 100000 0 0 0 (by omega) (by omega) ⟨by omega, rfl, by omega, by omega⟩
  exact h
set_option maxHeartbeats 1000000 in
theorem Q_all (h : PQ σ K) : ∃ r, f_X11_all v1 σ = some r ∧ f_X12_all v1 σ = some (r, u2 σ 758 0 0) := by
  obtain ⟨b1, b2, b3, b4⟩ := h.ref (τ := σ) (fun c hc => rfl)
  obtain ⟨h0, hC, hR, hM, hK, hS, hL, h38, h39⟩ := h
  have hkn := hK.n
  have hS' : WS K ((u2 σ 758 0 0) 776) := by rw [b2]; exact hS
  unfold f_X11_all f_X12_all
  rw [if_pos h0, C_isTold_y hC (by omega), Option.bind_some, if_neg (show ¬ (1 : Int) = 0 by omega), b4, if_neg (show ¬ K 0 0 = 0 by omega)]
  by_cases d : 0 ≤ v1 ∧ v1 ≤ 9
  · have k : v1 = 0 ∨ v1 = 1 ∨ v1 = 2 ∨ v1 = 3 ∨ v1 = 4 ∨ v1 = 5 ∨ v1 = 6 ∨ v1 = 7 ∨ v1 = 8 ∨ v1 = 9 := by omega
    have n0 := hR.n0
    have n1 := hR.n1
    have n2 := hR.n2
    rcases k with rfl | rfl | rfl | rfl | rfl | rfl | rfl | rfl | rfl | rfl
    · exact ⟨σ 776 41, by simp (disch := first | assumption | omega) only [if_true, if_false, zid, zlid, if_pos, if_neg, u2_e, u2_c, u2_i, u1_e, u1_i, Option.bind_some, n0], by simp (disch := first | assumption | omega) only [if_true, if_false, zid, zlid, if_pos, if_neg, u2_e, u2_c, u2_i, u1_e, u1_i, Option.bind_some, b2]⟩
    · exact ⟨σ 776 42, by simp (disch := first | assumption | omega) only [if_true, if_false, zid, zlid, if_pos, if_neg, u2_e, u2_c, u2_i, u1_e, u1_i, Option.bind_some, n1], by simp (disch := first | assumption | omega) only [if_true, if_false, zid, zlid, if_pos, if_neg, u2_e, u2_c, u2_i, u1_e, u1_i, Option.bind_some, b2]⟩
    · exact ⟨σ 776 43, by simp (disch := first | assumption | omega) only [if_true, if_false, zid, zlid, if_pos, if_neg, u2_e, u2_c, u2_i, u1_e, u1_i, Option.bind_some, n2], by simp (disch := first | assumption | omega) only [if_true, if_false, zid, zlid, if_pos, if_neg, u2_e, u2_c, u2_i, u1_e, u1_i, Option.bind_some, b2]⟩
    · have e1 := C_lates hR hC hK hS
      have e2 := R_lates (b := 776) hS'
      rw [b2] at e2
      exact ⟨m_lat (σ 776), by simp (disch := first | assumption | omega) only [if_true, if_false, zid, zlid, if_pos, if_neg, u2_e, u2_c, u2_i, u1_e, u1_i, Option.bind_some, e1], by simp (disch := first | assumption | omega) only [if_true, if_false, zid, zlid, if_pos, if_neg, u2_e, u2_c, u2_i, u1_e, u1_i, Option.bind_some, e2]⟩
    · have e2 := R_bitsBT (σ := u2 σ 758 0 0) (x := σ 173 6) (n := K 0 2) (from1 := 9) (by rw [b2]; exact hR.b6) (by omega) (by omega) (by omega) (by omega)
      exact ⟨σ 173 6, by simp (disch := first | assumption | omega) only [if_true, if_false, zid, zlid, if_pos, if_neg, u2_e, u2_c, u2_i, u1_e, u1_i, Option.bind_some], by simp (disch := first | assumption | omega) only [if_true, if_false, zid, zlid, if_pos, if_neg, u2_e, u2_c, u2_i, u1_e, u1_i, Option.bind_some, hM.n2, e2]⟩
    · have e2 := R_bitsBT (σ := u2 σ 758 0 0) (x := σ 173 5) (n := K 0 1) (from1 := 37) (by rw [b2]; exact hR.b5) (by omega) (by omega) (by omega) (by omega)
      exact ⟨σ 173 5, by simp (disch := first | assumption | omega) only [if_true, if_false, zid, zlid, if_pos, if_neg, u2_e, u2_c, u2_i, u1_e, u1_i, Option.bind_some], by simp (disch := first | assumption | omega) only [if_true, if_false, zid, zlid, if_pos, if_neg, u2_e, u2_c, u2_i, u1_e, u1_i, Option.bind_some, hM.n1, e2]⟩
    · have e1 := C_rests hR hC hK
      have e2 := R_rests b1 hK
      rw [b2] at e2
      exact ⟨m_bits (fun t => decide (0 < σ 776 (25 + t))) (K 0 1).toNat, by simp (disch := first | assumption | omega) only [if_true, if_false, zid, zlid, if_pos, if_neg, u2_e, u2_c, u2_i, u1_e, u1_i, Option.bind_some, e1], by simp (disch := first | assumption | omega) only [if_true, if_false, zid, zlid, if_pos, if_neg, u2_e, u2_c, u2_i, u1_e, u1_i, Option.bind_some, hM.n1, e2]⟩
    · have e1 := C_mostLoaded hR hC hK
      have e2 := R_loadest b1 hK
      rw [b2] at e2
      exact ⟨iter (m_mlS (σ 776)) (K 0 1).toNat 0 (-1), by simp (disch := first | assumption | omega) only [if_true, if_false, zid, zlid, if_pos, if_neg, u2_e, u2_c, u2_i, u1_e, u1_i, Option.bind_some, e1], by simp (disch := first | assumption | omega) only [if_true, if_false, zid, zlid, if_pos, if_neg, u2_e, u2_c, u2_i, u1_e, u1_i, Option.bind_some, e2]⟩
    · have e1 := C_fullest h0 hR hC hK hS
      have e2 := R_fullest b1 hK hS'
      rw [b2] at e2
      exact ⟨iter (m_fuS K (σ 776)) (K 0 2 - 1).toNat 1 0, by simp (disch := first | assumption | omega) only [if_true, if_false, zid, zlid, if_pos, if_neg, u2_e, u2_c, u2_i, u1_e, u1_i, Option.bind_some, e1], by simp (disch := first | assumption | omega) only [if_true, if_false, zid, zlid, if_pos, if_neg, u2_e, u2_c, u2_i, u1_e, u1_i, Option.bind_some, e2]⟩
    · have e1 := C_sharesAll h0 hR hC hK hS
      have e2 := R_sharesAll b1 hK hS'
      rw [b2] at e2
      exact ⟨iter (m_saS K (σ 776)) (K 0 1).toNat 0 0, by simp (disch := first | assumption | omega) only [if_true, if_false, zid, zlid, if_pos, if_neg, u2_e, u2_c, u2_i, u1_e, u1_i, Option.bind_some, e1], by simp (disch := first | assumption | omega) only [if_true, if_false, zid, zlid, if_pos, if_neg, u2_e, u2_c, u2_i, u1_e, u1_i, Option.bind_some, e2]⟩
  · exact ⟨-1000000, by simp (disch := first | assumption | omega) only [if_true, if_false, zid, zlid, if_pos, if_neg, u2_e, u2_c, u2_i, u1_e, u1_i, Option.bind_some], by simp (disch := first | assumption | omega) only [if_true, if_false, zid, zlid, if_pos, if_neg, u2_e, u2_c, u2_i, u1_e, u1_i, Option.bind_some]⟩
theorem Q_count (hc : (σ 0 2).toNat ∈ ax_iX1) (e0 : σ (σ 0 2).toNat 0 = σ 758 21) (e1 : σ 0 5 = σ 758 30) (e2 : σ 2 1 = σ 758 2) (e3 : min (σ 173 3) 60 = σ 776 75) (e4 : σ 220 2 = σ 758 36) (e5 : σ (σ 0 2).toNat 1 = σ 758 23) (e6 : σ 173 4 = σ 776 44) : ∃ r, f_X11_count v1 σ = some r ∧ f_X12_count v1 σ = some (r, u2 σ 758 0 0) := by
  unfold f_X11_count f_X12_count f_X11_logLength
  by_cases d : 0 ≤ v1 ∧ v1 ≤ 6
  · have k : v1 = 0 ∨ v1 = 1 ∨ v1 = 2 ∨ v1 = 3 ∨ v1 = 4 ∨ v1 = 5 ∨ v1 = 6 := by omega
    rcases k with rfl | rfl | rfl | rfl | rfl | rfl | rfl
    · exact ⟨σ 758 21, by simp (disch := first | assumption | omega) only [if_true, if_false, zid, zlid, if_pos, if_neg, u2_e, u2_c, u2_i, u1_e, u1_i, Option.bind_some, e0], by simp (disch := first | assumption | omega) only [if_true, if_false, zid, zlid, if_pos, if_neg, u2_e, u2_c, u2_i, u1_e, u1_i, Option.bind_some]⟩
    · exact ⟨σ 758 30, by simp (disch := first | assumption | omega) only [if_true, if_false, zid, zlid, if_pos, if_neg, u2_e, u2_c, u2_i, u1_e, u1_i, Option.bind_some, e1], by simp (disch := first | assumption | omega) only [if_true, if_false, zid, zlid, if_pos, if_neg, u2_e, u2_c, u2_i, u1_e, u1_i, Option.bind_some]⟩
    · exact ⟨σ 758 2, by simp (disch := first | assumption | omega) only [if_true, if_false, zid, zlid, if_pos, if_neg, u2_e, u2_c, u2_i, u1_e, u1_i, Option.bind_some, e2], by simp (disch := first | assumption | omega) only [if_true, if_false, zid, zlid, if_pos, if_neg, u2_e, u2_c, u2_i, u1_e, u1_i, Option.bind_some]⟩
    · exact ⟨σ 776 75, by simp (disch := first | assumption | omega) only [if_true, if_false, zid, zlid, if_pos, if_neg, u2_e, u2_c, u2_i, u1_e, u1_i, Option.bind_some, e3], by simp (disch := first | assumption | omega) only [if_true, if_false, zid, zlid, if_pos, if_neg, u2_e, u2_c, u2_i, u1_e, u1_i, Option.bind_some]⟩
    · exact ⟨σ 758 36, by simp (disch := first | assumption | omega) only [if_true, if_false, zid, zlid, if_pos, if_neg, u2_e, u2_c, u2_i, u1_e, u1_i, Option.bind_some, e4], by simp (disch := first | assumption | omega) only [if_true, if_false, zid, zlid, if_pos, if_neg, u2_e, u2_c, u2_i, u1_e, u1_i, Option.bind_some]⟩
    · exact ⟨σ 758 23, by simp (disch := first | assumption | omega) only [if_true, if_false, zid, zlid, if_pos, if_neg, u2_e, u2_c, u2_i, u1_e, u1_i, Option.bind_some, e5], by simp (disch := first | assumption | omega) only [if_true, if_false, zid, zlid, if_pos, if_neg, u2_e, u2_c, u2_i, u1_e, u1_i, Option.bind_some]⟩
    · exact ⟨σ 776 44, by simp (disch := first | assumption | omega) only [if_true, if_false, zid, zlid, if_pos, if_neg, u2_e, u2_c, u2_i, u1_e, u1_i, Option.bind_some, e6], by simp (disch := first | assumption | omega) only [if_true, if_false, zid, zlid, if_pos, if_neg, u2_e, u2_c, u2_i, u1_e, u1_i, Option.bind_some]⟩
  · exact ⟨-1000000, by simp (disch := first | assumption | omega) only [if_true, if_false, zid, zlid, if_pos, if_neg, u2_e, u2_c, u2_i, u1_e, u1_i, Option.bind_some], by simp (disch := first | assumption | omega) only [if_true, if_false, zid, zlid, if_pos, if_neg, u2_e, u2_c, u2_i, u1_e, u1_i, Option.bind_some]⟩
end S_Q7
