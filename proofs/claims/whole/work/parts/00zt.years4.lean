-- years asked for, both sides
section S_YP
variable {σ K : Nat → Nat → Int} {H : Int → Nat → Int} {L LI n hi v1 v2 : Int}
theorem P_years (h : PV σ K L LI n H hi) (hK : WK K) (hB : L < 2147483000) : ∃ r σ1 σ2 L' n' H', f_X11_years v1 v2 σ = some (r, σ1) ∧ f_X12_years v1 v2 σ1 = some (r, σ2) ∧ PV σ2 K L' LI n' H' hi ∧ L' ≤ L + 40 ∧ FM SYC σ σ1 ∧ FM (fun c j => SYD c j ∨ (c = 758 ∧ j = 0)) σ1 σ2 := by
  have hkn := hK.n
  have h' := h
  obtain ⟨hC, hR, hD, hc⟩ := h
  have e21 := hR.1.n0
  by_cases d : 1 ≤ v1 ∧ v1 ≤ 40
  · have hA0 : CA (u2 σ 0 18 v2) K (σ 776, L, n, H) hi (σ 778) LI := ⟨hC.frame hK (u2_i (by omega)) (u2_i (by omega)) (fun c _ _ => u2_ne (by omega)) (fun c _ _ => u2_ne (by omega)), hD⟩
    have hCy : ∀ m : Int, 0 ≤ m → m ≤ 40 → _ := fun m m0 m1 => C_years (who := σ 758 41) (d := v2) (v := m) hA0 hK u2_e m0 m1 hB
    obtain ⟨σ1, g1, g2, g3, g4⟩ := hCy v1 (by omega) (by omega)
    have gr : ∀ c, 758 ≤ c → σ1 c = σ c := fun c hc => funext fun j => (g4 c j (by unfold SYC SJ; omega)).trans (by rw [u2_ne (by omega)])
    have hall : ∀ m : Nat, (m : Int) ≤ v1 → ID K (m_years K (σ 758 41) m ((σ 776, L, n, H), v2)).1.1 (m_years K (σ 758 41) m ((σ 776, L, n, H), v2)).1.2.2.1 (m_years K (σ 758 41) m ((σ 776, L, n, H), v2)).1.2.2.2 hi (σ 778) ∧ 0 ≤ (m_years K (σ 758 41) m ((σ 776, L, n, H), v2)).1.1 75 ∧ (m_years K (σ 758 41) m ((σ 776, L, n, H), v2)).1.1 75 ≤ 60 := fun m hm => by
      obtain ⟨q, k1, k2, k3, k4⟩ := hCy m (by omega) (by omega)
      rw [show (m : Int).toNat = m from by omega] at k2
      have a1 := k2.1.2.2.2.1.1
      have a2 := k2.1.2.2.2.1.2.1
      exact ⟨k2.2, by omega, by omega⟩
    have hRA : RA (u2 (u2 σ1 758 0 0) 758 43 v2) K (σ 776, L, n, H) hi := ⟨hR.frame (fun c _ _ => by rw [u2_ne (by omega), u2_ne (by omega), gr c (by omega)]) (fun j _ _ => by rw [u2_i (by omega), u2_i (by omega), gr 758 (by omega)]), by rw [u2_ne (by omega), u2_ne (by omega), gr 776 (by omega)]⟩
    obtain ⟨σ2, k1, k2, k3⟩ := R_years (v := v1) hRA hall hK u2_e (by rw [u2_i (by omega), u2_i (by omega), gr 758 (by omega)]) (by omega) d.2
    have ef : ∀ c, c < 758 → σ2 c = σ1 c := fun c hc => funext fun j => (k3 c j (by unfold SYD SYR; omega)).trans (by rw [u2_ne (by omega), u2_ne (by omega)])
    have e778 : σ2 778 = σ 778 := (funext fun j => (k3 778 j (by unfold SYD SYR; omega)).trans (by rw [u2_ne (by omega), u2_ne (by omega)]) : σ2 778 = σ1 778).trans (gr 778 (by omega))
    have e768 : σ2 768 = σ 768 := (funext fun j => (k3 768 j (by unfold SYD SYR; omega)).trans (by rw [u2_ne (by omega), u2_ne (by omega)]) : σ2 768 = σ1 768).trans (gr 768 (by omega))
    have e757 : σ1 757 = σ 757 := funext fun j => (g4 757 j (by unfold SYC SJ; omega)).trans (by rw [u2_ne (by omega)])
    refine ⟨(m_years K (σ 758 41) v1.toNat ((σ 776, L, n, H), v2)).1.1 41, σ1, σ2, (m_years K (σ 758 41) v1.toNat ((σ 776, L, n, H), v2)).1.2.1, (m_years K (σ 758 41) v1.toNat ((σ 776, L, n, H), v2)).1.2.2.1, (m_years K (σ 758 41) v1.toNat ((σ 776, L, n, H), v2)).1.2.2.2, ?_, ?_, ⟨?_, k2.1, ?_, fun i hi' => ?_⟩, ?_, ((FM.refl.u (by unfold SYC; omega)).trans g4), ((FM.refl.u (Or.inr ⟨rfl, rfl⟩)).u (Or.inl (Or.inr ⟨rfl, rfl⟩))).trans (k3.mono (fun c j hc => Or.inl hc))⟩
    rotate_left 2
    · rw [k2.2, e778]
      exact g2.1.frame hK (by rw [ef 0 (by omega)]) (by rw [ef 0 (by omega)]) (fun c _ _ => ef c (by omega)) (fun c _ _ => ef c (by omega))
    · rw [k2.2, e778]
      exact g2.2
    · rw [ef 757 (by omega), e757, e768]
      exact hc i hi'
    · have : (m_years K (σ 758 41) v1.toNat ((σ 776, L, n, H), v2)).1.2.1 ≤ L + v1 := g3
      omega
    · unfold f_X11_years
      rw [if_pos hC.1, C_isTold_y hC.2.1 (by omega), Option.bind_some, if_neg (show ¬ (1 : Int) = 0 by omega), if_neg (by omega), if_pos d.2]
      exact g1
    · unfold f_X12_years
      rw [u2_i (by omega), gr 758 (by omega), if_neg (by omega), R_isIn_y d.1 d.2, Option.bind_some, if_neg (show ¬ (1 : Int) = 0 by omega)]
      exact k1
  · refine ⟨-1, σ, u2 σ 758 0 0, L, n, H, ?_, ?_, h'.frame hK (by rw [u2_ne (by omega)]) (by rw [u2_ne (by omega)]) (fun c _ _ => u2_ne (by omega)) (fun c _ _ => u2_ne (by omega)) (u2_ne (by omega)) (fun c _ _ => u2_ne (by omega)) (fun j _ _ => u2_i (by omega)), by omega, FM.refl, FM.refl.u (Or.inr ⟨rfl, rfl⟩)⟩
    · unfold f_X11_years
      rw [if_pos hC.1, C_isTold_y hC.2.1 (by omega), Option.bind_some, if_neg (show ¬ (1 : Int) = 0 by omega)]
      by_cases e : v1 < 1
      · rw [if_pos e]
      · rw [if_neg e, if_neg (by omega)]
    · unfold f_X12_years
      rw [u2_i (by omega), if_neg (by omega), R_isIn_n d, Option.bind_some, if_pos rfl]
end S_YP
