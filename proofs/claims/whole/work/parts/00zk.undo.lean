-- undo, both sides
section S_UN
variable {σ K : Nat → Nat → Int} {H : Int → Nat → Int} {L LI n hi v1 v2 : Int}
def SUN : Nat → Nat → Prop := fun c _ => c = 220 ∨ (173 ≤ c ∧ c < 186)
def SUR : Nat → Nat → Prop := fun c j => c = 776 ∨ (c = 758 ∧ (j = 0 ∨ j = 36))
set_option maxHeartbeats 4000000 in
theorem P_undo (h : PV σ K L LI n H hi) (hK : WK K) : ∃ r σ1 σ2 L' n' H', f_X11_undo σ = some (r, σ1) ∧ f_X12_undo σ1 = some (r, σ2) ∧ PV σ2 K L' LI n' H' hi ∧ L' ≤ L ∧ FM SUN σ σ1 ∧ FM SUR σ1 σ2 := by
  have h' := h
  obtain ⟨⟨c0, c1, i0, i1, i2, i3, i4⟩, ⟨r0, r1, r2, r3, r4⟩, ⟨d0, d1, d2, d3⟩, hc⟩ := h
  have hn36 := r1.1
  by_cases e : n = 0
  · subst e
    refine ⟨-1, σ, u2 σ 758 0 0, L, 0, H, ?_, ?_, ?_, Int.le_refl _, FM.refl, FM.refl.u (by unfold SUR; omega)⟩
    · unfold f_X11_undo
      rw [C_giveBack_0 i2, Option.bind_some]
      dsimp only
      rw [if_pos rfl]
    · unfold f_X12_undo
      rw [u2_i (by omega), if_pos hn36]
    · exact h'.frame hK (by rw [u2_ne (by omega)]) (by rw [u2_ne (by omega)]) (fun c _ _ => u2_ne (by omega)) (fun c _ _ => u2_ne (by omega)) (u2_ne (by omega)) (fun c _ _ => u2_ne (by omega)) (fun j _ _ => u2_i (by omega))
  · have hn1 : 1 ≤ n := by
      have := r1.2.1
      omega
    obtain ⟨σ1, g1, g2, g3, g4, g5⟩ := C_giveBack i2 hn1 hK (d2 1 (by omega) hn1).1
    have gr : ∀ c, 758 ≤ c → σ1 c = σ c := fun c hc => g5 c (by omega)
    obtain ⟨q0, q1, q2, q3, q4⟩ := r1
    have hrow : ∀ j, j < 256 → (ov (σ 779) (256 * ((σ 758 35 + (n - 1)) % 40)).toNat (σ 776) 0 256) j = H 1 j := fun j hj => by
      unfold ov
      rw [if_pos (by omega), q4 1 j (by omega) hn1 hj]
      congr 1
      omega
    have hcop : f_X12_copyRow 779 10240 (256 * ((σ 758 35 + (n - 1)) % 40)) 776 256 0 (u2 (u2 σ1 758 0 0) 758 36 (n - 1)) = some (setR (u2 (u2 σ1 758 0 0) 758 36 (n - 1)) 776 (ov (σ 779) (256 * ((σ 758 35 + (n - 1)) % 40)).toNat (σ 776) 0 256)) := by
      rw [R_copyRow (Or.inl (by omega)) (by omega) (by omega) (by omega) (by omega) (by omega) (by omega), u2_ne (by omega), u2_ne (by omega), u2_ne (by omega), u2_ne (by omega), gr 779 (by omega), gr 776 (by omega)]
      rfl
    refine ⟨n - 1, σ1, setR (u2 (u2 σ1 758 0 0) 758 36 (n - 1)) 776 (ov (σ 779) (256 * ((σ 758 35 + (n - 1)) % 40)).toNat (σ 776) 0 256), L - 1, n - 1, fun j => H (j + 1), ?_, ?_, ?_, by omega, g5.fm (fun c j hc => hc), ((FM.refl.u (by unfold SUR; omega)).u (by unfold SUR; omega)).r (fun j => Or.inl rfl)⟩
    · unfold f_X11_undo
      rw [g1, Option.bind_some]
      dsimp only
      rw [if_neg (by omega), g4.1]
    · unfold f_X12_undo
      have e1 : (u2 σ1 758 0 0) 758 36 = n := by
        rw [u2_i (by omega), gr 758 (by omega)]
        exact q0
      have e2 : (u2 (u2 σ1 758 0 0) 758 36 (n - 1)) 758 35 = σ 758 35 := by
        rw [u2_i (by omega), u2_i (by omega), gr 758 (by omega)]
      rw [e1, if_neg e, zid (x := n - 1) (by omega) (by omega), e2, u2_e, zid (x := σ 758 35 + (n - 1)) (by omega) (by omega), tmod40 (by omega), zid (x := (σ 758 35 + (n - 1)) % 40) (by omega) (by omega), zid (by omega) (by omega), hcop, Option.bind_some, setR_n (by omega), u2_e]
    · have hfr : ∀ c, c ≠ 758 → c ≠ 776 → (setR (u2 (u2 σ1 758 0 0) 758 36 (n - 1)) 776 (ov (σ 779) (256 * ((σ 758 35 + (n - 1)) % 40)).toNat (σ 776) 0 256)) c = σ1 c := fun c k1 k2 => by rw [setR_n k2, u2_ne k1, u2_ne k1]
      have hfr2 : ∀ j, j ≠ 0 → j ≠ 36 → (setR (u2 (u2 σ1 758 0 0) 758 36 (n - 1)) 776 (ov (σ 779) (256 * ((σ 758 35 + (n - 1)) % 40)).toNat (σ 776) 0 256)) 758 j = σ 758 j := fun j k1 k2 => by rw [setR_n (by omega), u2_i k2, u2_i k1, gr 758 (by omega)]
      have e36 : (setR (u2 (u2 σ1 758 0 0) 758 36 (n - 1)) 776 (ov (σ 779) (256 * ((σ 758 35 + (n - 1)) % 40)).toNat (σ 776) 0 256)) 758 36 = n - 1 := by rw [setR_n (by omega), u2_e]
      have e776 : (setR (u2 (u2 σ1 758 0 0) 758 36 (n - 1)) 776 (ov (σ 779) (256 * ((σ 758 35 + (n - 1)) % 40)).toNat (σ 776) 0 256)) 776 = ov (σ 779) (256 * ((σ 758 35 + (n - 1)) % 40)).toNat (σ 776) 0 256 := setR_s
      generalize (setR (u2 (u2 σ1 758 0 0) 758 36 (n - 1)) 776 (ov (σ 779) (256 * ((σ 758 35 + (n - 1)) % 40)).toNat (σ 776) 0 256)) = σ2 at hfr hfr2 e36 e776 ⊢
      obtain ⟨s1, s2⟩ := d2 1 (by omega) hn1
      have hb := s1.n
      have ef : ∀ c, c < 758 → σ2 c = σ1 c := fun c hc => hfr c (by omega) (by omega)
      have e0 : σ2 0 = σ 0 := (ef 0 (by omega)).trans (g5 0 (by omega))
      have ha := ax_a c0
      have e778 : σ2 778 = σ 778 := (hfr 778 (by omega) (by omega)).trans (gr 778 (by omega))
      unfold PV
      rw [e776, e778]
      refine ⟨⟨by rw [e0]; exact c0, by rw [e0]; exact c1.frame (by have := hK.n; omega) (fun c _ _ => (ef c (by omega)).trans (g5 c (by omega))), ?_, ?_, ?_, by rw [e0]; exact i3, fun hh => ?_⟩, ⟨?_, ?_, (hfr2 37 (by omega) (by omega)).trans r2, (hfr2 38 (by omega) (by omega)).trans r3, by rw [hfr2 39 (by omega) (by omega)]; exact r4⟩, ⟨s1.cg75 hK (fun j hj => hrow j (by omega)), s2.cg75 hK (fun j hj => hrow j (by omega)), fun j j0 j1 => d2 (j + 1) (by omega) (by omega), d3⟩, fun i hi' => ?_⟩
      · exact (g2.frame (fun c _ _ => ef c (by omega))).cg75 hK.kl (by omega) (fun j hj => hrow j (by omega))
      · exact (g3.cg (fun j j0 j1 => hrow j j1)).frame (fun c _ _ => ef c (by omega))
      · exact g4.frame (fun j _ => by rw [ef 220 (by omega)]) (fun c _ _ => ef c (by omega)) (fun c _ _ => ef c (by omega))
      · obtain ⟨k0, k1⟩ := i4 hh
        exact ⟨k0.frame (fun c _ _ => (ef c (by omega)).trans (g5 c (by omega))), k1.frame (fun c _ _ => (ef c (by omega)).trans (g5 c (by omega)))⟩
      · exact r0.frame (fun c hc => (hfr c (by omega) (by omega)).trans (gr c (by omega))) (fun j hj => hfr2 j (by omega) (by omega))
      · unfold HR
        rw [e36, hfr2 35 (by omega) (by omega), hfr 779 (by omega) (by omega), gr 779 (by omega)]
        refine ⟨rfl, by omega, by omega, q3, fun j i j0 j1 hi' => ?_⟩
        dsimp only
        rw [q4 (j + 1) i (by omega) (by omega) hi']
        congr 1
        omega
      · rw [ef 757 (by omega), g5 757 (by omega), hfr 768 (by omega) (by omega), gr 768 (by omega)]
        exact hc i hi'
end S_UN
