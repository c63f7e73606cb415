-- an act asked for, on both sides
section S_PA
variable {σ K : Nat → Nat → Int} {H : Int → Nat → Int} {w I : Nat → Int} {L LI n hi what x y z who : Int} {st : Nat}
theorem m_stops_in : -1 ≤ m_stops K w what x y z who ∧ m_stops K w what x y z who < 4 := by
  unfold m_stops
  repeat' split
  all_goals omega
def SJ2 : Nat → Nat → Prop := fun c j => SJ c j ∨ c = 757
set_option maxHeartbeats 4000000 in
theorem C_doOr (hV : CV σ K w L n H hi I LI) (hD : ID K w n H hi I) (hK : WK K) (hT : TS σ st what x y z who) (hx : -2147483648 ≤ x ∧ x < 2147483648) (hwh : 0 ≤ what ∧ what ≤ 6) (hn : what = 2 ∨ what = 3 → 0 < who ∧ who < 4611686018427387904 ∧ NB who) (hst : 42 ≤ st ∧ st + 1 < 173 ∨ 753 ≤ st) (hB : L < 2147483646) :
    ∃ σ2, f_X11_doOrRefuse st σ = some (if m_stops (KL K L) w what x y z who = -1 then (m_does (KL K L) w what x y z who).1 else -1, σ2) ∧ FM SJ2 σ σ2 ∧ (m_stops (KL K L) w what x y z who ≠ -1 → CV σ2 K w L n H hi I LI ∧ σ2 757 = u1 (σ 757) (m_stops (KL K L) w what x y z who).toNat (z_w (σ 757 (m_stops (KL K L) w what x y z who).toNat + 1))) ∧
      (m_stops (KL K L) w what x y z who = -1 → CV σ2 K (m_act (KL K L) w what x y z who) (L + 1) (min (n + 1) 40) (m_push w H) hi I LI ∧ ID K (m_act (KL K L) w what x y z who) (min (n + 1) 40) (m_push w H) hi I ∧ σ2 757 = σ 757) := by
  obtain ⟨σ1, g1, g2, g3, g4⟩ := C_tried hV hD hK hT hx hwh hn hst hB
  have hs := m_stops_in (K := KL K L) (w := w) (what := what) (x := x) (y := y) (z := z) (who := who)
  by_cases d : m_stops (KL K L) w what x y z who = -1
  · obtain ⟨σ2, k1, k2, k3, k4⟩ := g4 d
    refine ⟨σ2, ?_, k4.mono (fun c j hc => Or.inl hc), fun q => absurd d q, fun _ => ⟨k2, k3, funext fun j => k4 757 j (by unfold SJ; omega)⟩⟩
    unfold f_X11_doOrRefuse
    rw [if_pos hV.1, g1, Option.bind_some]
    dsimp only
    rw [if_pos d, if_pos d, k1, Option.bind_some]
  · generalize m_stops (KL K L) w what x y z who = s at *
    have e757 : σ1 757 = σ 757 := funext fun j => g2 757 j (by unfold SF; omega)
    refine ⟨u2 σ1 757 s.toNat (z_w (σ 757 s.toNat + 1)), ?_, (g2.mono (fun c j hc => by unfold SF at hc; unfold SJ2 SJ; omega)).u (Or.inr rfl), fun _ => ⟨g3.frame hK (by rw [u2_c (by omega)]) (by rw [u2_c (by omega)]) (fun c _ _ => u2_ne (by omega)) (fun c _ _ => u2_ne (by omega)), ?_⟩, fun q => absurd q d⟩
    · unfold f_X11_doOrRefuse
      rw [if_pos hV.1, g1, Option.bind_some]
      dsimp only
      rw [if_neg d, if_neg (by omega), if_neg (by omega), if_pos (by omega), if_pos (by omega), if_neg d, e757]
    · rw [← e757]
      funext j
      unfold u2 u1
      by_cases e : j = s.toNat
      · rw [if_pos e, if_pos ⟨rfl, e⟩, e757]
      · rw [if_neg e, if_neg (fun q => e q.2)]
def SYA : Nat → Nat → Prop := fun c j => SYR c j ∨ (c = 758 ∧ j = 0) ∨ c = 768
set_option maxHeartbeats 4000000 in
theorem R_act (hV : RV σ K n H hi) (hD : ID K (σ 776) n H hi I) (h75 : 0 ≤ σ 776 75 ∧ σ 776 75 ≤ 60) (hK : WK K) (hwho : σ 758 41 = who) (hx : -2147483648 ≤ x ∧ x < 2147483648) (hwh : 0 ≤ what ∧ what ≤ 6) (hn : what = 2 ∨ what = 3 → 0 < who ∧ who < 4611686018427387904 ∧ NB who) :
    ∃ σ2, f_X12_act what x y z σ = some (if m_stops (KL K L) (σ 776) what x y z who = -1 then (m_does (KL K L) (σ 776) what x y z who).1 else -1, σ2) ∧ FM SYA σ σ2 ∧ (m_stops (KL K L) (σ 776) what x y z who ≠ -1 → RV σ2 K n H hi ∧ σ2 776 = σ 776 ∧ σ2 768 = u1 (σ 768) (m_stops (KL K L) (σ 776) what x y z who).toNat (z_w (σ 768 (m_stops (KL K L) (σ 776) what x y z who).toNat + 1))) ∧
      (m_stops (KL K L) (σ 776) what x y z who = -1 → RV σ2 K (min (n + 1) 40) (m_push (σ 776) H) hi ∧ σ2 776 = m_act (KL K L) (σ 776) what x y z who ∧ σ2 768 = σ 768) := by
  have hV0 := hV.frame (σ' := u2 σ 758 0 0) (fun c _ _ => u2_ne (by omega)) (fun j _ _ => u2_i (by omega))
  have e776 : (u2 σ 758 0 0) 776 = σ 776 := u2_ne (by omega)
  obtain ⟨σ1, g1, g2, g3, g4⟩ := R_tried (L := L) (y := y) (z := z) hV0 (by rw [e776]; exact hD) (by rw [e776]; exact h75) hK (by rw [u2_i (by omega)]; exact hwho) hx hwh hn
  rw [e776] at g1 g3 g4
  have hs := m_stops_in (K := KL K L) (w := σ 776) (what := what) (x := x) (y := y) (z := z) (who := who)
  have hm : FM SYA σ σ1 := (FM.refl.u (by unfold SYA; omega)).trans (g2.mono (fun c j hc => Or.inl hc))
  have e768 : σ1 768 = σ 768 := funext fun j => (g2 768 j (by unfold SYR; omega)).trans (by rw [u2_c (by omega)])
  by_cases d : m_stops (KL K L) (σ 776) what x y z who = -1
  · obtain ⟨k1, k2, k3⟩ := g4 d
    refine ⟨σ1, ?_, hm, fun q => absurd d q, fun _ => ⟨k1, k2, e768⟩⟩
    unfold f_X12_act
    rw [g1, Option.bind_some]
    dsimp only
    rw [if_pos d, if_pos d, k3]
  · obtain ⟨k1, k2⟩ := g3 d
    generalize m_stops (KL K L) (σ 776) what x y z who = s at *
    refine ⟨u2 σ1 768 s.toNat (z_w (σ 768 s.toNat + 1)), ?_, hm.u (by unfold SYA; omega), fun _ => ⟨?_, ?_, ?_⟩, fun q => absurd q d⟩
    · unfold f_X12_act
      rw [g1, Option.bind_some]
      dsimp only
      rw [if_neg d, if_pos (by omega), if_pos (by omega), if_neg d, e768]
    · obtain ⟨p0, p1, p2, p3, p4⟩ := k1
      have hf : FM (fun c _ => c = 768) σ1 (u2 σ1 768 s.toNat (z_w (σ 768 s.toNat + 1))) := FM.refl.u rfl
      exact ⟨p0.fm hf (fun c j hj => by omega), p1.frame (u2_c (by omega)) (u2_c (by omega)) (u2_ne (by omega)), (hf 758 37 (by omega)).trans p2, (hf 758 38 (by omega)).trans p3, by rw [hf 758 39 (by omega)]; exact p4⟩
    · rw [u2_ne (by omega)]
      exact k2
    · rw [← e768]
      funext j
      unfold u2 u1
      by_cases e : j = s.toNat
      · rw [if_pos e, if_pos ⟨rfl, e⟩]
      · rw [if_neg e, if_neg (fun q => e q.2)]
/-- both stand alike: the log L long, the image's log LI -/
def PV (σ K : Nat → Nat → Int) (L LI n : Int) (H : Int → Nat → Int) (hi : Int) : Prop := CV σ K (σ 776) L n H hi (σ 778) LI ∧ RV σ K n H hi ∧ ID K (σ 776) n H hi (σ 778) ∧ ∀ i : Nat, i < 4 → σ 757 i = σ 768 i
theorem PV.h75 (h : PV σ K L LI n H hi) : 0 ≤ σ 776 75 ∧ σ 776 75 ≤ 60 := by
  have h1 := h.1.2.2.2.1.1
  have h2 := h.1.2.2.2.1.2.1
  omega
set_option maxHeartbeats 4000000 in
theorem P_act (h : PV σ K L LI n H hi) (hK : WK K) (hT : TS σ st what x y z who) (hwho : σ 758 41 = who) (hx : -2147483648 ≤ x ∧ x < 2147483648) (hwh : 0 ≤ what ∧ what ≤ 6) (hn : what = 2 ∨ what = 3 → 0 < who ∧ who < 4611686018427387904 ∧ NB who) (hst : 42 ≤ st ∧ st + 1 < 173 ∨ 753 ≤ st ∧ st < 757) (hB : L < 2147483646) :
    ∃ r σ1 σ2 L' n' H', f_X11_doOrRefuse st σ = some (r, σ1) ∧ f_X12_act what x y z σ1 = some (r, σ2) ∧ PV σ2 K L' LI n' H' hi ∧ L' ≤ L + 1 ∧ FM SJ2 σ σ1 ∧ FM SYA σ1 σ2 := by
  have h75 := h.h75
  obtain ⟨hC, hR, hD, hc⟩ := h
  obtain ⟨σ1, g1, g2, g3, g4⟩ := C_doOr hC hD hK hT hx hwh hn (by omega) hB
  have gr : ∀ c, 758 ≤ c → σ1 c = σ c := fun c hc => funext fun j => g2 c j (by unfold SJ2 SJ; omega)
  have hR1 := hR.frame (σ' := σ1) (fun c _ _ => gr c (by omega)) (fun j _ _ => by rw [gr 758 (by omega)])
  have e776 := gr 776 (by omega)
  obtain ⟨σ2, k1, k2, k3, k4⟩ := R_act (L := L) (y := y) (z := z) hR1 (by rw [e776]; exact hD) (by rw [e776]; exact h75) hK (by rw [gr 758 (by omega)]; exact hwho) hx hwh hn
  rw [e776] at k1 k3 k4
  have kr : ∀ c, c < 758 → σ2 c = σ1 c := fun c hc => funext fun j => k2 c j (by unfold SYA SYR; omega)
  have e778 : σ2 778 = σ 778 := (funext fun j => k2 778 j (by unfold SYA SYR; omega) : σ2 778 = σ1 778).trans (gr 778 (by omega))
  have hs := m_stops_in (K := KL K L) (w := σ 776) (what := what) (x := x) (y := y) (z := z) (who := who)
  by_cases d : m_stops (KL K L) (σ 776) what x y z who = -1
  · obtain ⟨a1, a2, a3⟩ := g4 d
    obtain ⟨b1, b2, b3⟩ := k4 d
    refine ⟨_, σ1, σ2, L + 1, min (n + 1) 40, m_push (σ 776) H, g1, k1, ⟨?_, b1, ?_, fun i hi' => ?_⟩, Int.le_refl _, g2, k2⟩
    · rw [b2, e778]
      exact a1.frame hK (by rw [kr 0 (by omega)]) (by rw [kr 0 (by omega)]) (fun c _ _ => kr c (by omega)) (fun c _ _ => kr c (by omega))
    · rw [b2, e778]
      exact a2
    · rw [kr 757 (by omega), a3, b3, gr 768 (by omega)]
      exact hc i hi'
  · obtain ⟨a1, a2⟩ := g3 d
    obtain ⟨b1, b2, b3⟩ := k3 d
    refine ⟨_, σ1, σ2, L, n, H, g1, k1, ⟨?_, b1, ?_, fun i hi' => ?_⟩, by omega, g2, k2⟩
    · rw [b2, e778]
      exact a1.frame hK (by rw [kr 0 (by omega)]) (by rw [kr 0 (by omega)]) (fun c _ _ => kr c (by omega)) (fun c _ _ => kr c (by omega))
    · rw [b2, e778]
      exact hD
    · rw [kr 757 (by omega), a2, b3, gr 768 (by omega), hc _ (by omega)]
      unfold u1
      by_cases e : i = (m_stops (KL K L) (σ 776) what x y z who).toNat
      · rw [if_pos e, if_pos e]
      · rw [if_neg e, if_neg e]
        exact hc i hi'
end S_PA
