-- what is tried, the reference's side
section S_TRY
variable {σ K : Nat → Nat → Int} {H : Int → Nat → Int} {n what x y z who : Int}
/-- what a try of the reference touches -/
def SYR : Nat → Nat → Prop := fun c j => c = 776 ∨ (779 ≤ c ∧ c ≤ 783) ∨ (c = 758 ∧ (j = 35 ∨ j = 36 ∨ j = 42 ∨ j = 47))
set_option maxHeartbeats 4000000 in
theorem R_tries (hM : RM σ K) (hK : WK K) (hS : WS K (σ 776)) (hL : WL K (σ 776)) (h75 : 0 ≤ σ 776 75 ∧ σ 776 75 ≤ 60) (hH : HR σ n H) (h38 : σ 758 38 = -1) (h39 : 0 ≤ σ 758 39) (hwho : σ 758 41 = who) (hx : -2147483648 ≤ x ∧ x < 2147483648) (hwh : 0 ≤ what ∧ what ≤ 6) (hn : what = 2 ∨ what = 3 → 0 < who ∧ who < 4611686018427387904 ∧ NB who) :
    ∃ σ', f_X12_tries what x y z σ = some (m_stops K (σ 776) what x y z who, σ') ∧ (m_stops K (σ 776) what x y z who ≠ -1 → FM SS σ σ') ∧ (m_stops K (σ 776) what x y z who = -1 → OK K (σ 776) what x y z who ∧ σ' 776 = m_act K (σ 776) what x y z who ∧ σ' 758 42 = (m_does K (σ 776) what x y z who).1 ∧ HR σ' (min (n + 1) 40) (m_push (σ 776) H) ∧ FM SYR σ σ') := by
  obtain ⟨σ1, g1, g2⟩ := R_stops (x := x) (y := y) (z := z) (what := what) (b := 776) hM hK hS (by omega) (by omega) h38 hwho hx hwh
  by_cases d : m_stops K (σ 776) what x y z who = -1
  · have hM1 := hM.fm g2 (fun c j hj => by unfold SS at hj; omega)
    have hR1 : HR σ1 n H := hH.frame (g2 758 35 (by unfold SS; omega)) (g2 758 36 (by unfold SS; omega)) (funext fun j => g2 779 j (by unfold SS; omega))
    have ew1 : σ1 776 = σ 776 := funext fun j => g2 776 j (by unfold SS; omega)
    obtain ⟨σ2, k1, k2, k3⟩ := R_remember hR1
    rw [ew1] at k2
    have ew2 : σ2 776 = σ 776 := (funext fun j => k3 776 j (by unfold SH; omega) : σ2 776 = σ1 776).trans ew1
    have hM2 := hM1.fm k3 (fun c j hj => by unfold SH at hj; omega)
    have hok := OK.of d hwh hn
    have e2 : ∀ j, j ≠ 35 → j ≠ 36 → j ≠ 47 → σ2 758 j = σ 758 j := fun j j1 j2 j3 => (k3 758 j (by unfold SH; omega)).trans (g2 758 j (by unfold SS; omega))
    obtain ⟨σ3, l1, l2, l3, l4⟩ := R_does (b := 776) hM2 hK (by rw [ew2]; exact hS) (by rw [ew2]; exact hL) (by omega) (by omega) ((e2 38 (by omega) (by omega) (by omega)).trans h38) (by rw [e2 39 (by omega) (by omega) (by omega)]; exact h39) ((e2 41 (by omega) (by omega) (by omega)).trans hwho) (by rw [ew2]; exact hok)
    rw [ew2] at l2 l3
    have e75 : σ3 776 75 = σ 776 75 := by
      rw [l2]
      exact m_does_o hK hS hL hok (by omega)
    have hno := R_notes (σ := σ3) (sort := what) (num := if what = 6 then σ3 758 42 else x) (by omega) (by omega)
    refine ⟨setR σ3 776 (m_note (σ3 776) what (if what = 6 then σ3 758 42 else x)), ?_, fun q => absurd d q, fun _ => ⟨hok, ?_, ?_, ?_, ?_⟩⟩
    · unfold f_X12_tries f_X12_tries_57
      rw [g1, Option.bind_some]
      dsimp only
      rw [if_pos d, k1, Option.bind_some, l1, Option.bind_some, hno, Option.bind_some, d]
    · rw [setR_s, l2, l3]
      rfl
    · rw [setR_n (by omega)]
      exact l3
    · exact k2.frame (by rw [setR_n (by omega)]; exact l4 758 35 (by unfold SD; omega)) (by rw [setR_n (by omega)]; exact l4 758 36 (by unfold SD; omega)) (by rw [setR_n (by omega)]; exact funext fun j => l4 779 j (by unfold SD; omega))
    · exact (((g2.mono (fun c j hc => by unfold SS at hc; unfold SYR; omega)).trans (k3.mono (fun c j hc => by unfold SH at hc; unfold SYR; omega))).trans (l4.mono (fun c j hc => by unfold SD at hc; unfold SYR; omega))).r (fun j => Or.inl rfl)
  · refine ⟨σ1, ?_, fun _ => g2, fun q => absurd q d⟩
    unfold f_X12_tries
    rw [g1, Option.bind_some]
    dsimp only
    rw [if_neg d]
/-- how the reference stands: its row and its image are in their cells -/
def RV (σ K : Nat → Nat → Int) (n : Int) (H : Int → Nat → Int) (hi : Int) : Prop := RM σ K ∧ HR σ n H ∧ σ 758 37 = hi ∧ σ 758 38 = -1 ∧ 0 ≤ σ 758 39
/-- how the class stands, its chip too -/
def CV (σ K : Nat → Nat → Int) (w : Nat → Int) (L n : Int) (H : Int → Nat → Int) (hi : Int) (I : Nat → Int) (LI : Int) : Prop := (σ 0 2).toNat ∈ ax_iX1 ∧ RC σ (σ 0 2).toNat K ∧ IC σ K w L n H hi I LI
theorem ax_a {a : Nat} (h : a ∈ ax_iX1) : 4 ≤ a ∧ a + 19 ≤ 42 := by
  unfold ax_iX1 at h
  simp at h
  omega
theorem CV.frame {σ' : Nat → Nat → Int} {w I : Nat → Int} {L hi LI : Int} (h : CV σ K w L n H hi I LI) (hK : WK K) (h1 : σ' 0 2 = σ 0 2) (h2 : σ' 0 9 = σ 0 9) (h3 : ∀ c, 4 ≤ c → c < 42 → σ' c = σ c) (h4 : ∀ c, 173 ≤ c → c < 742 → σ' c = σ c) : CV σ' K w L n H hi I LI := by
  have hkn := hK.n
  obtain ⟨p0, p1, i0, i1, i2, i3, i4⟩ := h
  have ha := ax_a p0
  unfold CV
  rw [h1]
  refine ⟨p0, p1.frame (by omega) (fun c _ _ => h3 c (by omega) (by omega)), i0.frame (fun c _ _ => h4 c (by omega) (by omega)), i1.frame (fun c _ _ => h4 c (by omega) (by omega)), i2.frame (fun j _ => by rw [h4 220 (by omega) (by omega)]) (fun c _ _ => h4 c (by omega) (by omega)) (fun c _ _ => h4 c (by omega) (by omega)), h2.trans i3, fun q => ?_⟩
  obtain ⟨q0, q1⟩ := i4 q
  exact ⟨q0.frame (fun c _ _ => h4 c (by omega) (by omega)), q1.frame (fun c _ _ => h4 c (by omega) (by omega))⟩
theorem RV.frame {σ' : Nat → Nat → Int} {hi : Int} (h : RV σ K n H hi) (h1 : ∀ c, 760 ≤ c → c < 784 → σ' c = σ c) (h2 : ∀ j, 21 ≤ j → j < 40 → σ' 758 j = σ 758 j) : RV σ' K n H hi := by
  obtain ⟨p0, p1, p2, p3, p4⟩ := h
  unfold RV
  rw [h2 37 (by omega) (by omega), h2 38 (by omega) (by omega), h2 39 (by omega) (by omega)]
  exact ⟨p0.frame (fun c hc => h1 c (by omega) (by omega)) (fun j hj => h2 j (by omega) (by omega)), p1.frame (h2 35 (by omega) (by omega)) (h2 36 (by omega) (by omega)) (h1 779 (by omega) (by omega)), p2, p3, p4⟩
/-- the class tries -/
theorem C_tried {st : Nat} {w I : Nat → Int} {L hi LI : Int} (hV : CV σ K w L n H hi I LI) (hD : ID K w n H hi I) (hK : WK K) (hT : TS σ st what x y z who) (hx : -2147483648 ≤ x ∧ x < 2147483648) (hwh : 0 ≤ what ∧ what ≤ 6) (hn : what = 2 ∨ what = 3 → 0 < who ∧ who < 4611686018427387904 ∧ NB who) (hst : 42 ≤ st ∧ st + 1 < 173 ∨ 753 ≤ st) (hB : L < 2147483646) :
    ∃ σ1, f_X0_refusalOf (σ 0 2).toNat 173 st σ = some (m_stops (KL K L) w what x y z who, σ1) ∧ FM SF σ σ1 ∧ CV σ1 K w L n H hi I LI ∧ (m_stops (KL K L) w what x y z who = -1 → ∃ σ2, f_X11_doAct st σ1 = some ((m_does (KL K L) w what x y z who).1, σ2) ∧ CV σ2 K (m_act (KL K L) w what x y z who) (L + 1) (min (n + 1) 40) (m_push w H) hi I LI ∧ ID K (m_act (KL K L) w what x y z who) (min (n + 1) 40) (m_push w H) hi I ∧ FM SJ σ σ2) := by
  have hkn := hK.n
  have ha := ax_a hV.1
  obtain ⟨σ1, g1, g2⟩ := C_refusalOf (y := y) (z := z) (who := who) hV.2.2.1 hV.2.1.kl hK.kl (WS.kl.mpr hD.1) (by omega) (by omega) (by omega) hT hwh (fun q => by have := hn q; omega) hx
  have gc : ∀ c, ¬ (744 ≤ c ∧ c ≤ 752) → σ1 c = σ c := fun c hc => funext fun j => g2 c j (by unfold SF; omega)
  have hV1 := hV.frame (σ' := σ1) hK (by rw [gc 0 (by omega)]) (by rw [gc 0 (by omega)]) (fun c _ _ => gc c (by omega)) (fun c _ _ => gc c (by omega))
  refine ⟨σ1, g1, g2, hV1, fun d => ?_⟩
  have hok := OK.of d hwh hn
  have hT1 : TS σ1 st what x y z who := by
    unfold TS
    rw [gc st (by omega), gc (st + 1) (by omega)]
    exact hT
  obtain ⟨σ2, k1, k2, k3⟩ := C_doAct hV1.2.2 hD hK hV1.1 hV1.2.1 hT1 hok (by omega) hB
  have e0 : σ2 0 = σ1 0 := funext fun j => k3 0 j (by unfold SJ; omega)
  have h75 : 0 ≤ w 75 := by
    have := hV1.2.2.2.1.1
    have := hV1.2.2.2.1.2.1
    omega
  have hin := m_act_in hK.kl (WS.kl.mpr hD.1) (WL.kl.mpr hD.2.1) h75 hok
  refine ⟨σ2, k1, ⟨by rw [e0]; exact hV1.1, by rw [e0]; exact hV1.2.1.frame (by have := ax_a hV1.1; omega) (fun c _ _ => funext fun j => k3 c j (by have := ax_a hV1.1; unfold SJ; omega)), k2⟩, hD.act (WS.kl.mp hin.1) (WL.kl.mp hin.2), (g2.mono (fun c j hc => by unfold SF at hc; unfold SJ; omega)).trans k3⟩
/-- the reference tries -/
theorem R_tried {I : Nat → Int} {L hi : Int} (hV : RV σ K n H hi) (hD : ID K (σ 776) n H hi I) (h75 : 0 ≤ σ 776 75 ∧ σ 776 75 ≤ 60) (hK : WK K) (hwho : σ 758 41 = who) (hx : -2147483648 ≤ x ∧ x < 2147483648) (hwh : 0 ≤ what ∧ what ≤ 6) (hn : what = 2 ∨ what = 3 → 0 < who ∧ who < 4611686018427387904 ∧ NB who) :
    ∃ σ', f_X12_tries what x y z σ = some (m_stops (KL K L) (σ 776) what x y z who, σ') ∧ FM SYR σ σ' ∧ (m_stops (KL K L) (σ 776) what x y z who ≠ -1 → RV σ' K n H hi ∧ σ' 776 = σ 776) ∧ (m_stops (KL K L) (σ 776) what x y z who = -1 → RV σ' K (min (n + 1) 40) (m_push (σ 776) H) hi ∧ σ' 776 = m_act (KL K L) (σ 776) what x y z who ∧ σ' 758 42 = (m_does (KL K L) (σ 776) what x y z who).1) := by
  obtain ⟨p0, p1, p2, p3, p4⟩ := hV
  obtain ⟨σ', g1, g2, g3⟩ := R_tries (K := KL K L) (y := y) (z := z) p0.kl hK.kl (WS.kl.mpr hD.1) (WL.kl.mpr hD.2.1) h75 p1 p3 p4 hwho hx hwh hn
  by_cases d : m_stops (KL K L) (σ 776) what x y z who = -1
  · obtain ⟨k1, k2, k3, k4, k5⟩ := g3 d
    refine ⟨σ', g1, k5, fun q => absurd d q, fun _ => ⟨⟨p0.fm k5 (fun c j hj => by unfold SYR at hj; omega), k4, (k5 758 37 (by unfold SYR; omega)).trans p2, (k5 758 38 (by unfold SYR; omega)).trans p3, by rw [k5 758 39 (by unfold SYR; omega)]; exact p4⟩, k2, k3⟩⟩
  · have k := g2 d
    refine ⟨σ', g1, k.mono (fun c j hc => by unfold SS at hc; unfold SYR; omega), fun _ => ⟨⟨p0.fm k (fun c j hj => by unfold SS at hj; omega), p1.frame (k 758 35 (by unfold SS; omega)) (k 758 36 (by unfold SS; omega)) (funext fun j => k 779 j (by unfold SS; omega)), (k 758 37 (by unfold SS; omega)).trans p2, (k 758 38 (by unfold SS; omega)).trans p3, by rw [k 758 39 (by unfold SS; omega)]; exact p4⟩, funext fun j => k 776 j (by unfold SS; omega)⟩, fun q => absurd q d⟩
end S_TRY
