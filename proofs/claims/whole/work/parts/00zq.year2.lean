-- one year, the reference's side
section S_YR2
variable {σ K : Nat → Nat → Int} {s : AS} {I : Nat → Int} {LI hi v what x y z who d : Int} {st : Nat}
set_option maxHeartbeats 4000000 in
theorem R_year (hA : RA σ K s hi) (hD : ID K s.1 s.2.2.1 s.2.2.2 hi I) (h75 : 0 ≤ s.1 75 ∧ s.1 75 ≤ 60) (hK : WK K) (hd : σ 758 43 = d) (hwho : σ 758 41 = who) :
    ∃ σ', f_X12_happens σ = some σ' ∧ RA σ' K (m_year K who s d).1 hi ∧ σ' 758 43 = (m_year K who s d).2 ∧ FM SYD σ σ' := by
  have hkn := hK.n
  have hq := m_drawn_in (d := d) (v := 8) (by omega)
  have fu : ∀ (q : Nat → Nat → Int) (e : Int), RA q K s hi → RA (u2 q 758 43 e) K s hi := fun q e h => h.frame (fun c _ _ => u2_ne (by omega)) (fun j _ _ => u2_i (by omega))
  have fw : ∀ (q : Nat → Nat → Int) (e : Int), q 758 41 = who → (u2 q 758 43 e) 758 41 = who := fun q e h => (u2_i (by omega)).trans h
  have mu : ∀ {q q' : Nat → Nat → Int}, FM SYR q q' → q' 758 43 = q 758 43 := fun h => h 758 43 (by unfold SYR; omega)
  have mm : ∀ {q q' : Nat → Nat → Int}, FM SYR q q' → FM SYD q q' := fun h => h.mono (fun c j hc => Or.inl hc)
  have u43 : ∀ {q q' : Nat → Nat → Int} {e : Int}, FM SYD q q' → FM SYD q (u2 q' 758 43 e) := fun h => h.u (Or.inr ⟨rfl, rfl⟩)
  have hA1 := fu σ (m_draw d) hA
  have hw1 := fw σ (m_draw d) hwho
  unfold f_X12_happens m_year
  rw [R_draw (by omega) (by omega), Option.bind_some, hd]
  dsimp only
  generalize m_drawn d 8 = q8 at hq ⊢
  by_cases c1 : 4 ≤ q8
  · rw [if_pos c1, if_pos c1]
    by_cases c2 : q8 = 7
    · rw [if_pos c2, if_pos c2]
      obtain ⟨σ', g1, g2, g3⟩ := R_try (what := 6) (x := 0) (y := 0) (z := 0) hA1 hD h75 hK hw1 (by omega) (by omega) (by omega)
      exact ⟨σ', by rw [g1, Option.bind_some], g2, (mu g3).trans u2_e, (u43 FM.refl).trans (mm g3)⟩
    · have n1 := hA1.1.1.n1
      rw [if_neg c2, if_neg c2]
      by_cases c3 : K 0 1 ≤ 0
      · rw [if_pos (show (u2 σ 758 43 (m_draw d)) 758 23 ≤ 0 from n1.symm ▸ c3), if_pos c3]
        exact ⟨_, rfl, hA1, u2_e, u43 FM.refl⟩
      · have ht := m_drawn_in (d := m_draw d) (v := K 0 1) (by omega)
        have hA2 := fu _ (m_draw (m_draw d)) hA1
        have hw2 := fw _ (m_draw (m_draw d)) hw1
        rw [if_neg (show ¬ (u2 σ 758 43 (m_draw d)) 758 23 ≤ 0 from n1.symm ▸ c3), if_neg c3, n1, R_draw (by omega) (by omega), Option.bind_some, u2_e]
        dsimp only
        generalize m_drawn (m_draw d) (K 0 1) = t at ht ⊢
        by_cases c4 : 6 ≤ q8
        · rw [if_pos c4, if_pos c4, zid (by omega) (by omega), if_pos (by omega)]
          unfold f_X12_happens_109
          have ew : (u2 (u2 σ 758 43 (m_draw d)) 758 43 (m_draw (m_draw d))) 776 = s.1 := hA2.2
          simp only [ew]
          have hw5 : (if s.1 (37 + t).toNat = 1 then (5 : Int) else 4) = 5 ∨ (if s.1 (37 + t).toNat = 1 then (5 : Int) else 4) = 4 := by
            by_cases e : s.1 (37 + t).toNat = 1
            · exact Or.inl (if_pos e)
            · exact Or.inr (if_neg e)
          generalize (if s.1 (37 + t).toNat = 1 then (5 : Int) else 4) = what at hw5 ⊢
          obtain ⟨σ', g1, g2, g3⟩ := R_try (what := what) (x := t) (y := 0) (z := 0) hA2 hD h75 hK hw2 (by omega) (by omega) (by omega)
          exact ⟨σ', by rw [g1, Option.bind_some], g2, (mu g3).trans u2_e, (u43 (u43 FM.refl)).trans (mm g3)⟩
        · have n2 := hA2.1.1.n2
          rw [if_neg c4, if_neg c4, n2, R_draw (by omega) (by omega), Option.bind_some, u2_e]
          dsimp only
          have hv := m_drawn_in (d := m_draw (m_draw d)) (v := K 0 2) (by omega)
          have hA3 := fu _ (m_draw (m_draw (m_draw d))) hA2
          have hw3 := fw _ (m_draw (m_draw (m_draw d))) hw2
          obtain ⟨σ', g1, g2, g3⟩ := R_try (what := 1) (x := t) (y := m_drawn (m_draw (m_draw d)) (K 0 2)) (z := 0) hA3 hD h75 hK hw3 (by omega) (by omega) (by omega)
          exact ⟨σ', by rw [g1, Option.bind_some], g2, (mu g3).trans u2_e, (u43 (u43 (u43 FM.refl))).trans (mm g3)⟩
  · rw [if_neg c1, if_neg c1, R_draw (by omega) (by omega), Option.bind_some, u2_e]
    dsimp only
    have hv := m_drawn_in (d := m_draw d) (v := 5) (by omega)
    have hA2 := fu _ (m_draw (m_draw d)) hA1
    have hw2 := fw _ (m_draw (m_draw d)) hw1
    rw [zid (by omega) (by omega)]
    obtain ⟨σ', g1, g2, g3⟩ := R_try (what := 0) (x := m_drawn (m_draw d) 5 + 1) (y := 0) (z := 0) hA2 hD h75 hK hw2 (by omega) (by omega) (by omega)
    exact ⟨σ', by rw [g1, Option.bind_some], g2, (mu g3).trans u2_e, (u43 (u43 FM.refl)).trans (mm g3)⟩
end S_YR2
