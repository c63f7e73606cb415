-- the years of the reference
section S_YL3
variable {σ K : Nat → Nat → Int} {s : AS} {I : Nat → Int} {LI hi v who d : Int}
theorem m_years_s (n : Nat) (p : AS × Int) : m_years K who (n + 1) p = m_yearS K who (m_years K who n p) := iter_snoc n 0 p
theorem R_years (hA : RA σ K s hi) (hAll : ∀ m : Nat, (m : Int) ≤ v → ID K (m_years K who m (s, d)).1.1 (m_years K who m (s, d)).1.2.2.1 (m_years K who m (s, d)).1.2.2.2 hi I ∧ 0 ≤ (m_years K who m (s, d)).1.1 75 ∧ (m_years K who m (s, d)).1.1 75 ≤ 60) (hK : WK K) (hd : σ 758 43 = d) (hwho : σ 758 41 = who) (h0 : 0 ≤ v) (h1 : v ≤ 40) :
    ∃ σ', f_X12_years_34 100000 v 0 σ = some ((m_years K who v.toNat (s, d)).1.1 41, σ') ∧ RA σ' K (m_years K who v.toNat (s, d)).1 hi ∧ FM SYD σ σ' := by
  have h := sim_loop (F := fun k t (q : Nat → Nat → Int) => f_X12_years_34 k v t q) (X := fun _ p => m_yearS K who p) (hi := v)
    (fun t q p => 0 ≤ t ∧ p = m_years K who t.toNat (s, d) ∧ RA q K p.1 hi ∧ q 758 43 = p.2 ∧ q 758 41 = who ∧ FM SYD σ q)
    (fun p r => ∃ σ', r = some (p.1.1 41, σ') ∧ RA σ' K p.1 hi ∧ FM SYD σ σ')
    (fun k t q p ht hq => by
      obtain ⟨p0, pp, p1, p2, p3, p4⟩ := hq
      have ha := hAll t.toNat (by omega)
      rw [← pp] at ha
      obtain ⟨σ', g1, g2, g3, g4⟩ := R_year p1 ha.1 ha.2 hK p2 p3
      refine ⟨σ', ?_, by omega, ?_, g2, g3, (g4 758 41 (by unfold SYD SYR; omega)).trans p3, p4.trans g4⟩
      · rw [f_X12_years_34, if_neg (by omega), g1, Option.bind_some, zid (by omega) (by omega)]
      · rw [show (t + 1).toNat = t.toNat + 1 from by omega, m_years_s, ← pp])
    (fun k q p hq => by
      obtain ⟨p0, pp, p1, p2, p3, p4⟩ := hq
      refine ⟨q, ?_, p1, p4⟩
      rw [f_X12_years_34, if_pos (Int.le_refl _), p1.2]) v.toNat 100000 0 σ (s, d) (by omega) (by omega) ⟨Int.le_refl _, rfl, hA, hd, hwho, FM.refl⟩
  exact h
end S_YL3
