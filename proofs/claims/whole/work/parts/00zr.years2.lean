-- the years, one after another, both sides
def m_yearS (K : Nat → Nat → Int) (who : Int) (p : AS × Int) : AS × Int := m_year K who p.1 p.2
def m_years (K : Nat → Nat → Int) (who : Int) (n : Nat) (p : AS × Int) : AS × Int := iter (fun _ p => m_yearS K who p) n 0 p
section S_YL
variable {σ K : Nat → Nat → Int} {s : AS} {I : Nat → Int} {LI hi v who d : Int}
theorem m_year_L : (m_year K who s d).1.2.1 ≤ s.2.1 + 1 := by
  unfold m_year
  repeat' split
  all_goals first | exact m_try_L | (show s.2.1 ≤ s.2.1 + 1; omega)
theorem C_years (hA : CA σ K s hi I LI) (hK : WK K) (hd : σ 0 18 = d) (h0 : 0 ≤ v) (h1 : v ≤ 40) (hB : s.2.1 < 2147483000) :
    ∃ σ', f_X11_years_31 100000 v 0 σ = some ((m_years K who v.toNat (s, d)).1.1 41, σ') ∧ CA σ' K (m_years K who v.toNat (s, d)).1 hi I LI ∧ (m_years K who v.toNat (s, d)).1.2.1 ≤ s.2.1 + v ∧ FM SYC σ σ' := by
  have h := sim_loop (F := fun k t (q : Nat → Nat → Int) => f_X11_years_31 k v t q) (X := fun _ p => m_yearS K who p) (hi := v)
    (fun t q p => 0 ≤ t ∧ CA q K p.1 hi I LI ∧ q 0 18 = p.2 ∧ p.1.2.1 ≤ s.2.1 + t ∧ FM SYC σ q)
    (fun p r => ∃ σ', r = some (p.1.1 41, σ') ∧ CA σ' K p.1 hi I LI ∧ p.1.2.1 ≤ s.2.1 + v ∧ FM SYC σ σ')
    (fun k t q p ht hq => by
      obtain ⟨p0, p1, p2, p3, p4⟩ := hq
      obtain ⟨σ', g1, g2, g3, g4⟩ := C_year (who := who) p1 hK p2 (by omega)
      have hl : (m_year K who p.1 p.2).1.2.1 ≤ p.1.2.1 + 1 := m_year_L
      refine ⟨σ', ?_, by omega, g2, g3, ?_, p4.trans g4⟩
      · rw [f_X11_years_31, if_neg (by omega), g1, Option.bind_some, zid (by omega) (by omega)]
      · show (m_year K who p.1 p.2).1.2.1 ≤ _
        omega)
    (fun k q p hq => by
      obtain ⟨p0, p1, p2, p3, p4⟩ := hq
      refine ⟨q, ?_, p1, p3, p4⟩
      rw [f_X11_years_31, if_pos (Int.le_refl _), p1.1.2.2.1.n0]) v.toNat 100000 0 σ (s, d) (by omega) (by omega) ⟨Int.le_refl _, hA, hd, by show s.2.1 ≤ s.2.1 + 0; omega, FM.refl⟩
  exact h
end S_YL
