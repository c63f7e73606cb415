-- draws and years, both sides
theorem zU33 (v : Int) : 0 ≤ z_ushrL v 33 ∧ z_ushrL v 33 < 2147483648 := by
  unfold z_ushrL
  obtain ⟨n, hn, e⟩ := wb_of (Int64.ofInt v)
  have hq : n / 2 ^ 33 < 2147483648 := by omega
  rw [e, show Int32.ofInt 33 = nI 33 from by decide, wb_shr hn (by omega), zNt (by omega)]
  omega
def m_draw (d : Int) : Int := z_l (z_l (d * 6364136223846793005) + 1442695040888963407)
def m_drawn (d v : Int) : Int := Int.tmod (z_ushrL (m_draw d) 33) v
theorem m_drawn_in {d v : Int} (h : 1 ≤ v) : 0 ≤ m_drawn d v ∧ m_drawn d v < v := by
  unfold m_drawn
  have := zU33 (m_draw d)
  exact ⟨Int.tmod_nonneg _ this.1, Int.tmod_lt_of_pos _ (by omega)⟩
abbrev AS : Type := (Nat → Int) × Int × Int × (Int → Nat → Int)
def m_try (K : Nat → Nat → Int) (s : AS) (what x y z who : Int) : AS := if m_stops (KL K s.2.1) s.1 what x y z who = -1 then (m_act (KL K s.2.1) s.1 what x y z who, s.2.1 + 1, min (s.2.2.1 + 1) 40, m_push s.1 s.2.2.2) else s
def CA (σ K : Nat → Nat → Int) (s : AS) (hi : Int) (I : Nat → Int) (LI : Int) : Prop := CV σ K s.1 s.2.1 s.2.2.1 s.2.2.2 hi I LI ∧ ID K s.1 s.2.2.1 s.2.2.2 hi I
def RA (σ K : Nat → Nat → Int) (s : AS) (hi : Int) : Prop := RV σ K s.2.2.1 s.2.2.2 hi ∧ σ 776 = s.1
section S_YE
variable {σ K : Nat → Nat → Int} {s : AS} {I : Nat → Int} {LI hi v what x y z who : Int} {st : Nat}
theorem R_draw (h : 1 ≤ v) (h2 : v < 2147483648) : f_X12_draw v σ = some (m_drawn (σ 758 43) v, u2 σ 758 43 (m_draw (σ 758 43))) := by
  unfold f_X12_draw
  rw [if_pos (by omega), u2_e]
  have := m_drawn_in (d := σ 758 43) h
  have e : z_w (z_l (Int.tmod (z_ushrL (m_draw (σ 758 43)) 33) v)) = m_drawn (σ 758 43) v := by
    show z_w (z_l (m_drawn (σ 758 43) v)) = _
    rw [zlid (by omega) (by omega), zid (by omega) (by omega)]
  rw [← e]
  rfl
theorem C_draw (h : 1 ≤ v) (h2 : v < 2147483648) : f_X11_draw v σ = some (m_drawn (σ 0 18) v, u2 σ 0 18 (m_draw (σ 0 18))) := by
  unfold f_X11_draw
  rw [if_pos h, if_pos (by omega), u2_e]
  have := m_drawn_in (d := σ 0 18) h
  have e : z_w (z_l (Int.tmod (z_ushrL (m_draw (σ 0 18)) 33) v)) = m_drawn (σ 0 18) v := by
    show z_w (z_l (m_drawn (σ 0 18) v)) = _
    rw [zlid (by omega) (by omega), zid (by omega) (by omega)]
  rw [← e]
  rfl
theorem m_try_L : (m_try K s what x y z who).2.1 ≤ s.2.1 + 1 := by
  unfold m_try
  by_cases d : m_stops (KL K s.2.1) s.1 what x y z who = -1
  · rw [if_pos d]
    exact Int.le_refl _
  · rw [if_neg d]
    omega
theorem C_try71 (hA : CA σ K s hi I LI) (hK : WK K) (hT : TS σ 755 what x y z who) (hx : -2147483648 ≤ x ∧ x < 2147483648) (hwh : 0 ≤ what ∧ what ≤ 6) (hn : what = 2 ∨ what = 3 → 0 < who ∧ who < 4611686018427387904 ∧ NB who) (hB : s.2.1 < 2147483646) :
    ∃ σ', f_X11_doOneYear_71 σ = some σ' ∧ CA σ' K (m_try K s what x y z who) hi I LI ∧ FM SJ σ σ' := by
  obtain ⟨hV, hD⟩ := hA
  obtain ⟨σ1, g1, g2, g3, g4⟩ := C_tried hV hD hK hT hx hwh hn (by omega) hB
  unfold f_X11_doOneYear_71 m_try
  rw [if_pos hV.1, g1, Option.bind_some]
  dsimp only
  by_cases d : m_stops (KL K s.2.1) s.1 what x y z who = -1
  · obtain ⟨σ2, k1, k2, k3, k4⟩ := g4 d
    refine ⟨σ2, ?_, ?_, k4⟩
    · rw [if_pos d, k1, Option.bind_some]
    · rw [if_pos d]
      exact ⟨k2, k3⟩
  · refine ⟨σ1, ?_, ?_, g2.mono (fun c j hc => by unfold SF at hc; unfold SJ; omega)⟩
    · rw [if_neg d]
    · rw [if_neg d]
      exact ⟨g3, hD⟩
theorem R_try (hA : RA σ K s hi) (hD : ID K s.1 s.2.2.1 s.2.2.2 hi I) (h75 : 0 ≤ s.1 75 ∧ s.1 75 ≤ 60) (hK : WK K) (hwho : σ 758 41 = who) (hx : -2147483648 ≤ x ∧ x < 2147483648) (hwh : 0 ≤ what ∧ what ≤ 6) (hn : what = 2 ∨ what = 3 → 0 < who ∧ who < 4611686018427387904 ∧ NB who) :
    ∃ σ', f_X12_tries what x y z σ = some (m_stops (KL K s.2.1) s.1 what x y z who, σ') ∧ RA σ' K (m_try K s what x y z who) hi ∧ FM SYR σ σ' := by
  obtain ⟨hV, hw⟩ := hA
  obtain ⟨σ', g1, g2, g3, g4⟩ := R_tried (L := s.2.1) (y := y) (z := z) hV (by rw [hw]; exact hD) (by rw [hw]; exact h75) hK hwho hx hwh hn
  rw [hw] at g1 g3 g4
  refine ⟨σ', g1, ?_, g2⟩
  unfold m_try
  by_cases d : m_stops (KL K s.2.1) s.1 what x y z who = -1
  · rw [if_pos d]
    exact ⟨(g4 d).1, (g4 d).2.1⟩
  · rw [if_neg d]
    exact ⟨(g3 d).1, (g3 d).2⟩
end S_YE
