-- one year, both sides
def m_year (K : Nat → Nat → Int) (who : Int) (s : AS) (d : Int) : AS × Int :=
  if 4 ≤ m_drawn d 8 then
    (if m_drawn d 8 = 7 then (m_try K s 6 0 0 0 who, m_draw d)
    else if K 0 1 ≤ 0 then (s, m_draw d)
    else if 6 ≤ m_drawn d 8 then (m_try K s (if s.1 (37 + m_drawn (m_draw d) (K 0 1)).toNat = 1 then 5 else 4) (m_drawn (m_draw d) (K 0 1)) 0 0 who, m_draw (m_draw d))
    else (m_try K s 1 (m_drawn (m_draw d) (K 0 1)) (m_drawn (m_draw (m_draw d)) (K 0 2)) 0 who, m_draw (m_draw (m_draw d))))
  else (m_try K s 0 (m_drawn (m_draw d) 5 + 1) 0 0 who, m_draw (m_draw d))
section S_YR
variable {σ K : Nat → Nat → Int} {s : AS} {I : Nat → Int} {LI hi v what x y z who d : Int} {st : Nat}
theorem CA.frame {σ' : Nat → Nat → Int} (h : CA σ K s hi I LI) (hK : WK K) (h1 : σ' 0 2 = σ 0 2) (h2 : σ' 0 9 = σ 0 9) (h3 : ∀ c, 4 ≤ c → c < 42 → σ' c = σ c) (h4 : ∀ c, 173 ≤ c → c < 742 → σ' c = σ c) : CA σ' K s hi I LI := ⟨h.1.frame hK h1 h2 h3 h4, h.2⟩
theorem RA.frame {σ' : Nat → Nat → Int} (h : RA σ K s hi) (h1 : ∀ c, 760 ≤ c → c < 784 → σ' c = σ c) (h2 : ∀ j, 21 ≤ j → j < 40 → σ' 758 j = σ 758 j) : RA σ' K s hi := ⟨h.1.frame h1 h2, (h1 776 (by omega) (by omega)).trans h.2⟩
def SYC : Nat → Nat → Prop := fun c j => SJ c j ∨ c = 755 ∨ c = 756 ∨ (c = 0 ∧ j = 18)
def SYD : Nat → Nat → Prop := fun c j => SYR c j ∨ (c = 758 ∧ j = 43)
set_option maxHeartbeats 4000000 in
theorem C_put71 {q : Nat → Nat → Int} (hA : CA q K s hi I LI) (hK : WK K) (hx : -2147483648 ≤ x ∧ x < 2147483648) (hwh : 0 ≤ what ∧ what ≤ 6) (hn : ¬ (what = 2 ∨ what = 3)) (hB : s.2.1 < 2147483646) :
    ∃ σ', (f_X8_put 755 what x y z 0 q).bind (fun q1 => f_X11_doOneYear_71 q1) = some σ' ∧ CA σ' K (m_try K s what x y z who) hi I LI ∧ FM (fun c j => SJ c j ∨ c = 755 ∨ c = 756) q σ' := by
  have hm : FM (fun c _ => c = 755 ∨ c = 756) q (u2 (u2 (u2 (u2 (u2 q 755 1 what) 756 0 x) 756 1 y) 756 2 z) 755 2 0) := ((((FM.refl.u (by omega)).u (by omega)).u (by omega)).u (by omega)).u (by omega)
  have gc : ∀ c, ¬ (c = 755 ∨ c = 756) → (u2 (u2 (u2 (u2 (u2 q 755 1 what) 756 0 x) 756 1 y) 756 2 z) 755 2 0) c = q c := fun c hc => funext fun j => hm c j hc
  have h1 := hA.frame hK (by rw [gc 0 (by omega)]) (by rw [gc 0 (by omega)]) (fun c _ _ => gc c (by omega)) (fun c _ _ => gc c (by omega))
  have hT : TS (u2 (u2 (u2 (u2 (u2 q 755 1 what) 756 0 x) 756 1 y) 756 2 z) 755 2 0) 755 what x y z who := by
    refine ⟨?_, fun _ => ?_, fun _ => ?_, fun _ => ?_, fun q => absurd q hn⟩
    · simp (disch := first | assumption | omega) only [if_true, if_false, zid, zlid, if_pos, if_neg, u2_e, u2_c, u2_i, u1_e, u1_i, Option.bind_some]
    · simp (disch := first | assumption | omega) only [if_true, if_false, zid, zlid, if_pos, if_neg, u2_e, u2_c, u2_i, u1_e, u1_i, Option.bind_some]
    · simp (disch := first | assumption | omega) only [if_true, if_false, zid, zlid, if_pos, if_neg, u2_e, u2_c, u2_i, u1_e, u1_i, Option.bind_some]
    · simp (disch := first | assumption | omega) only [if_true, if_false, zid, zlid, if_pos, if_neg, u2_e, u2_c, u2_i, u1_e, u1_i, Option.bind_some]
  obtain ⟨σ', g1, g2, g3⟩ := C_try71 h1 hK hT hx hwh (fun q => absurd q hn) hB
  exact ⟨σ', g1, g2, (hm.mono (fun c j hc => Or.inr hc)).trans (g3.mono (fun c j hc => Or.inl hc))⟩
set_option maxHeartbeats 4000000 in
theorem C_year (hA : CA σ K s hi I LI) (hK : WK K) (hd : σ 0 18 = d) (hB : s.2.1 < 2147483646) :
    ∃ σ', f_X11_doOneYear σ = some σ' ∧ CA σ' K (m_year K who s d).1 hi I LI ∧ σ' 0 18 = (m_year K who s d).2 ∧ FM SYC σ σ' := by
  have hkn := hK.n
  have hq := m_drawn_in (d := d) (v := 8) (by omega)
  have fu : ∀ (q : Nat → Nat → Int) (e : Int), CA q K s hi I LI → CA (u2 q 0 18 e) K s hi I LI := fun q e h => h.frame hK (u2_i (by omega)) (u2_i (by omega)) (fun c _ _ => u2_ne (by omega)) (fun c _ _ => u2_ne (by omega))
  have mu : ∀ {q q' : Nat → Nat → Int}, FM (fun c j => SJ c j ∨ c = 755 ∨ c = 756) q q' → q' 0 18 = q 0 18 := fun h => h 0 18 (by unfold SJ; omega)
  have mm : ∀ {q q' : Nat → Nat → Int}, FM (fun c j => SJ c j ∨ c = 755 ∨ c = 756) q q' → FM SYC q q' := fun h => h.mono (fun c j hc => hc.elim Or.inl (fun b => Or.inr (b.elim Or.inl (fun b => Or.inr (Or.inl b)))))
  have u18 : ∀ {q q' : Nat → Nat → Int} {e : Int}, FM SYC q q' → FM SYC q (u2 q' 0 18 e) := fun h => h.u (by unfold SYC; omega)
  have hA1 := fu σ (m_draw d) hA
  unfold f_X11_doOneYear m_year
  rw [C_draw (by omega) (by omega), Option.bind_some, hd]
  dsimp only
  generalize m_drawn d 8 = q8 at hq ⊢
  by_cases c1 : 4 ≤ q8
  · rw [if_pos (show 3 < q8 by omega), if_pos c1]
    by_cases c2 : q8 = 7
    · rw [if_pos c2, if_pos c2]
      obtain ⟨σ', g1, g2, g3⟩ := C_put71 (who := who) (what := 6) (x := 0) (y := 0) (z := 0) hA1 hK (by omega) (by omega) (by omega) hB
      exact ⟨σ', g1, g2, (mu g3).trans u2_e, (u18 FM.refl).trans (mm g3)⟩
    · have n1 := hA1.1.2.1.n1
      rw [if_neg c2, if_neg c2, if_pos hA1.1.1]
      by_cases c3 : K 0 1 ≤ 0
      · rw [if_pos (n1.trans (show K 0 1 = 0 by omega)), if_pos c3]
        exact ⟨_, rfl, hA1, u2_e, u18 FM.refl⟩
      · rw [if_neg (fun q => c3 (by have := n1.symm.trans q; omega)), if_neg c3]
        have ht := m_drawn_in (d := m_draw d) (v := K 0 1) (by omega)
        have hA2 := fu _ (m_draw (m_draw d)) hA1
        unfold f_X11_drawTaskAct f_X11_drawTaskAct_38
        rw [if_pos hA1.1.1, n1, C_draw (by omega) (by omega), Option.bind_some, u2_e]
        dsimp only
        generalize m_drawn (m_draw d) (K 0 1) = t at ht ⊢
        by_cases c4 : 6 ≤ q8
        · have c5 : q8 = 6 := by omega
          have hR2 := hA2.1.2.2.1
          have hK' := hK.kl (L := s.2.1)
          have hS' : WS (KL K s.2.1) s.1 := WS.kl.mpr hA.2.1
          have e0 : KL K s.2.1 0 = K 0 := KL_n (by omega)
          rw [if_pos c4, if_pos c5, C_isStopped hR2 hK' hS' ht.1 (by rw [e0]; exact ht.2), Option.bind_some]
          have hh : s.1 (37 + t).toNat = 0 ∨ s.1 (37 + t).toNat = 1 := by
            have := hA.2.1.t ht.1 ht.2
            omega
          have ew : (if s.1 (37 + t).toNat = 0 then (4 : Int) else 5) = if s.1 (37 + t).toNat = 1 then 5 else 4 := by
            rcases hh with q | q
            · rw [q, if_pos rfl, if_neg (by omega)]
            · rw [q, if_neg (by omega), if_pos rfl]
          rw [ew]
          have hw5 : (if s.1 (37 + t).toNat = 1 then (5 : Int) else 4) = 5 ∨ (if s.1 (37 + t).toNat = 1 then (5 : Int) else 4) = 4 := by
            by_cases e : s.1 (37 + t).toNat = 1
            · exact Or.inl (if_pos e)
            · exact Or.inr (if_neg e)
          generalize (if s.1 (37 + t).toNat = 1 then (5 : Int) else 4) = what at hw5 ⊢
          obtain ⟨σ', g1, g2, g3⟩ := C_put71 (who := who) (what := what) (x := t) (y := 0) (z := 0) hA2 hK (by omega) (by omega) (by omega) hB
          exact ⟨σ', g1, g2, (mu g3).trans u2_e, (u18 (u18 FM.refl)).trans (mm g3)⟩
        · rw [if_neg c4, if_neg (by omega), if_pos hA2.1.1, hA2.1.2.1.n2, C_draw (by omega) (by omega), Option.bind_some, u2_e]
          dsimp only
          have hv := m_drawn_in (d := m_draw (m_draw d)) (v := K 0 2) (by omega)
          have hA3 := fu _ (m_draw (m_draw (m_draw d))) hA2
          obtain ⟨σ', g1, g2, g3⟩ := C_put71 (who := who) (what := 1) (x := t) (y := m_drawn (m_draw (m_draw d)) (K 0 2)) (z := 0) hA3 hK (by omega) (by omega) (by omega) hB
          exact ⟨σ', g1, g2, (mu g3).trans u2_e, (u18 (u18 (u18 FM.refl))).trans (mm g3)⟩
  · rw [if_neg (show ¬ 3 < q8 by omega), if_neg c1, C_draw (by omega) (by omega), Option.bind_some, u2_e]
    dsimp only
    have hv := m_drawn_in (d := m_draw d) (v := 5) (by omega)
    have hA2 := fu _ (m_draw (m_draw d)) hA1
    rw [zid (by omega) (by omega)]
    obtain ⟨σ', g1, g2, g3⟩ := C_put71 (who := who) (what := 0) (x := m_drawn (m_draw d) 5 + 1) (y := 0) (z := 0) hA2 hK (by omega) (by omega) (by omega) hB
    exact ⟨σ', g1, g2, (mu g3).trans u2_e, (u18 (u18 FM.refl)).trans (mm g3)⟩
end S_YR
