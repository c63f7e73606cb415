-- the five acts that read no text; undo, the image, the log, both sides
section S_EZ
variable {σ K : Nat → Nat → Int} {H : Int → Nat → Int} {L LI n hi v1 v2 : Int}
def SU : Nat → Nat → Prop := fun c j => SJ2 c j ∨ c = 755 ∨ c = 756
theorem PV.frame {σ' : Nat → Nat → Int} (h : PV σ K L LI n H hi) (hK : WK K) (h1 : σ' 0 2 = σ 0 2) (h2 : σ' 0 9 = σ 0 9) (h3 : ∀ c, 4 ≤ c → c < 42 → σ' c = σ c) (h4 : ∀ c, 173 ≤ c → c < 742 → σ' c = σ c) (h5 : σ' 757 = σ 757) (h6 : ∀ c, 760 ≤ c → c < 784 → σ' c = σ c) (h7 : ∀ j, 21 ≤ j → j < 40 → σ' 758 j = σ 758 j) : PV σ' K L LI n H hi := by
  obtain ⟨p0, p1, p2, p3⟩ := h
  unfold PV
  rw [h6 776 (by omega) (by omega), h6 778 (by omega) (by omega), h5, h6 768 (by omega) (by omega)]
  exact ⟨p0.frame hK h1 h2 h3 h4, p1.frame h6 h7, p2, p3⟩
/-- a step put, then done or refused: the class's way to do an act told by numbers -/
theorem P_put {what x y z : Int} (h : PV σ K L LI n H hi) (hK : WK K) (hx : -2147483648 ≤ x ∧ x < 2147483648) (hwh : 0 ≤ what ∧ what ≤ 6) (hn : ¬ (what = 2 ∨ what = 3)) (hB : L < 2147483646) :
    ∃ r σ1 σ2 L' n' H', ((f_X8_put 755 what x y z 0 σ).bind fun q1 => (f_X11_doOrRefuse 755 q1).bind fun q4 => some (q4.1, q4.2)) = some (r, σ1) ∧ f_X12_act what x y z σ1 = some (r, σ2) ∧ PV σ2 K L' LI n' H' hi ∧ L' ≤ L + 1 ∧ FM SU σ σ1 ∧ FM SYA σ1 σ2 := by
  have hm : FM (fun c _ => c = 755 ∨ c = 756) σ (u2 (u2 (u2 (u2 (u2 σ 755 1 what) 756 0 x) 756 1 y) 756 2 z) 755 2 0) := ((((FM.refl.u (by omega)).u (by omega)).u (by omega)).u (by omega)).u (by omega)
  have gc : ∀ c, ¬ (c = 755 ∨ c = 756) → (u2 (u2 (u2 (u2 (u2 σ 755 1 what) 756 0 x) 756 1 y) 756 2 z) 755 2 0) c = σ c := fun c hc => funext fun j => hm c j hc
  have h1 := h.frame hK (by rw [gc 0 (by omega)]) (by rw [gc 0 (by omega)]) (fun c _ _ => gc c (by omega)) (fun c _ _ => gc c (by omega)) (gc 757 (by omega)) (fun c _ _ => gc c (by omega)) (fun j _ _ => by rw [gc 758 (by omega)])
  have hT : TS (u2 (u2 (u2 (u2 (u2 σ 755 1 what) 756 0 x) 756 1 y) 756 2 z) 755 2 0) 755 what x y z (σ 758 41) := by
    refine ⟨?_, fun _ => ?_, fun _ => ?_, fun _ => ?_, fun q => absurd q hn⟩
    · simp (disch := first | assumption | omega) only [if_true, if_false, zid, zlid, if_pos, if_neg, u2_e, u2_c, u2_i, u1_e, u1_i, Option.bind_some]
    · simp (disch := first | assumption | omega) only [if_true, if_false, zid, zlid, if_pos, if_neg, u2_e, u2_c, u2_i, u1_e, u1_i, Option.bind_some]
    · simp (disch := first | assumption | omega) only [if_true, if_false, zid, zlid, if_pos, if_neg, u2_e, u2_c, u2_i, u1_e, u1_i, Option.bind_some]
    · simp (disch := first | assumption | omega) only [if_true, if_false, zid, zlid, if_pos, if_neg, u2_e, u2_c, u2_i, u1_e, u1_i, Option.bind_some]
  obtain ⟨r, σ1, σ2, L', n', H', g1, g2, g3, g4, g5, g6⟩ := P_act h1 hK hT (by rw [gc 758 (by omega)]) hx hwh (fun q => absurd q hn) (by omega) hB
  refine ⟨r, σ1, σ2, L', n', H', ?_, g2, g3, g4, (hm.mono (fun c j hc => Or.inr hc)).trans (g5.mono (fun c j hc => Or.inl hc)), g6⟩
  show ((f_X11_doOrRefuse 755 _).bind fun q4 => some (q4.1, q4.2)) = _
  rw [g1, Option.bind_some]
theorem P_tick (h : PV σ K L LI n H hi) (hK : WK K) (hx : -2147483648 ≤ v1 ∧ v1 < 2147483648) (hB : L < 2147483646) : ∃ r σ1 σ2 L' n' H', f_X11_tick v1 σ = some (r, σ1) ∧ f_X12_tick v1 σ1 = some (r, σ2) ∧ PV σ2 K L' LI n' H' hi ∧ L' ≤ L + 1 ∧ FM SU σ σ1 ∧ FM SYA σ1 σ2 := by
  obtain ⟨r, σ1, σ2, L', n', H', g1, g2, g3⟩ := P_put (what := 0) (x := v1) (y := 0) (z := 0) h hK hx (by omega) (by omega) hB
  exact ⟨r, σ1, σ2, L', n', H', g1, by unfold f_X12_tick; rw [g2, Option.bind_some], g3⟩
theorem P_move (h : PV σ K L LI n H hi) (hK : WK K) (hx : -2147483648 ≤ v1 ∧ v1 < 2147483648) (hB : L < 2147483646) : ∃ r σ1 σ2 L' n' H', f_X11_move v1 v2 σ = some (r, σ1) ∧ f_X12_move v1 v2 σ1 = some (r, σ2) ∧ PV σ2 K L' LI n' H' hi ∧ L' ≤ L + 1 ∧ FM SU σ σ1 ∧ FM SYA σ1 σ2 := by
  obtain ⟨r, σ1, σ2, L', n', H', g1, g2, g3⟩ := P_put (what := 1) (x := v1) (y := v2) (z := 0) h hK hx (by omega) (by omega) hB
  exact ⟨r, σ1, σ2, L', n', H', g1, by unfold f_X12_move; rw [g2, Option.bind_some], g3⟩
theorem P_stop (h : PV σ K L LI n H hi) (hK : WK K) (hx : -2147483648 ≤ v1 ∧ v1 < 2147483648) (hB : L < 2147483646) : ∃ r σ1 σ2 L' n' H', f_X11_stop v1 σ = some (r, σ1) ∧ f_X12_stop v1 σ1 = some (r, σ2) ∧ PV σ2 K L' LI n' H' hi ∧ L' ≤ L + 1 ∧ FM SU σ σ1 ∧ FM SYA σ1 σ2 := by
  obtain ⟨r, σ1, σ2, L', n', H', g1, g2, g3⟩ := P_put (what := 4) (x := v1) (y := 0) (z := 0) h hK hx (by omega) (by omega) hB
  exact ⟨r, σ1, σ2, L', n', H', g1, by unfold f_X12_stop; rw [g2, Option.bind_some], g3⟩
theorem P_start (h : PV σ K L LI n H hi) (hK : WK K) (hx : -2147483648 ≤ v1 ∧ v1 < 2147483648) (hB : L < 2147483646) : ∃ r σ1 σ2 L' n' H', f_X11_start v1 σ = some (r, σ1) ∧ f_X12_start v1 σ1 = some (r, σ2) ∧ PV σ2 K L' LI n' H' hi ∧ L' ≤ L + 1 ∧ FM SU σ σ1 ∧ FM SYA σ1 σ2 := by
  obtain ⟨r, σ1, σ2, L', n', H', g1, g2, g3⟩ := P_put (what := 5) (x := v1) (y := 0) (z := 0) h hK hx (by omega) (by omega) hB
  exact ⟨r, σ1, σ2, L', n', H', g1, by unfold f_X12_start; rw [g2, Option.bind_some], g3⟩
theorem P_settle (h : PV σ K L LI n H hi) (hK : WK K) (hB : L < 2147483646) : ∃ r σ1 σ2 L' n' H', f_X11_settle σ = some (r, σ1) ∧ f_X12_settle σ1 = some (r, σ2) ∧ PV σ2 K L' LI n' H' hi ∧ L' ≤ L + 1 ∧ FM SU σ σ1 ∧ FM SYA σ1 σ2 := by
  obtain ⟨r, σ1, σ2, L', n', H', g1, g2, g3⟩ := P_put (what := 6) (x := 0) (y := 0) (z := 0) h hK (by omega) (by omega) (by omega) hB
  exact ⟨r, σ1, σ2, L', n', H', g1, by unfold f_X12_settle; rw [g2, Option.bind_some], g3⟩
theorem P_status (h : PV σ K L LI n H hi) : ∃ r, f_X11_status v1 σ = some r ∧ f_X12_status v1 σ = some (r, u2 σ 758 0 0) := by
  unfold f_X11_status f_X12_status
  have hc := h.2.2.2
  by_cases d : 0 ≤ v1 ∧ v1 < 4
  · refine ⟨σ 768 v1.toNat, ?_, ?_⟩
    · rw [if_neg (by omega), if_neg (by omega), if_pos d, hc _ (by omega)]
    · rw [R_isIn_y (by omega) (by omega), Option.bind_some, if_neg (show ¬ (1 : Int) = 0 by omega), if_pos d, u2_c (by omega)]
  · refine ⟨-1, ?_, ?_⟩
    · by_cases d2 : v1 < 0
      · rw [if_pos d2]
      · rw [if_neg d2, if_pos (by omega)]
    · rw [R_isIn_n (by omega), Option.bind_some, if_pos rfl]
end S_EZ
