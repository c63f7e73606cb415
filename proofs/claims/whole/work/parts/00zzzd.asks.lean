-- the questions, both sides, told or not
section S_GC
variable {σ σ' r K : Nat → Nat → Int} {H : Int → Nat → Int} {b b' v1 v2 v3 v4 L LI n hi what x y z : Int} {a N st : Nat} {stp : Nat → Nat → QS} {len : Nat → Nat}
theorem KN.kl (h : KN K) : KN (KL K L) := h
theorem U_isCluster (h : UV σ) {v : Int} : f_X12_isCluster v (u2 σ 758 0 0) = some 0 := by
  have e := U_ref21 h
  unfold f_X12_isCluster
  by_cases d : v < 0
  · rw [if_pos d]
  · rw [if_neg d, if_pos (by omega)]
theorem U_isTask (h : UV σ) {v : Int} : f_X12_isTask v (u2 σ 758 0 0) = some 0 := by
  have e : (u2 σ 758 0 0) 758 23 = 0 := by rw [u2_i (by omega)]; exact h.2.2.2.1
  unfold f_X12_isTask
  by_cases d : v < 0
  · rw [if_pos d]
  · rw [if_neg d, if_pos (by omega)]
theorem U_isCore (h : UV σ) {v : Int} : f_X12_isCore v (u2 σ 758 0 0) = some 0 := if_pos (by have := U_ref21 h; omega)
theorem U_hasCore (h : UV σ) {v : Int} : f_X1_hasCore (σ 0 2).toNat v σ = some 0 := by
  have := h.1.2.2
  unfold f_X1_hasCore
  by_cases d : v < 0
  · rw [if_pos d]
  · rw [if_neg d, if_pos (by omega)]
theorem U_hasAsk (h : UV σ) {v : Int} : f_X7_hasAsk 173 v σ = some 0 := by
  have := h.2.1.2.1
  unfold f_X7_hasAsk
  by_cases d : v < 0
  · rw [if_pos d]
  · rw [if_neg d, if_pos (by omega)]
theorem U_askNone (h : UV σ) {v : Int} : f_X12_isIn v 0 (z_w ((u2 σ 758 0 0) 776 44 - 1)) (u2 σ 758 0 0) = some 0 := by
  rw [u2_c (show (776 : Nat) ≠ 758 by omega), h.2.2.2.2.2.2.1, zid (x := 0 - 1) (by omega) (by omega)]
  exact R_isIn_n (by omega)
/-- a question that lays its work out -/
theorem G_lays {A : Option (Int × (Nat → Nat → Int))} {B : (Nat → Nat → Int) → Option (Int × (Nat → Nat → Int))} (h : GV σ b) (hu : UV σ → ∃ r : Int, A = some (r, σ) ∧ B σ = some (r, u2 σ 758 0 0)) (ht : ∀ K, PQ σ K → ∃ r σ1 σ2, A = some (r, σ1) ∧ B σ1 = some (r, σ2) ∧ FM SQ1 σ σ1 ∧ FM SQ2 σ1 σ2) : ∃ r σ1 σ2, A = some (r, σ1) ∧ B σ1 = some (r, σ2) ∧ GV σ2 b := by
  have h' := h
  obtain ⟨⟨N, stp, len, hB⟩, hU | ⟨K, L, LI, n, H, hi, hP, hK, hN, hL, hLI⟩⟩ := h
  · obtain ⟨r, h1, h2⟩ := hu hU
    exact G_still h' h1 h2
  · obtain ⟨r, σ1, σ2, g1, g2, g5, g6⟩ := ht _ (hP.q hK)
    have ha := hB.1.cell.2.2
    exact ⟨r, σ1, σ2, g1, g2, h'.keep2 g5 g6 (fun c j q => by unfold SQ1 at q; unfold SCR; omega) (fun c j q => by unfold SQ2 at q; unfold SCR; omega)⟩
/-- a question that only looks -/
theorem G_looks {A : Option Int} {B : (Nat → Nat → Int) → Option (Int × (Nat → Nat → Int))} (h : GV σ b) (hu : UV σ → ∃ r : Int, A = some r ∧ B σ = some (r, u2 σ 758 0 0)) (ht : ∀ K, PQ σ K → KN K → ∃ r, A = some r ∧ B σ = some (r, u2 σ 758 0 0)) : ∃ r σ2, A = some r ∧ B σ = some (r, σ2) ∧ GV σ2 b := by
  refine G_asks h ?_
  obtain ⟨⟨N, stp, len, hB⟩, hU | ⟨K, L, LI, n, H, hi, hP, hK, hN, hL, hLI⟩⟩ := h
  · exact hu hU
  · exact ht _ (hP.q hK) hN.kl
theorem G_price (h : GV σ b) : ∃ r σ1 σ2, f_X11_price σ = some (r, σ1) ∧ f_X12_price σ1 = some (r, σ2) ∧ GV σ2 b :=
  G_lays h (fun hU => ⟨-1, by unfold f_X11_price; rw [if_pos h.1.choose_spec.choose_spec.choose_spec.1.cell.1, U_isTold hU, Option.bind_some, if_pos rfl], by unfold f_X12_price; rw [if_pos (U_ref21 hU)]⟩) (fun K hq => Q_price hq)
theorem G_best (h : GV σ b) : ∃ r σ1 σ2, f_X11_best v1 v2 σ = some (r, σ1) ∧ f_X12_best v1 v2 σ1 = some (r, σ2) ∧ GV σ2 b :=
  G_lays h (fun hU => ⟨-1, by unfold f_X11_best; rw [if_pos h.1.choose_spec.choose_spec.choose_spec.1.cell.1, U_isTold hU, Option.bind_some, if_pos rfl], by unfold f_X12_best; rw [if_pos (U_ref21 hU)]⟩) (fun K hq => Q_best hq)
theorem G_greedy (h : GV σ b) : ∃ r σ1 σ2, f_X11_greedy v1 v2 σ = some (r, σ1) ∧ f_X12_greedy v1 v2 σ1 = some (r, σ2) ∧ GV σ2 b :=
  G_lays h (fun hU => ⟨-1, by unfold f_X11_greedy; rw [if_pos h.1.choose_spec.choose_spec.choose_spec.1.cell.1, U_isTold hU, Option.bind_some, if_pos rfl], by unfold f_X12_greedy; rw [if_pos (U_ref21 hU)]⟩) (fun K hq => Q_greedy hq)
theorem G_moves (h : GV σ b) : ∃ r σ1 σ2, f_X11_moves σ = some (r, σ1) ∧ f_X12_moves σ1 = some (r, σ2) ∧ GV σ2 b :=
  G_lays h (fun hU => ⟨-1, by unfold f_X11_moves; rw [if_pos h.1.choose_spec.choose_spec.choose_spec.1.cell.1, U_isTold hU, Option.bind_some, if_pos rfl], by unfold f_X12_moves; rw [if_pos (U_ref21 hU)]⟩) (fun K hq => Q_moves hq)
theorem G_odds (h : GV σ b) : ∃ r σ1 σ2, f_X11_odds v1 σ = some (r, σ1) ∧ f_X12_odds v1 σ1 = some (r, σ2) ∧ GV σ2 b :=
  G_lays h (fun hU => ⟨-1, by unfold f_X11_odds; rw [if_pos h.1.choose_spec.choose_spec.choose_spec.1.cell.1, U_isTold hU, Option.bind_some, if_pos rfl], by unfold f_X12_odds; rw [if_pos (U_ref21 hU)]⟩) (fun K hq => Q_odds hq)
theorem G_ahead (h : GV σ b) : ∃ r σ1 σ2, f_X11_ahead v1 v2 σ = some (r, σ1) ∧ f_X12_ahead v1 v2 σ1 = some (r, σ2) ∧ GV σ2 b :=
  G_lays h (fun hU => ⟨-1, by unfold f_X11_ahead f_X11_ahead_25; rw [if_pos h.1.choose_spec.choose_spec.choose_spec.1.cell.1, U_isTold hU, Option.bind_some, if_pos rfl], by unfold f_X12_ahead; rw [if_pos (U_ref21 hU)]⟩) (fun K hq => Q_ahead hq)
theorem G_bound (h : GV σ b) : ∃ r σ1 σ2, f_X11_bound v1 v2 σ = some (r, σ1) ∧ f_X12_bound v1 v2 σ1 = some (r, σ2) ∧ GV σ2 b := by
  have h' := h
  obtain ⟨⟨N, stp, len, hB⟩, hU | ⟨K, L, LI, n, H, hi, hP, hK, hN, hL, hLI⟩⟩ := h
  · refine G_still (r := -1) h' ?_ ?_
    · unfold f_X11_bound
      rw [if_pos hB.1.cell.1, U_hasCluster hU, Option.bind_some, if_pos rfl]
    · unfold f_X12_bound
      rw [U_isCluster hU, Option.bind_some, if_pos rfl]
  · obtain ⟨r, σ1, σ2, g1, g2, g5, g6, g7, g8⟩ := Q_bound (v1 := v1) (v2 := v2) (hP.q hK)
    have ha := hB.1.cell.2.2
    have lo : ∀ c j, ¬ SQ1 c j → ¬ SQ3 c j → σ2 c j = σ c j := fun c j q1 q2 => (g6 c j q2).trans (g5 c j q1)
    have hP2 : PV σ2 K L LI n H hi := hP.frame2 hK (lo 0 2 (by unfold SQ1; omega) (by unfold SQ3 SQ2; omega)) (lo 0 9 (by unfold SQ1; omega) (by unfold SQ3 SQ2; omega)) (fun c _ _ => funext fun j => lo c j (by unfold SQ1; omega) (by unfold SQ3 SQ2; omega)) (fun c _ _ _ => funext fun j => lo c j (by unfold SQ1; omega) (by unfold SQ3 SQ2; omega)) (funext fun j => lo 757 j (by unfold SQ1; omega) (by unfold SQ3 SQ2; omega)) (fun c hc => funext fun j => lo c j (by unfold SQ1; omega) (by unfold SQ3 SQ2; omega)) (fun j hj => lo 758 j (by unfold SQ1; omega) (by unfold SQ3 SQ2; omega)) g7 g8
    exact ⟨r, σ1, σ2, g1, g2, hB.told2 hP2 hK hN hL hLI ((g5.mono (fun c j q => by unfold SQ1 at q; unfold SCB; omega)).trans (g6.mono (fun c j q => by unfold SQ3 SQ2 at q; unfold SCB; omega)))⟩
theorem G_rule (h : GV σ b) : ∃ r σ2, f_X11_rule v1 σ = some r ∧ f_X12_rule v1 σ = some (r, σ2) ∧ GV σ2 b :=
  G_looks h (fun hU => ⟨-1, by unfold f_X11_rule; rw [if_pos h.1.choose_spec.choose_spec.choose_spec.1.cell.1, U_isTold hU, Option.bind_some, if_pos rfl], by unfold f_X12_rule; rw [if_pos (U_ref21 hU)]⟩) (fun K hq _ => Q_rule hq)
theorem G_all (h : GV σ b) : ∃ r σ2, f_X11_all v1 σ = some r ∧ f_X12_all v1 σ = some (r, σ2) ∧ GV σ2 b :=
  G_looks h (fun hU => ⟨-1000000, by unfold f_X11_all; rw [if_pos h.1.choose_spec.choose_spec.choose_spec.1.cell.1, U_isTold hU, Option.bind_some, if_pos rfl], by unfold f_X12_all; rw [if_pos (U_ref21 hU)]⟩) (fun K hq _ => Q_all hq)
theorem G_point (h : GV σ b) : ∃ r σ2, f_X11_point v1 v2 v3 σ = some r ∧ f_X12_point v1 v2 v3 σ = some (r, σ2) ∧ GV σ2 b :=
  G_looks h (fun hU => ⟨-1, by unfold f_X11_point; simp only [f_X1_hasPoint_e]; rw [if_pos h.1.choose_spec.choose_spec.choose_spec.1.cell.1, U_hasCluster hU, Option.bind_some, if_pos rfl, Option.bind_some, if_pos rfl], by unfold f_X12_point; rw [U_isCluster hU, Option.bind_some, if_pos rfl]⟩) (fun K hq _ => Q_point hq)
theorem G_core (h : GV σ b) : ∃ r σ2, f_X11_core v1 v2 σ = some r ∧ f_X12_core v1 v2 σ = some (r, σ2) ∧ GV σ2 b :=
  G_looks h (fun hU => ⟨-1000000, by unfold f_X11_core; rw [if_pos h.1.choose_spec.choose_spec.choose_spec.1.cell.1, U_hasCore hU, Option.bind_some, if_pos rfl], by unfold f_X12_core; rw [U_isCore hU, Option.bind_some, if_pos rfl]⟩) (fun K hq _ => Q_core hq)
theorem G_task (h : GV σ b) : ∃ r σ2, f_X11_task v1 v2 σ = some r ∧ f_X12_task v1 v2 σ = some (r, σ2) ∧ GV σ2 b :=
  G_looks h (fun hU => ⟨-1, by unfold f_X11_task; rw [if_pos h.1.choose_spec.choose_spec.choose_spec.1.cell.1, U_hasTask hU, Option.bind_some, if_pos rfl], by unfold f_X12_task; rw [U_isTask hU, Option.bind_some, if_pos rfl]⟩) (fun K hq _ => Q_task hq)
theorem G_asked (h : GV σ b) : ∃ r σ2, f_X11_asked v1 v2 σ = some r ∧ f_X12_asked v1 v2 σ = some (r, σ2) ∧ GV σ2 b :=
  G_looks h (fun hU => ⟨-1, by unfold f_X11_asked; rw [U_hasAsk hU, Option.bind_some, if_pos rfl], by unfold f_X12_asked; rw [U_askNone hU, Option.bind_some, if_pos rfl]⟩) (fun K hq _ => Q_asked hq)
theorem G_race (h : GV σ b) : ∃ r σ2, f_X11_race v1 v2 v3 v4 σ = some r ∧ f_X12_race v1 v2 v3 v4 σ = some (r, σ2) ∧ GV σ2 b :=
  G_looks h (fun hU => ⟨-1000000, by unfold f_X11_race f_X11_race_28; rw [if_pos h.1.choose_spec.choose_spec.choose_spec.1.cell.1, U_hasCluster hU, Option.bind_some, if_pos rfl], by unfold f_X12_race; rw [U_isCluster hU, Option.bind_some, if_pos rfl]⟩) (fun K hq _ => Q_race hq)
theorem G_name (h : GV σ b) : ∃ r σ2, f_X11_name v1 v2 v3 σ = some r ∧ f_X12_name v1 v2 v3 σ = some (r, σ2) ∧ GV σ2 b := by
  have hc := h.1.choose_spec.choose_spec.choose_spec.1.cell.1
  refine G_looks h (fun hU => ⟨-1, ?_, ?_⟩) (fun K hq hN => Q_name hq hN)
  · have h59 : f_X11_name_59 v1 v2 v3 σ = some (-1) := by
      unfold f_X11_name_59
      by_cases d2 : v1 = 2
      · rw [if_pos d2, U_hasAsk hU, Option.bind_some, if_pos rfl]
      · rw [if_neg d2]
    have h29 : f_X11_name_29 v1 v2 v3 σ = some (-1) := by
      unfold f_X11_name_29
      by_cases d1 : v1 = 1
      · rw [if_pos d1, if_pos hc, U_hasTask hU, Option.bind_some, if_pos rfl, h59]
      · rw [if_neg d1, h59]
    unfold f_X11_name
    by_cases d0 : v1 = 0
    · rw [if_pos d0, if_pos hc, U_hasCluster hU, Option.bind_some, if_pos rfl, h29]
    · rw [if_neg d0, h29]
  · unfold f_X12_name
    by_cases d0 : v1 = 0
    · rw [if_pos d0, U_isCluster hU, Option.bind_some, if_pos rfl]
    rw [if_neg d0]
    by_cases d1 : v1 = 1
    · rw [if_pos d1, U_isTask hU, Option.bind_some, if_pos rfl]
    rw [if_neg d1]
    by_cases d2 : v1 = 2
    · rw [if_pos d2, U_askNone hU, Option.bind_some, if_pos rfl]
    · rw [if_neg d2]
theorem G_step (h : GV σ b) : ∃ r σ2, f_X11_step v1 v2 v3 σ = some r ∧ f_X12_step v1 v2 v3 σ = some (r, σ2) ∧ GV σ2 b := by
  have h' := h
  obtain ⟨⟨N, stp, len, hB⟩, _⟩ := h
  exact G_asks h' (Q_step hB.2.2.1)
theorem G_count (h : GV σ b) : ∃ r σ2, f_X11_count v1 σ = some r ∧ f_X12_count v1 σ = some (r, σ2) ∧ GV σ2 b := by
  refine G_asks h ?_
  obtain ⟨⟨N, stp, len, hB⟩, hU | ⟨K, L, LI, n, H, hi, hP, hK, hN, hL, hLI⟩⟩ := h
  · obtain ⟨⟨u1, u2, u3⟩, ⟨u4, u5, u6, u7⟩, u8, u9, u10, u11, u12, u13⟩ := hU
    exact Q_count hB.1.cell.1 (by omega) (by rw [hB.2.2.1.1, hB.2.2.1.2.1]) hB.2.1.1 (by omega) (by omega) (by omega) (by omega)
  · obtain ⟨⟨c0, c1, i0, i1, i2, i3, i4⟩, ⟨r0, r1, r2, r3, r4⟩, hD, hc⟩ := hP
    have e3 : σ 173 3 = L := i0.1.2.2.2.2
    have e4 : σ 173 4 = σ 776 44 + (if (-1 : Int) = -1 then 0 else 1) := i0.1.2.2.2.1
    rw [if_pos rfl] at e4
    exact Q_count c0 (by rw [c1.1.1, r0.1.1]) (by rw [hB.2.2.1.1, hB.2.2.1.2.1]) hB.2.1.1 (by rw [e3, i1.2.1]) (by rw [i2.1, r1.1]) (by rw [c1.1.2.1, r0.1.2.1]) (by omega)
/-- the cluster's own answer: none where the class throws -/
theorem G_cluster (h : GV σ b) : ∃ σ2, ((f_cl v1 v2 σ = some none ∧ f_X12_cluster v1 v2 σ = some (0, σ2) ∧ σ2 758 0 = 1) ∨ ∃ r, f_cl v1 v2 σ = some (some r) ∧ f_X12_cluster v1 v2 σ = some (r, σ2) ∧ σ2 758 0 = 0) ∧ GV σ2 b := by
  have h' := h
  have m1 : GV (u2 (u2 σ 758 0 0) 758 0 1) b := h.keep ((FM.refl.u (by unfold SCR; omega)).u (by unfold SCR; omega))
  have m2 : GV (u2 σ 758 0 0) b := h.keep (FM.refl.u (by unfold SCR; omega))
  obtain ⟨⟨N, stp, len, hB⟩, hU | ⟨K, L, LI, n, H, hi, hP, hK, hN, hL, hLI⟩⟩ := h
  · refine ⟨_, Or.inl ⟨?_, ?_, u2_e⟩, m1⟩
    · unfold f_cl
      rw [if_pos hB.1.cell.1, U_hasCluster hU, Option.bind_some, if_pos rfl]
    · unfold f_X12_cluster
      rw [U_isCluster hU, Option.bind_some, if_pos rfl]
  · rcases Q_cluster (v1 := v1) (v2 := v2) (hP.q hK) with ⟨g1, g2⟩ | ⟨r, g1, g2⟩
    · exact ⟨_, Or.inl ⟨g1, g2, u2_e⟩, m1⟩
    · exact ⟨_, Or.inr ⟨r, g1, g2, u2_e⟩, m2⟩
end S_GC
