-- the log shown, both sides
section S_LO
variable {σ K : Nat → Nat → Int} {H : Int → Nat → Int} {L LI n hi v1 v2 : Int}
set_option maxHeartbeats 4000000 in
theorem P_log (h : PV σ K L LI n H hi) (hB : L < 2147483646) : ∃ r, f_X11_log v1 v2 σ = some r ∧ f_X12_log v1 v2 σ = some (r, u2 σ 758 0 0) := by
  obtain ⟨⟨c0, c1, i0, i1, i2, i3, i4⟩, hR, hD, hc⟩ := h
  have n3 := i0.n3
  rw [KL_s] at n3
  obtain ⟨p0, p1, p2⟩ := i1
  unfold f_X11_log f_X12_log f_X11_logLength
  rw [Option.bind_some, n3, u2_c (i := 0) (by omega)]
  by_cases d1 : v1 < 0
  · exact ⟨-1000000, by rw [if_pos d1], by rw [if_pos d1]⟩
  rw [if_neg d1, if_neg d1]
  by_cases d2 : v1 < min L 60
  · rw [if_pos d2, if_neg (by omega), zid (x := L - 1) (by omega) (by omega), zid (x := L - 1 - v1) (by omega) (by omega)]
    unfold f_X4_read
    rw [C_fmod (by omega) (by omega)]
    by_cases d3 : 0 ≤ v2 ∧ v2 ≤ 2
    · have hp := p2 (σ 776 75 - 1 - v1) v2 (by omega) (by omega) (by omega) (by omega)
      have em : ((L - σ 776 75 + (σ 776 75 - 1 - v1)) % 100).toNat = ((L - 1 - v1) % 100).toNat := by omega
      rw [em] at hp
      refine ⟨σ 776 (76 + 3 * (σ 776 75 - 1 - v1) + v2).toNat, ?_, ?_⟩
      · have hf : v2 = 0 ∨ v2 = 1 ∨ v2 = 2 := by omega
        rcases hf with rfl | rfl | rfl
        · rw [if_pos rfl, if_pos (by omega), Option.bind_some, hp]
          rfl
        · rw [if_neg (by omega), if_pos rfl, if_pos (by omega), Option.bind_some, hp]
          rfl
        · rw [if_neg (by omega), if_neg (by omega), if_pos rfl, if_pos (by omega), Option.bind_some, hp]
          rfl
      · rw [R_isIn_y (by omega) (by omega), Option.bind_some, if_neg (show ¬ (1 : Int) = 0 by omega)]
        have e1 : z_w (z_w (76 + z_w (3 * z_w (z_w (σ 776 75 - 1) - v1))) + v2) = 76 + 3 * (σ 776 75 - 1 - v1) + v2 := by
          rw [zid (x := σ 776 75 - 1) (by omega) (by omega), zid (x := σ 776 75 - 1 - v1) (by omega) (by omega), zid (x := 3 * (σ 776 75 - 1 - v1)) (by omega) (by omega), zid (x := 76 + 3 * (σ 776 75 - 1 - v1)) (by omega) (by omega), zid (by omega) (by omega)]
        rw [e1, if_pos (by omega), u2_c (by omega)]
    · refine ⟨-1000000, ?_, ?_⟩
      · rw [if_neg (by omega), if_neg (by omega), if_neg (by omega), Option.bind_some]
      · rw [R_isIn_n d3, Option.bind_some, if_pos rfl]
  · exact ⟨-1000000, by rw [if_neg d2], by rw [if_pos (by omega)]⟩
end S_LO
