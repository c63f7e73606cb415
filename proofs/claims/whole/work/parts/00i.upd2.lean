-- bits of a state changed; a row keeps well
section S_U2
variable {σ σ' K : Nat → Nat → Int} {a : Nat} {w : Nat → Int} {tr th : Int}
theorem C_withBit_1 {x v : Int} (h0 : 0 ≤ v) (h1 : v < 6) : f_X11_withBit x v 1 σ' = some (z_or x (z_shl 1 v)) := by
  unfold f_X11_withBit
  simp (disch := first | assumption | omega) only [if_true, if_false, zid, zlid, if_pos, if_neg, u2_e, u2_c, u2_i, u1_e, u1_i, Option.bind_some]
theorem C_withBit_0 {x v : Int} (h0 : 0 ≤ v) (h1 : v < 6) : f_X11_withBit x v 0 σ' = some (z_and x (z_xor (z_shl 1 v) (-1))) := by
  unfold f_X11_withBit
  simp (disch := first | assumption | omega) only [if_true, if_false, zid, zlid, if_pos, if_neg, u2_e, u2_c, u2_i, u1_e, u1_i, Option.bind_some]
theorem RS.b6_set (h : RS σ a K w tr th) (hK : K 0 1 ≤ 4) (hK0 : K 0 0 ≤ 3) (hK2 : K 0 2 ≤ 6) {q : Int} (q0 : 0 ≤ q) (q1 : q < K 0 2) : RS (u2 σ a 6 (z_or (σ a 6) (z_shl 1 q))) a K (u1 w (9 + q).toNat 1) tr th := by
  obtain ⟨⟨n0, n1, n2, n4, n3⟩, b5, b6, ht, hc, hv, hk, hx⟩ := h
  refine ⟨⟨?_, ?_, ?_, ?_, ?_⟩, ?_, ?_, fun t h0 h1 => ?_, fun c' h0 h1 => ?_, fun v h0 h1 => ?_, fun k h0 h1 => ?_, fun h0 => ?_⟩
  · simp (disch := first | assumption | omega) only [if_true, if_false, zid, zlid, if_pos, if_neg, u2_e, u2_c, u2_i, u1_e, u1_i, Option.bind_some]
    exact n0
  · simp (disch := first | assumption | omega) only [if_true, if_false, zid, zlid, if_pos, if_neg, u2_e, u2_c, u2_i, u1_e, u1_i, Option.bind_some]
    exact n1
  · simp (disch := first | assumption | omega) only [if_true, if_false, zid, zlid, if_pos, if_neg, u2_e, u2_c, u2_i, u1_e, u1_i, Option.bind_some]
    exact n2
  · simp (disch := first | assumption | omega) only [if_true, if_false, zid, zlid, if_pos, if_neg, u2_e, u2_c, u2_i, u1_e, u1_i, Option.bind_some]
    exact n4
  · simp (disch := first | assumption | omega) only [if_true, if_false, zid, zlid, if_pos, if_neg, u2_e, u2_c, u2_i, u1_e, u1_i, Option.bind_some]
    exact n3
  · rw [u2_i (by omega)]
    exact b5.congr (fun i i0 i1 => u1_i (by omega))
  · rw [u2_e]
    exact b6.set (by omega) q0 q1 (fun j => by
      unfold u1
      by_cases e : j = q.toNat
      · rw [if_pos e, if_pos (by omega)]
      · rw [if_neg e, if_neg (by omega)])
  · simp (disch := first | assumption | omega) only [if_true, if_false, zid, zlid, if_pos, if_neg, u2_e, u2_c, u2_i, u1_e, u1_i, Option.bind_some]
    exact ht t h0 h1
  · simp (disch := first | assumption | omega) only [if_true, if_false, zid, zlid, if_pos, if_neg, u2_e, u2_c, u2_i, u1_e, u1_i, Option.bind_some]
    exact hc c' h0 h1
  · simp (disch := first | assumption | omega) only [if_true, if_false, zid, zlid, if_pos, if_neg, u2_e, u2_c, u2_i, u1_e, u1_i, Option.bind_some]
    exact hv v h0 h1
  · rw [u1_i (by omega)] at h1
    rw [m_nm_u1 (by omega) h0]
    simp (disch := first | assumption | omega) only [if_true, if_false, zid, zlid, if_pos, if_neg, u2_e, u2_c, u2_i, u1_e, u1_i, Option.bind_some]
    exact hk k h0 h1
  · simp (disch := first | assumption | omega) only [if_true, if_false, zid, zlid, if_pos, if_neg, u2_e, u2_c, u2_i, u1_e, u1_i, Option.bind_some]
    exact hx h0
theorem RS.b6_clr (h : RS σ a K w tr th) (hK : K 0 1 ≤ 4) (hK0 : K 0 0 ≤ 3) (hK2 : K 0 2 ≤ 6) {q : Int} (q0 : 0 ≤ q) (q1 : q < K 0 2) : RS (u2 σ a 6 (z_and (σ a 6) (z_xor (z_shl 1 q) (-1)))) a K (u1 w (9 + q).toNat 0) tr th := by
  obtain ⟨⟨n0, n1, n2, n4, n3⟩, b5, b6, ht, hc, hv, hk, hx⟩ := h
  refine ⟨⟨?_, ?_, ?_, ?_, ?_⟩, ?_, ?_, fun t h0 h1 => ?_, fun c' h0 h1 => ?_, fun v h0 h1 => ?_, fun k h0 h1 => ?_, fun h0 => ?_⟩
  · simp (disch := first | assumption | omega) only [if_true, if_false, zid, zlid, if_pos, if_neg, u2_e, u2_c, u2_i, u1_e, u1_i, Option.bind_some]
    exact n0
  · simp (disch := first | assumption | omega) only [if_true, if_false, zid, zlid, if_pos, if_neg, u2_e, u2_c, u2_i, u1_e, u1_i, Option.bind_some]
    exact n1
  · simp (disch := first | assumption | omega) only [if_true, if_false, zid, zlid, if_pos, if_neg, u2_e, u2_c, u2_i, u1_e, u1_i, Option.bind_some]
    exact n2
  · simp (disch := first | assumption | omega) only [if_true, if_false, zid, zlid, if_pos, if_neg, u2_e, u2_c, u2_i, u1_e, u1_i, Option.bind_some]
    exact n4
  · simp (disch := first | assumption | omega) only [if_true, if_false, zid, zlid, if_pos, if_neg, u2_e, u2_c, u2_i, u1_e, u1_i, Option.bind_some]
    exact n3
  · rw [u2_i (by omega)]
    exact b5.congr (fun i i0 i1 => u1_i (by omega))
  · rw [u2_e]
    exact b6.clr (by omega) q0 q1 (fun j => by
      unfold u1
      by_cases e : j = q.toNat
      · rw [if_pos e, if_pos (by omega)]
      · rw [if_neg e, if_neg (by omega)])
  · simp (disch := first | assumption | omega) only [if_true, if_false, zid, zlid, if_pos, if_neg, u2_e, u2_c, u2_i, u1_e, u1_i, Option.bind_some]
    exact ht t h0 h1
  · simp (disch := first | assumption | omega) only [if_true, if_false, zid, zlid, if_pos, if_neg, u2_e, u2_c, u2_i, u1_e, u1_i, Option.bind_some]
    exact hc c' h0 h1
  · simp (disch := first | assumption | omega) only [if_true, if_false, zid, zlid, if_pos, if_neg, u2_e, u2_c, u2_i, u1_e, u1_i, Option.bind_some]
    exact hv v h0 h1
  · rw [u1_i (by omega)] at h1
    rw [m_nm_u1 (by omega) h0]
    simp (disch := first | assumption | omega) only [if_true, if_false, zid, zlid, if_pos, if_neg, u2_e, u2_c, u2_i, u1_e, u1_i, Option.bind_some]
    exact hk k h0 h1
  · simp (disch := first | assumption | omega) only [if_true, if_false, zid, zlid, if_pos, if_neg, u2_e, u2_c, u2_i, u1_e, u1_i, Option.bind_some]
    exact hx h0
theorem RS.b5_set (h : RS σ a K w tr th) (hK : K 0 1 ≤ 4) (hK0 : K 0 0 ≤ 3) (hK2 : K 0 2 ≤ 6) {q : Int} (q0 : 0 ≤ q) (q1 : q < K 0 1) : RS (u2 σ a 5 (z_or (σ a 5) (z_shl 1 q))) a K (u1 w (37 + q).toNat 1) tr th := by
  obtain ⟨⟨n0, n1, n2, n4, n3⟩, b5, b6, ht, hc, hv, hk, hx⟩ := h
  refine ⟨⟨?_, ?_, ?_, ?_, ?_⟩, ?_, ?_, fun t h0 h1 => ?_, fun c' h0 h1 => ?_, fun v h0 h1 => ?_, fun k h0 h1 => ?_, fun h0 => ?_⟩
  · simp (disch := first | assumption | omega) only [if_true, if_false, zid, zlid, if_pos, if_neg, u2_e, u2_c, u2_i, u1_e, u1_i, Option.bind_some]
    exact n0
  · simp (disch := first | assumption | omega) only [if_true, if_false, zid, zlid, if_pos, if_neg, u2_e, u2_c, u2_i, u1_e, u1_i, Option.bind_some]
    exact n1
  · simp (disch := first | assumption | omega) only [if_true, if_false, zid, zlid, if_pos, if_neg, u2_e, u2_c, u2_i, u1_e, u1_i, Option.bind_some]
    exact n2
  · simp (disch := first | assumption | omega) only [if_true, if_false, zid, zlid, if_pos, if_neg, u2_e, u2_c, u2_i, u1_e, u1_i, Option.bind_some]
    exact n4
  · simp (disch := first | assumption | omega) only [if_true, if_false, zid, zlid, if_pos, if_neg, u2_e, u2_c, u2_i, u1_e, u1_i, Option.bind_some]
    exact n3
  · rw [u2_e]
    exact b5.set (by omega) q0 q1 (fun j => by
      unfold u1
      by_cases e : j = q.toNat
      · rw [if_pos e, if_pos (by omega)]
      · rw [if_neg e, if_neg (by omega)])
  · rw [u2_i (by omega)]
    exact b6.congr (fun i i0 i1 => u1_i (by omega))
  · simp (disch := first | assumption | omega) only [if_true, if_false, zid, zlid, if_pos, if_neg, u2_e, u2_c, u2_i, u1_e, u1_i, Option.bind_some]
    exact ht t h0 h1
  · simp (disch := first | assumption | omega) only [if_true, if_false, zid, zlid, if_pos, if_neg, u2_e, u2_c, u2_i, u1_e, u1_i, Option.bind_some]
    exact hc c' h0 h1
  · simp (disch := first | assumption | omega) only [if_true, if_false, zid, zlid, if_pos, if_neg, u2_e, u2_c, u2_i, u1_e, u1_i, Option.bind_some]
    exact hv v h0 h1
  · rw [u1_i (by omega)] at h1
    rw [m_nm_u1 (by omega) h0]
    simp (disch := first | assumption | omega) only [if_true, if_false, zid, zlid, if_pos, if_neg, u2_e, u2_c, u2_i, u1_e, u1_i, Option.bind_some]
    exact hk k h0 h1
  · simp (disch := first | assumption | omega) only [if_true, if_false, zid, zlid, if_pos, if_neg, u2_e, u2_c, u2_i, u1_e, u1_i, Option.bind_some]
    exact hx h0
theorem RS.b5_clr (h : RS σ a K w tr th) (hK : K 0 1 ≤ 4) (hK0 : K 0 0 ≤ 3) (hK2 : K 0 2 ≤ 6) {q : Int} (q0 : 0 ≤ q) (q1 : q < K 0 1) : RS (u2 σ a 5 (z_and (σ a 5) (z_xor (z_shl 1 q) (-1)))) a K (u1 w (37 + q).toNat 0) tr th := by
  obtain ⟨⟨n0, n1, n2, n4, n3⟩, b5, b6, ht, hc, hv, hk, hx⟩ := h
  refine ⟨⟨?_, ?_, ?_, ?_, ?_⟩, ?_, ?_, fun t h0 h1 => ?_, fun c' h0 h1 => ?_, fun v h0 h1 => ?_, fun k h0 h1 => ?_, fun h0 => ?_⟩
  · simp (disch := first | assumption | omega) only [if_true, if_false, zid, zlid, if_pos, if_neg, u2_e, u2_c, u2_i, u1_e, u1_i, Option.bind_some]
    exact n0
  · simp (disch := first | assumption | omega) only [if_true, if_false, zid, zlid, if_pos, if_neg, u2_e, u2_c, u2_i, u1_e, u1_i, Option.bind_some]
    exact n1
  · simp (disch := first | assumption | omega) only [if_true, if_false, zid, zlid, if_pos, if_neg, u2_e, u2_c, u2_i, u1_e, u1_i, Option.bind_some]
    exact n2
  · simp (disch := first | assumption | omega) only [if_true, if_false, zid, zlid, if_pos, if_neg, u2_e, u2_c, u2_i, u1_e, u1_i, Option.bind_some]
    exact n4
  · simp (disch := first | assumption | omega) only [if_true, if_false, zid, zlid, if_pos, if_neg, u2_e, u2_c, u2_i, u1_e, u1_i, Option.bind_some]
    exact n3
  · rw [u2_e]
    exact b5.clr (by omega) q0 q1 (fun j => by
      unfold u1
      by_cases e : j = q.toNat
      · rw [if_pos e, if_pos (by omega)]
      · rw [if_neg e, if_neg (by omega)])
  · rw [u2_i (by omega)]
    exact b6.congr (fun i i0 i1 => u1_i (by omega))
  · simp (disch := first | assumption | omega) only [if_true, if_false, zid, zlid, if_pos, if_neg, u2_e, u2_c, u2_i, u1_e, u1_i, Option.bind_some]
    exact ht t h0 h1
  · simp (disch := first | assumption | omega) only [if_true, if_false, zid, zlid, if_pos, if_neg, u2_e, u2_c, u2_i, u1_e, u1_i, Option.bind_some]
    exact hc c' h0 h1
  · simp (disch := first | assumption | omega) only [if_true, if_false, zid, zlid, if_pos, if_neg, u2_e, u2_c, u2_i, u1_e, u1_i, Option.bind_some]
    exact hv v h0 h1
  · rw [u1_i (by omega)] at h1
    rw [m_nm_u1 (by omega) h0]
    simp (disch := first | assumption | omega) only [if_true, if_false, zid, zlid, if_pos, if_neg, u2_e, u2_c, u2_i, u1_e, u1_i, Option.bind_some]
    exact hk k h0 h1
  · simp (disch := first | assumption | omega) only [if_true, if_false, zid, zlid, if_pos, if_neg, u2_e, u2_c, u2_i, u1_e, u1_i, Option.bind_some]
    exact hx h0
theorem WS.u_on (h : WS K w) (hK : WK K) {q x : Int} (q0 : 0 ≤ q) (q1 : q < K 0 1) (x0 : 0 ≤ x) (x1 : x < K 0 2) : WS K (u1 w (21 + q).toNat x) := by
  have hn := hK.n
  obtain ⟨hc, hv, ht, hl, hm, hk⟩ := h
  refine ⟨fun c h0 h1 => ?_, fun v h0 h1 => ?_, fun t h0 h1 => ?_, fun t h0 h1 => ?_, ?_, fun k h0 h1 => ?_⟩
  · simp (disch := first | assumption | omega) only [if_true, if_false, zid, zlid, if_pos, if_neg, u2_e, u2_c, u2_i, u1_e, u1_i, Option.bind_some]
    exact hc c h0 h1
  · simp (disch := first | assumption | omega) only [if_true, if_false, zid, zlid, if_pos, if_neg, u2_e, u2_c, u2_i, u1_e, u1_i, Option.bind_some]
    exact hv v h0 h1
  · have hh := ht t h0 h1
    by_cases e : t = q
    · subst e
      simp (disch := first | assumption | omega) only [if_true, if_false, zid, zlid, if_pos, if_neg, u2_e, u2_c, u2_i, u1_e, u1_i, Option.bind_some]
      omega
    · simp (disch := first | assumption | omega) only [if_true, if_false, zid, zlid, if_pos, if_neg, u2_e, u2_c, u2_i, u1_e, u1_i, Option.bind_some]
      exact hh
  · simp (disch := first | assumption | omega) only [if_true, if_false, zid, zlid, if_pos, if_neg, u2_e, u2_c, u2_i, u1_e, u1_i, Option.bind_some]
    exact hl t h0 h1
  · simp (disch := first | assumption | omega) only [if_true, if_false, zid, zlid, if_pos, if_neg, u2_e, u2_c, u2_i, u1_e, u1_i, Option.bind_some]
    exact hm
  · rw [u1_i (by omega)] at h1
    rw [m_nm_u1 (by omega) h0]
    simp (disch := first | assumption | omega) only [if_true, if_false, zid, zlid, if_pos, if_neg, u2_e, u2_c, u2_i, u1_e, u1_i, Option.bind_some]
    exact hk k h0 h1
theorem WS.u_rest (h : WS K w) (hK : WK K) {q x : Int} (q0 : 0 ≤ q) (q1 : q < K 0 1) (x0 : 0 ≤ x) (x1 : x ≤ 999) : WS K (u1 w (25 + q).toNat x) := by
  have hn := hK.n
  obtain ⟨hc, hv, ht, hl, hm, hk⟩ := h
  refine ⟨fun c h0 h1 => ?_, fun v h0 h1 => ?_, fun t h0 h1 => ?_, fun t h0 h1 => ?_, ?_, fun k h0 h1 => ?_⟩
  · simp (disch := first | assumption | omega) only [if_true, if_false, zid, zlid, if_pos, if_neg, u2_e, u2_c, u2_i, u1_e, u1_i, Option.bind_some]
    exact hc c h0 h1
  · simp (disch := first | assumption | omega) only [if_true, if_false, zid, zlid, if_pos, if_neg, u2_e, u2_c, u2_i, u1_e, u1_i, Option.bind_some]
    exact hv v h0 h1
  · have hh := ht t h0 h1
    by_cases e : t = q
    · subst e
      simp (disch := first | assumption | omega) only [if_true, if_false, zid, zlid, if_pos, if_neg, u2_e, u2_c, u2_i, u1_e, u1_i, Option.bind_some]
      omega
    · simp (disch := first | assumption | omega) only [if_true, if_false, zid, zlid, if_pos, if_neg, u2_e, u2_c, u2_i, u1_e, u1_i, Option.bind_some]
      exact hh
  · simp (disch := first | assumption | omega) only [if_true, if_false, zid, zlid, if_pos, if_neg, u2_e, u2_c, u2_i, u1_e, u1_i, Option.bind_some]
    exact hl t h0 h1
  · simp (disch := first | assumption | omega) only [if_true, if_false, zid, zlid, if_pos, if_neg, u2_e, u2_c, u2_i, u1_e, u1_i, Option.bind_some]
    exact hm
  · rw [u1_i (by omega)] at h1
    rw [m_nm_u1 (by omega) h0]
    simp (disch := first | assumption | omega) only [if_true, if_false, zid, zlid, if_pos, if_neg, u2_e, u2_c, u2_i, u1_e, u1_i, Option.bind_some]
    exact hk k h0 h1
theorem WS.u_load (h : WS K w) (hK : WK K) {q x : Int} (q0 : 0 ≤ q) (q1 : q < K 0 1) (x0 : 0 ≤ x) (x1 : x ≤ 1024) : WS K (u1 w (29 + q).toNat x) := by
  have hn := hK.n
  obtain ⟨hc, hv, ht, hl, hm, hk⟩ := h
  refine ⟨fun c h0 h1 => ?_, fun v h0 h1 => ?_, fun t h0 h1 => ?_, fun t h0 h1 => ?_, ?_, fun k h0 h1 => ?_⟩
  · simp (disch := first | assumption | omega) only [if_true, if_false, zid, zlid, if_pos, if_neg, u2_e, u2_c, u2_i, u1_e, u1_i, Option.bind_some]
    exact hc c h0 h1
  · simp (disch := first | assumption | omega) only [if_true, if_false, zid, zlid, if_pos, if_neg, u2_e, u2_c, u2_i, u1_e, u1_i, Option.bind_some]
    exact hv v h0 h1
  · have hh := ht t h0 h1
    by_cases e : t = q
    · subst e
      simp (disch := first | assumption | omega) only [if_true, if_false, zid, zlid, if_pos, if_neg, u2_e, u2_c, u2_i, u1_e, u1_i, Option.bind_some]
      omega
    · simp (disch := first | assumption | omega) only [if_true, if_false, zid, zlid, if_pos, if_neg, u2_e, u2_c, u2_i, u1_e, u1_i, Option.bind_some]
      exact hh
  · simp (disch := first | assumption | omega) only [if_true, if_false, zid, zlid, if_pos, if_neg, u2_e, u2_c, u2_i, u1_e, u1_i, Option.bind_some]
    exact hl t h0 h1
  · simp (disch := first | assumption | omega) only [if_true, if_false, zid, zlid, if_pos, if_neg, u2_e, u2_c, u2_i, u1_e, u1_i, Option.bind_some]
    exact hm
  · rw [u1_i (by omega)] at h1
    rw [m_nm_u1 (by omega) h0]
    simp (disch := first | assumption | omega) only [if_true, if_false, zid, zlid, if_pos, if_neg, u2_e, u2_c, u2_i, u1_e, u1_i, Option.bind_some]
    exact hk k h0 h1
theorem WS.u_late (h : WS K w) (hK : WK K) {q x : Int} (q0 : 0 ≤ q) (q1 : q < K 0 1) (x0 : 0 ≤ x) (x1 : x ≤ 10000) : WS K (u1 w (33 + q).toNat x) := by
  have hn := hK.n
  obtain ⟨hc, hv, ht, hl, hm, hk⟩ := h
  refine ⟨fun c h0 h1 => ?_, fun v h0 h1 => ?_, fun t h0 h1 => ?_, fun t h0 h1 => ?_, ?_, fun k h0 h1 => ?_⟩
  · simp (disch := first | assumption | omega) only [if_true, if_false, zid, zlid, if_pos, if_neg, u2_e, u2_c, u2_i, u1_e, u1_i, Option.bind_some]
    exact hc c h0 h1
  · simp (disch := first | assumption | omega) only [if_true, if_false, zid, zlid, if_pos, if_neg, u2_e, u2_c, u2_i, u1_e, u1_i, Option.bind_some]
    exact hv v h0 h1
  · have hh := ht t h0 h1
    by_cases e : t = q
    · subst e
      simp (disch := first | assumption | omega) only [if_true, if_false, zid, zlid, if_pos, if_neg, u2_e, u2_c, u2_i, u1_e, u1_i, Option.bind_some]
      omega
    · simp (disch := first | assumption | omega) only [if_true, if_false, zid, zlid, if_pos, if_neg, u2_e, u2_c, u2_i, u1_e, u1_i, Option.bind_some]
      exact hh
  · simp (disch := first | assumption | omega) only [if_true, if_false, zid, zlid, if_pos, if_neg, u2_e, u2_c, u2_i, u1_e, u1_i, Option.bind_some]
    exact hl t h0 h1
  · simp (disch := first | assumption | omega) only [if_true, if_false, zid, zlid, if_pos, if_neg, u2_e, u2_c, u2_i, u1_e, u1_i, Option.bind_some]
    exact hm
  · rw [u1_i (by omega)] at h1
    rw [m_nm_u1 (by omega) h0]
    simp (disch := first | assumption | omega) only [if_true, if_false, zid, zlid, if_pos, if_neg, u2_e, u2_c, u2_i, u1_e, u1_i, Option.bind_some]
    exact hk k h0 h1
theorem WS.u_stop (h : WS K w) (hK : WK K) {q x : Int} (q0 : 0 ≤ q) (q1 : q < K 0 1) (x0 : x = 0 ∨ x = 1) : WS K (u1 w (37 + q).toNat x) := by
  have hn := hK.n
  obtain ⟨hc, hv, ht, hl, hm, hk⟩ := h
  refine ⟨fun c h0 h1 => ?_, fun v h0 h1 => ?_, fun t h0 h1 => ?_, fun t h0 h1 => ?_, ?_, fun k h0 h1 => ?_⟩
  · simp (disch := first | assumption | omega) only [if_true, if_false, zid, zlid, if_pos, if_neg, u2_e, u2_c, u2_i, u1_e, u1_i, Option.bind_some]
    exact hc c h0 h1
  · simp (disch := first | assumption | omega) only [if_true, if_false, zid, zlid, if_pos, if_neg, u2_e, u2_c, u2_i, u1_e, u1_i, Option.bind_some]
    exact hv v h0 h1
  · have hh := ht t h0 h1
    by_cases e : t = q
    · subst e
      simp (disch := first | assumption | omega) only [if_true, if_false, zid, zlid, if_pos, if_neg, u2_e, u2_c, u2_i, u1_e, u1_i, Option.bind_some]
      omega
    · simp (disch := first | assumption | omega) only [if_true, if_false, zid, zlid, if_pos, if_neg, u2_e, u2_c, u2_i, u1_e, u1_i, Option.bind_some]
      exact hh
  · simp (disch := first | assumption | omega) only [if_true, if_false, zid, zlid, if_pos, if_neg, u2_e, u2_c, u2_i, u1_e, u1_i, Option.bind_some]
    exact hl t h0 h1
  · simp (disch := first | assumption | omega) only [if_true, if_false, zid, zlid, if_pos, if_neg, u2_e, u2_c, u2_i, u1_e, u1_i, Option.bind_some]
    exact hm
  · rw [u1_i (by omega)] at h1
    rw [m_nm_u1 (by omega) h0]
    simp (disch := first | assumption | omega) only [if_true, if_false, zid, zlid, if_pos, if_neg, u2_e, u2_c, u2_i, u1_e, u1_i, Option.bind_some]
    exact hk k h0 h1
theorem WS.u_point (h : WS K w) (hK : WK K) {q x : Int} (q0 : 0 ≤ q) (q1 : q < K 0 0) (x0 : 0 ≤ x) (x1 : x < K 4 q.toNat) : WS K (u1 w q.toNat x) := by
  have hn := hK.n
  obtain ⟨hc, hv, ht, hl, hm, hk⟩ := h
  refine ⟨fun c h0 h1 => ?_, fun v h0 h1 => ?_, fun t h0 h1 => ?_, fun t h0 h1 => ?_, ?_, fun k h0 h1 => ?_⟩
  · have hh := hc c h0 h1
    by_cases e : c = q
    · subst e
      simp (disch := first | assumption | omega) only [if_true, if_false, zid, zlid, if_pos, if_neg, u2_e, u2_c, u2_i, u1_e, u1_i, Option.bind_some]
      omega
    · simp (disch := first | assumption | omega) only [if_true, if_false, zid, zlid, if_pos, if_neg, u2_e, u2_c, u2_i, u1_e, u1_i, Option.bind_some]
      exact hh
  · simp (disch := first | assumption | omega) only [if_true, if_false, zid, zlid, if_pos, if_neg, u2_e, u2_c, u2_i, u1_e, u1_i, Option.bind_some]
    exact hv v h0 h1
  · simp (disch := first | assumption | omega) only [if_true, if_false, zid, zlid, if_pos, if_neg, u2_e, u2_c, u2_i, u1_e, u1_i, Option.bind_some]
    exact ht t h0 h1
  · simp (disch := first | assumption | omega) only [if_true, if_false, zid, zlid, if_pos, if_neg, u2_e, u2_c, u2_i, u1_e, u1_i, Option.bind_some]
    exact hl t h0 h1
  · simp (disch := first | assumption | omega) only [if_true, if_false, zid, zlid, if_pos, if_neg, u2_e, u2_c, u2_i, u1_e, u1_i, Option.bind_some]
    exact hm
  · rw [u1_i (by omega)] at h1
    rw [m_nm_u1 (by omega) h0]
    simp (disch := first | assumption | omega) only [if_true, if_false, zid, zlid, if_pos, if_neg, u2_e, u2_c, u2_i, u1_e, u1_i, Option.bind_some]
    exact hk k h0 h1
theorem WS.u_held (h : WS K w) (hK : WK K) {q x : Int} (q0 : 0 ≤ q) (q1 : q < K 0 0) : WS K (u1 w (3 + q).toNat x) := by
  have hn := hK.n
  obtain ⟨hc, hv, ht, hl, hm, hk⟩ := h
  refine ⟨fun c h0 h1 => ?_, fun v h0 h1 => ?_, fun t h0 h1 => ?_, fun t h0 h1 => ?_, ?_, fun k h0 h1 => ?_⟩
  · have hh := hc c h0 h1
    by_cases e : c = q
    · subst e
      simp (disch := first | assumption | omega) only [if_true, if_false, zid, zlid, if_pos, if_neg, u2_e, u2_c, u2_i, u1_e, u1_i, Option.bind_some]
      omega
    · simp (disch := first | assumption | omega) only [if_true, if_false, zid, zlid, if_pos, if_neg, u2_e, u2_c, u2_i, u1_e, u1_i, Option.bind_some]
      exact hh
  · simp (disch := first | assumption | omega) only [if_true, if_false, zid, zlid, if_pos, if_neg, u2_e, u2_c, u2_i, u1_e, u1_i, Option.bind_some]
    exact hv v h0 h1
  · simp (disch := first | assumption | omega) only [if_true, if_false, zid, zlid, if_pos, if_neg, u2_e, u2_c, u2_i, u1_e, u1_i, Option.bind_some]
    exact ht t h0 h1
  · simp (disch := first | assumption | omega) only [if_true, if_false, zid, zlid, if_pos, if_neg, u2_e, u2_c, u2_i, u1_e, u1_i, Option.bind_some]
    exact hl t h0 h1
  · simp (disch := first | assumption | omega) only [if_true, if_false, zid, zlid, if_pos, if_neg, u2_e, u2_c, u2_i, u1_e, u1_i, Option.bind_some]
    exact hm
  · rw [u1_i (by omega)] at h1
    rw [m_nm_u1 (by omega) h0]
    simp (disch := first | assumption | omega) only [if_true, if_false, zid, zlid, if_pos, if_neg, u2_e, u2_c, u2_i, u1_e, u1_i, Option.bind_some]
    exact hk k h0 h1
theorem WS.u_boost (h : WS K w) (hK : WK K) {q x : Int} (q0 : 0 ≤ q) (q1 : q < K 0 0) (x0 : 0 ≤ x) (x1 : x ≤ 9) : WS K (u1 w (6 + q).toNat x) := by
  have hn := hK.n
  obtain ⟨hc, hv, ht, hl, hm, hk⟩ := h
  refine ⟨fun c h0 h1 => ?_, fun v h0 h1 => ?_, fun t h0 h1 => ?_, fun t h0 h1 => ?_, ?_, fun k h0 h1 => ?_⟩
  · have hh := hc c h0 h1
    by_cases e : c = q
    · subst e
      simp (disch := first | assumption | omega) only [if_true, if_false, zid, zlid, if_pos, if_neg, u2_e, u2_c, u2_i, u1_e, u1_i, Option.bind_some]
      omega
    · simp (disch := first | assumption | omega) only [if_true, if_false, zid, zlid, if_pos, if_neg, u2_e, u2_c, u2_i, u1_e, u1_i, Option.bind_some]
      exact hh
  · simp (disch := first | assumption | omega) only [if_true, if_false, zid, zlid, if_pos, if_neg, u2_e, u2_c, u2_i, u1_e, u1_i, Option.bind_some]
    exact hv v h0 h1
  · simp (disch := first | assumption | omega) only [if_true, if_false, zid, zlid, if_pos, if_neg, u2_e, u2_c, u2_i, u1_e, u1_i, Option.bind_some]
    exact ht t h0 h1
  · simp (disch := first | assumption | omega) only [if_true, if_false, zid, zlid, if_pos, if_neg, u2_e, u2_c, u2_i, u1_e, u1_i, Option.bind_some]
    exact hl t h0 h1
  · simp (disch := first | assumption | omega) only [if_true, if_false, zid, zlid, if_pos, if_neg, u2_e, u2_c, u2_i, u1_e, u1_i, Option.bind_some]
    exact hm
  · rw [u1_i (by omega)] at h1
    rw [m_nm_u1 (by omega) h0]
    simp (disch := first | assumption | omega) only [if_true, if_false, zid, zlid, if_pos, if_neg, u2_e, u2_c, u2_i, u1_e, u1_i, Option.bind_some]
    exact hk k h0 h1
theorem WS.u_sleep (h : WS K w) (hK : WK K) {q x : Int} (q0 : 0 ≤ q) (q1 : q < K 0 2) (x0 : x = 0 ∨ x = 1) : WS K (u1 w (9 + q).toNat x) := by
  have hn := hK.n
  obtain ⟨hc, hv, ht, hl, hm, hk⟩ := h
  refine ⟨fun c h0 h1 => ?_, fun v h0 h1 => ?_, fun t h0 h1 => ?_, fun t h0 h1 => ?_, ?_, fun k h0 h1 => ?_⟩
  · simp (disch := first | assumption | omega) only [if_true, if_false, zid, zlid, if_pos, if_neg, u2_e, u2_c, u2_i, u1_e, u1_i, Option.bind_some]
    exact hc c h0 h1
  · have hh := hv v h0 h1
    by_cases e : v = q
    · subst e
      simp (disch := first | assumption | omega) only [if_true, if_false, zid, zlid, if_pos, if_neg, u2_e, u2_c, u2_i, u1_e, u1_i, Option.bind_some]
      omega
    · simp (disch := first | assumption | omega) only [if_true, if_false, zid, zlid, if_pos, if_neg, u2_e, u2_c, u2_i, u1_e, u1_i, Option.bind_some]
      exact hh
  · simp (disch := first | assumption | omega) only [if_true, if_false, zid, zlid, if_pos, if_neg, u2_e, u2_c, u2_i, u1_e, u1_i, Option.bind_some]
    exact ht t h0 h1
  · simp (disch := first | assumption | omega) only [if_true, if_false, zid, zlid, if_pos, if_neg, u2_e, u2_c, u2_i, u1_e, u1_i, Option.bind_some]
    exact hl t h0 h1
  · simp (disch := first | assumption | omega) only [if_true, if_false, zid, zlid, if_pos, if_neg, u2_e, u2_c, u2_i, u1_e, u1_i, Option.bind_some]
    exact hm
  · rw [u1_i (by omega)] at h1
    rw [m_nm_u1 (by omega) h0]
    simp (disch := first | assumption | omega) only [if_true, if_false, zid, zlid, if_pos, if_neg, u2_e, u2_c, u2_i, u1_e, u1_i, Option.bind_some]
    exact hk k h0 h1
theorem WS.u_idled (h : WS K w) (hK : WK K) {q x : Int} (q0 : 0 ≤ q) (q1 : q < K 0 2) : WS K (u1 w (15 + q).toNat x) := by
  have hn := hK.n
  obtain ⟨hc, hv, ht, hl, hm, hk⟩ := h
  refine ⟨fun c h0 h1 => ?_, fun v h0 h1 => ?_, fun t h0 h1 => ?_, fun t h0 h1 => ?_, ?_, fun k h0 h1 => ?_⟩
  · simp (disch := first | assumption | omega) only [if_true, if_false, zid, zlid, if_pos, if_neg, u2_e, u2_c, u2_i, u1_e, u1_i, Option.bind_some]
    exact hc c h0 h1
  · have hh := hv v h0 h1
    by_cases e : v = q
    · subst e
      simp (disch := first | assumption | omega) only [if_true, if_false, zid, zlid, if_pos, if_neg, u2_e, u2_c, u2_i, u1_e, u1_i, Option.bind_some]
      omega
    · simp (disch := first | assumption | omega) only [if_true, if_false, zid, zlid, if_pos, if_neg, u2_e, u2_c, u2_i, u1_e, u1_i, Option.bind_some]
      exact hh
  · simp (disch := first | assumption | omega) only [if_true, if_false, zid, zlid, if_pos, if_neg, u2_e, u2_c, u2_i, u1_e, u1_i, Option.bind_some]
    exact ht t h0 h1
  · simp (disch := first | assumption | omega) only [if_true, if_false, zid, zlid, if_pos, if_neg, u2_e, u2_c, u2_i, u1_e, u1_i, Option.bind_some]
    exact hl t h0 h1
  · simp (disch := first | assumption | omega) only [if_true, if_false, zid, zlid, if_pos, if_neg, u2_e, u2_c, u2_i, u1_e, u1_i, Option.bind_some]
    exact hm
  · rw [u1_i (by omega)] at h1
    rw [m_nm_u1 (by omega) h0]
    simp (disch := first | assumption | omega) only [if_true, if_false, zid, zlid, if_pos, if_neg, u2_e, u2_c, u2_i, u1_e, u1_i, Option.bind_some]
    exact hk k h0 h1
theorem WS.u_heat (h : WS K w) (hK : WK K) {x : Int} : WS K (u1 w 42 x) := by
  have hn := hK.n
  obtain ⟨hc, hv, ht, hl, hm, hk⟩ := h
  refine ⟨fun c h0 h1 => ?_, fun v h0 h1 => ?_, fun t h0 h1 => ?_, fun t h0 h1 => ?_, ?_, fun k h0 h1 => ?_⟩
  · simp (disch := first | assumption | omega) only [if_true, if_false, zid, zlid, if_pos, if_neg, u2_e, u2_c, u2_i, u1_e, u1_i, Option.bind_some]
    exact hc c h0 h1
  · simp (disch := first | assumption | omega) only [if_true, if_false, zid, zlid, if_pos, if_neg, u2_e, u2_c, u2_i, u1_e, u1_i, Option.bind_some]
    exact hv v h0 h1
  · simp (disch := first | assumption | omega) only [if_true, if_false, zid, zlid, if_pos, if_neg, u2_e, u2_c, u2_i, u1_e, u1_i, Option.bind_some]
    exact ht t h0 h1
  · simp (disch := first | assumption | omega) only [if_true, if_false, zid, zlid, if_pos, if_neg, u2_e, u2_c, u2_i, u1_e, u1_i, Option.bind_some]
    exact hl t h0 h1
  · simp (disch := first | assumption | omega) only [if_true, if_false, zid, zlid, if_pos, if_neg, u2_e, u2_c, u2_i, u1_e, u1_i, Option.bind_some]
    exact hm
  · rw [u1_i (by omega)] at h1
    rw [m_nm_u1 (by omega) h0]
    simp (disch := first | assumption | omega) only [if_true, if_false, zid, zlid, if_pos, if_neg, u2_e, u2_c, u2_i, u1_e, u1_i, Option.bind_some]
    exact hk k h0 h1
theorem WS.u_energy (h : WS K w) (hK : WK K) {x : Int} : WS K (u1 w 43 x) := by
  have hn := hK.n
  obtain ⟨hc, hv, ht, hl, hm, hk⟩ := h
  refine ⟨fun c h0 h1 => ?_, fun v h0 h1 => ?_, fun t h0 h1 => ?_, fun t h0 h1 => ?_, ?_, fun k h0 h1 => ?_⟩
  · simp (disch := first | assumption | omega) only [if_true, if_false, zid, zlid, if_pos, if_neg, u2_e, u2_c, u2_i, u1_e, u1_i, Option.bind_some]
    exact hc c h0 h1
  · simp (disch := first | assumption | omega) only [if_true, if_false, zid, zlid, if_pos, if_neg, u2_e, u2_c, u2_i, u1_e, u1_i, Option.bind_some]
    exact hv v h0 h1
  · simp (disch := first | assumption | omega) only [if_true, if_false, zid, zlid, if_pos, if_neg, u2_e, u2_c, u2_i, u1_e, u1_i, Option.bind_some]
    exact ht t h0 h1
  · simp (disch := first | assumption | omega) only [if_true, if_false, zid, zlid, if_pos, if_neg, u2_e, u2_c, u2_i, u1_e, u1_i, Option.bind_some]
    exact hl t h0 h1
  · simp (disch := first | assumption | omega) only [if_true, if_false, zid, zlid, if_pos, if_neg, u2_e, u2_c, u2_i, u1_e, u1_i, Option.bind_some]
    exact hm
  · rw [u1_i (by omega)] at h1
    rw [m_nm_u1 (by omega) h0]
    simp (disch := first | assumption | omega) only [if_true, if_false, zid, zlid, if_pos, if_neg, u2_e, u2_c, u2_i, u1_e, u1_i, Option.bind_some]
    exact hk k h0 h1
theorem WS.u_time (h : WS K w) (hK : WK K) {x : Int} (x0 : 0 ≤ x) (x1 : x ≤ 9999) : WS K (u1 w 41 x) := by
  have hn := hK.n
  obtain ⟨hc, hv, ht, hl, hm, hk⟩ := h
  refine ⟨fun c h0 h1 => ?_, fun v h0 h1 => ?_, fun t h0 h1 => ?_, fun t h0 h1 => ?_, ?_, fun k h0 h1 => ?_⟩
  · simp (disch := first | assumption | omega) only [if_true, if_false, zid, zlid, if_pos, if_neg, u2_e, u2_c, u2_i, u1_e, u1_i, Option.bind_some]
    exact hc c h0 h1
  · simp (disch := first | assumption | omega) only [if_true, if_false, zid, zlid, if_pos, if_neg, u2_e, u2_c, u2_i, u1_e, u1_i, Option.bind_some]
    exact hv v h0 h1
  · have hh := ht t h0 h1
    simp (disch := first | assumption | omega) only [if_true, if_false, zid, zlid, if_pos, if_neg, u2_e, u2_c, u2_i, u1_e, u1_i, Option.bind_some]
    omega
  · simp (disch := first | assumption | omega) only [if_true, if_false, zid, zlid, if_pos, if_neg, u2_e, u2_c, u2_i, u1_e, u1_i, Option.bind_some]
    exact hl t h0 h1
  · simp (disch := first | assumption | omega) only [if_true, if_false, zid, zlid, if_pos, if_neg, u2_e, u2_c, u2_i, u1_e, u1_i, Option.bind_some]
    omega
  · rw [u1_i (by omega)] at h1
    rw [m_nm_u1 (by omega) h0]
    simp (disch := first | assumption | omega) only [if_true, if_false, zid, zlid, if_pos, if_neg, u2_e, u2_c, u2_i, u1_e, u1_i, Option.bind_some]
    exact hk k h0 h1
end S_U2
