-- what acts do, the class's side
section S_ADC
variable {σ K : Nat → Nat → Int} {a a1 st : Nat} {w : Nat → Int} {what x y z who : Int}
theorem RS.tellA (h : RS σ a K w (-1) 0) (hK : WK K) (hS : WS K w) (h44 : w 44 < 6) (hw : 0 < who ∧ who < 4611686018427387904 ∧ NB who) : RS (u2 (u2 (u2 (u2 (u2 σ a 4 (w 44 + 1)) (a + 9) (w 44).toNat who) (a + 10) (w 44).toNat x) (a + 11) (w 44).toNat y) (a + 12) (w 44).toNat z) a K (m_tellA w who x y z) (-1) 0 := by
  have hkn := hK.n
  have hn := hS.n
  obtain ⟨⟨n0, n1, n2, n4, n3⟩, b5, b6, ht, hc, hv, hk, hx⟩ := h
  have ho : ∀ j : Nat, j < 44 → m_tellA w who x y z j = w j := fun j hj => m_tellA_e (by omega) (by omega) (by omega)
  obtain ⟨e1, e2, e3, e4, e5, e6⟩ := m_tellA_nm (x := x) (y := y) (z := z) (w := w) (by omega) hw
  refine ⟨⟨?_, ?_, ?_, ?_, ?_⟩, ?_, ?_, fun t h0 h1 => ?_, fun c' h0 h1 => ?_, fun v h0 h1 => ?_, fun k h0 h1 => ?_, fun h0 => absurd rfl h0⟩
  · rw [ho 41 (by omega)]
    simp (disch := first | assumption | omega) only [if_true, if_false, zid, zlid, if_pos, if_neg, u2_e, u2_c, u2_i, u1_e, u1_i, Option.bind_some]
    exact n0
  · rw [ho 42 (by omega)]
    simp (disch := first | assumption | omega) only [if_true, if_false, zid, zlid, if_pos, if_neg, u2_e, u2_c, u2_i, u1_e, u1_i, Option.bind_some]
    exact n1
  · rw [ho 43 (by omega)]
    simp (disch := first | assumption | omega) only [if_true, if_false, zid, zlid, if_pos, if_neg, u2_e, u2_c, u2_i, u1_e, u1_i, Option.bind_some]
    exact n2
  · rw [e1, if_pos rfl]
    simp (disch := first | assumption | omega) only [if_true, if_false, zid, zlid, if_pos, if_neg, u2_e, u2_c, u2_i, u1_e, u1_i, Option.bind_some]
    omega
  · simp (disch := first | assumption | omega) only [if_true, if_false, zid, zlid, if_pos, if_neg, u2_e, u2_c, u2_i, u1_e, u1_i, Option.bind_some]
    exact n3
  · simp (disch := first | assumption | omega) only [if_true, if_false, zid, zlid, if_pos, if_neg, u2_e, u2_c, u2_i, u1_e, u1_i, Option.bind_some]
    exact b5.congr (fun i i0 i1 => ho _ (by omega))
  · simp (disch := first | assumption | omega) only [if_true, if_false, zid, zlid, if_pos, if_neg, u2_e, u2_c, u2_i, u1_e, u1_i, Option.bind_some]
    exact b6.congr (fun i i0 i1 => ho _ (by omega))
  · rw [ho _ (by omega), ho _ (by omega), ho _ (by omega), ho _ (by omega)]
    simp (disch := first | assumption | omega) only [if_true, if_false, zid, zlid, if_pos, if_neg, u2_e, u2_c, u2_i, u1_e, u1_i, Option.bind_some]
    exact ht t h0 h1
  · rw [ho _ (by omega), ho _ (by omega), ho _ (by omega)]
    simp (disch := first | assumption | omega) only [if_true, if_false, zid, zlid, if_pos, if_neg, u2_e, u2_c, u2_i, u1_e, u1_i, Option.bind_some]
    exact hc c' h0 h1
  · rw [ho _ (by omega)]
    simp (disch := first | assumption | omega) only [if_true, if_false, zid, zlid, if_pos, if_neg, u2_e, u2_c, u2_i, u1_e, u1_i, Option.bind_some]
    exact hv v h0 h1
  · rw [e1] at h1
    by_cases e : k = w 44
    · rw [e, e2, e3, e4, e5]
      simp (disch := first | assumption | omega) only [if_true, if_false, zid, zlid, if_pos, if_neg, u2_e, u2_c, u2_i, u1_e, u1_i, Option.bind_some]
      exact ⟨trivial, trivial, trivial, trivial⟩
    · rw [e6 k h0 (by omega), m_tellA_e (by omega) (by omega) (by omega), m_tellA_e (by omega) (by omega) (by omega), m_tellA_e (by omega) (by omega) (by omega)]
      simp (disch := first | assumption | omega) only [if_true, if_false, zid, zlid, if_pos, if_neg, u2_e, u2_c, u2_i, u1_e, u1_i, Option.bind_some]
      exact hk k h0 (by omega)
theorem RS.tellB (h : RS σ a K w (-1) 0) (hK : WK K) (hS : WS K w) {k' : Int} (q0 : 0 ≤ k') (q1 : k' < w 44) (q2 : m_nm w k' = who) (q3 : w (47 + 5 * k').toNat = x) : RS (u2 (u2 (u2 (u2 σ (a + 9) k'.toNat who) (a + 10) k'.toNat x) (a + 11) k'.toNat y) (a + 12) k'.toNat z) a K (u1 (u1 w (48 + 5 * k').toNat y) (49 + 5 * k').toNat z) (-1) 0 := by
  have hkn := hK.n
  have hn := hS.n
  obtain ⟨⟨n0, n1, n2, n4, n3⟩, b5, b6, ht, hc, hv, hk, hx⟩ := h
  refine ⟨⟨?_, ?_, ?_, ?_, ?_⟩, ?_, ?_, fun t h0 h1 => ?_, fun c' h0 h1 => ?_, fun v h0 h1 => ?_, fun k h0 h1 => ?_, fun h0 => absurd rfl h0⟩
  · simp (disch := first | assumption | omega) only [if_true, if_false, zid, zlid, if_pos, if_neg, u2_e, u2_c, u2_i, u1_e, u1_i, Option.bind_some]
    exact n0
  · simp (disch := first | assumption | omega) only [if_true, if_false, zid, zlid, if_pos, if_neg, u2_e, u2_c, u2_i, u1_e, u1_i, Option.bind_some]
    exact n1
  · simp (disch := first | assumption | omega) only [if_true, if_false, zid, zlid, if_pos, if_neg, u2_e, u2_c, u2_i, u1_e, u1_i, Option.bind_some]
    exact n2
  · simp (disch := first | assumption | omega) only [if_true, if_false, zid, zlid, if_pos, if_neg, u2_e, u2_c, u2_i, u1_e, u1_i, Option.bind_some]
    exact n4
  · simp (disch := first | assumption | omega) only [if_true, if_false, zid, zlid, if_pos, if_neg, u2_e, u2_c, u2_i, u1_e, u1_i, Option.bind_some]
    exact n3
  · simp (disch := first | assumption | omega) only [if_true, if_false, zid, zlid, if_pos, if_neg, u2_e, u2_c, u2_i, u1_e, u1_i, Option.bind_some]
    exact b5.congr (fun i i0 i1 => by rw [u1_i (by omega), u1_i (by omega)])
  · simp (disch := first | assumption | omega) only [if_true, if_false, zid, zlid, if_pos, if_neg, u2_e, u2_c, u2_i, u1_e, u1_i, Option.bind_some]
    exact b6.congr (fun i i0 i1 => by rw [u1_i (by omega), u1_i (by omega)])
  · simp (disch := first | assumption | omega) only [if_true, if_false, zid, zlid, if_pos, if_neg, u2_e, u2_c, u2_i, u1_e, u1_i, Option.bind_some]
    exact ht t h0 h1
  · simp (disch := first | assumption | omega) only [if_true, if_false, zid, zlid, if_pos, if_neg, u2_e, u2_c, u2_i, u1_e, u1_i, Option.bind_some]
    exact hc c' h0 h1
  · simp (disch := first | assumption | omega) only [if_true, if_false, zid, zlid, if_pos, if_neg, u2_e, u2_c, u2_i, u1_e, u1_i, Option.bind_some]
    exact hv v h0 h1
  · rw [u1_i (by omega), u1_i (by omega)] at h1
    have hh := hk k h0 h1
    have en : m_nm (u1 (u1 w (48 + 5 * k').toNat y) (49 + 5 * k').toNat z) k = m_nm w k := by
      unfold m_nm
      rw [u1_i (by omega), u1_i (by omega), u1_i (by omega), u1_i (by omega)]
    rw [en]
    by_cases e : k = k'
    · subst e
      rw [q2]
      simp (disch := first | assumption | omega) only [if_true, if_false, zid, zlid, if_pos, if_neg, u2_e, u2_c, u2_i, u1_e, u1_i, Option.bind_some]
      exact ⟨trivial, q3.symm, trivial, trivial⟩
    · simp (disch := first | assumption | omega) only [if_true, if_false, zid, zlid, if_pos, if_neg, u2_e, u2_c, u2_i, u1_e, u1_i, Option.bind_some]
      exact hh
theorem C_tell (hR : RS σ a K w (-1) 0) (hK : WK K) (hS : WS K w) (h : m_ask w who x = -1 → w 44 < 6) (hw : 0 < who ∧ who < 4611686018427387904 ∧ NB who) : ∃ σ', f_X7_tell a who x y z σ = some ((m_tell w who x y z).1, σ') ∧ RS σ' a K (m_tell w who x y z).2 (-1) 0 ∧ FR (fun c => a ≤ c ∧ c < a + 13) σ σ' := by
  have hkn := hK.n
  have hn := hS.n
  unfold f_X7_tell f_X7_tell_44 m_tell
  rw [C_askOf hR hS, Option.bind_some]
  by_cases d : m_ask w who x = -1
  · rw [if_pos d, if_pos d]
    have d2 := h d
    refine ⟨_, ?_, hR.tellA hK hS d2 hw, ((((FR.refl.u (by omega)).u (by omega)).u (by omega)).u (by omega)).u (by omega)⟩
    simp (disch := first | assumption | omega) only [if_true, if_false, zid, zlid, if_pos, if_neg, u2_e, u2_c, u2_i, u1_e, u1_i, Option.bind_some, hR.n4, Int.add_zero]
  · rw [if_neg d, if_neg d]
    rcases m_ask_in hS (nm := who) (c := x) with q | q
    · exact absurd q d
    · refine ⟨_, ?_, hR.tellB hK hS q.1 q.2.1 q.2.2.1 q.2.2.2, (((FR.refl.u (by omega)).u (by omega)).u (by omega)).u (by omega)⟩
      simp (disch := first | assumption | omega) only [if_true, if_false, zid, zlid, if_pos, if_neg, u2_e, u2_c, u2_i, u1_e, u1_i, Option.bind_some]
/-- one more asks, on trial: for the cluster x by z, by nobody's name -/
theorem C_tell_x (hR : RS σ a K w (-1) 0) (hK : WK K) (hS : WS K w) (hx : x ≠ -1) : ∃ σ', f_X7_tell a 0 x 0 z σ = some (w 44, σ') ∧ RS σ' a K w x z ∧ FR (fun c => a ≤ c ∧ c < a + 13) σ σ' := by
  have hkn := hK.n
  have hn := hS.n
  refine ⟨u2 (u2 (u2 (u2 (u2 σ a 4 (w 44 + 1)) (a + 9) (w 44).toNat 0) (a + 10) (w 44).toNat x) (a + 11) (w 44).toNat 0) (a + 12) (w 44).toNat z, ?_, ?_, ((((FR.refl.u (by omega)).u (by omega)).u (by omega)).u (by omega)).u (by omega)⟩
  · unfold f_X7_tell f_X7_tell_44
    rw [C_askOf_x hR hS, Option.bind_some, if_pos rfl]
    simp (disch := first | assumption | omega) only [if_true, if_false, zid, zlid, if_pos, if_neg, u2_e, u2_c, u2_i, u1_e, u1_i, Option.bind_some, hR.n4, Int.add_zero]
  · obtain ⟨⟨n0, n1, n2, n4, n3⟩, b5, b6, ht, hc, hv, hk, _⟩ := hR
    refine ⟨⟨?_, ?_, ?_, ?_, ?_⟩, ?_, ?_, fun t h0 h1 => ?_, fun c' h0 h1 => ?_, fun v h0 h1 => ?_, fun k h0 h1 => ?_, fun h0 => ?_⟩
    · simp (disch := first | assumption | omega) only [if_true, if_false, zid, zlid, if_pos, if_neg, u2_e, u2_c, u2_i, u1_e, u1_i, Option.bind_some]
      exact n0
    · simp (disch := first | assumption | omega) only [if_true, if_false, zid, zlid, if_pos, if_neg, u2_e, u2_c, u2_i, u1_e, u1_i, Option.bind_some]
      exact n1
    · simp (disch := first | assumption | omega) only [if_true, if_false, zid, zlid, if_pos, if_neg, u2_e, u2_c, u2_i, u1_e, u1_i, Option.bind_some]
      exact n2
    · rw [if_neg hx]
      simp (disch := first | assumption | omega) only [if_true, if_false, zid, zlid, if_pos, if_neg, u2_e, u2_c, u2_i, u1_e, u1_i, Option.bind_some]
    · simp (disch := first | assumption | omega) only [if_true, if_false, zid, zlid, if_pos, if_neg, u2_e, u2_c, u2_i, u1_e, u1_i, Option.bind_some]
      exact n3
    · simp (disch := first | assumption | omega) only [if_true, if_false, zid, zlid, if_pos, if_neg, u2_e, u2_c, u2_i, u1_e, u1_i, Option.bind_some]
      exact b5
    · simp (disch := first | assumption | omega) only [if_true, if_false, zid, zlid, if_pos, if_neg, u2_e, u2_c, u2_i, u1_e, u1_i, Option.bind_some]
      exact b6
    · simp (disch := first | assumption | omega) only [if_true, if_false, zid, zlid, if_pos, if_neg, u2_e, u2_c, u2_i, u1_e, u1_i, Option.bind_some]
      exact ht t h0 h1
    · simp (disch := first | assumption | omega) only [if_true, if_false, zid, zlid, if_pos, if_neg, u2_e, u2_c, u2_i, u1_e, u1_i, Option.bind_some]
      exact hc c' h0 h1
    · simp (disch := first | assumption | omega) only [if_true, if_false, zid, zlid, if_pos, if_neg, u2_e, u2_c, u2_i, u1_e, u1_i, Option.bind_some]
      exact hv v h0 h1
    · simp (disch := first | assumption | omega) only [if_true, if_false, zid, zlid, if_pos, if_neg, u2_e, u2_c, u2_i, u1_e, u1_i, Option.bind_some]
      exact hk k h0 h1
    · simp (disch := first | assumption | omega) only [if_true, if_false, zid, zlid, if_pos, if_neg, u2_e, u2_c, u2_i, u1_e, u1_i, Option.bind_some]
      exact ⟨trivial, trivial, trivial, trivial⟩
theorem C_forgetAsk (hR : RS σ a K w (-1) 0) (hK : WK K) (hS : WS K w) {k' : Int} (q0 : 0 ≤ k') (q1 : k' < w 44) : ∃ σ', f_X7_forgetAsk a k' σ = some σ' ∧ RS σ' a K (m_shift w k') (-1) 0 ∧ FR (fun c => a ≤ c ∧ c < a + 13) σ σ' := by
  have hkn := hK.n
  have hn := hS.n
  have hn4 := hR.n4
  rw [if_pos rfl] at hn4
  have hh : f_X7_hasAsk a k' σ = some 1 := by
    unfold f_X7_hasAsk
    simp (disch := first | assumption | omega) only [if_true, if_false, zid, zlid, if_pos, if_neg, u2_e, u2_c, u2_i, u1_e, u1_i, Option.bind_some, hn4]
  unfold f_X7_forgetAsk
  rw [hh, Option.bind_some, if_neg (show ¬ (1 : Int) = 0 by omega), hn4]
  have hl := hoare_loop (F := fun k v (q : Nat → Nat → Int) => f_X7_forgetAsk_21 k a v q) (hi := w 44 - 1)
    (fun v q => k' ≤ v ∧ FR (fun c => a ≤ c ∧ c < a + 13) σ q ∧ (∀ c : Nat, c ≤ 8 → (c = 0 → ∀ j, j ≠ 4 → q a j = σ a j) ∧ (c ≠ 0 → q (a + c) = σ (a + c))) ∧ q a 4 = w 44 - 1 ∧
      (∀ c : Nat, 9 ≤ c → c ≤ 12 → ∀ k : Int, 0 ≤ k → k < w 44 → q (a + c) k.toNat = if k' ≤ k ∧ k < v then σ (a + c) (k + 1).toNat else σ (a + c) k.toNat))
    (fun q => RS q a K (m_shift w k') (-1) 0 ∧ FR (fun c => a ≤ c ∧ c < a + 13) σ q)
    (fun k v q hv hp => by
      obtain ⟨p0, p1, p2, p3, p4⟩ := hp
      refine ⟨u2 (u2 (u2 (u2 q (a + 9) v.toNat (q (a + 9) (v + 1).toNat)) (a + 10) v.toNat (q (a + 10) (v + 1).toNat)) (a + 11) v.toNat (q (a + 11) (v + 1).toNat)) (a + 12) v.toNat (q (a + 12) (v + 1).toNat), ?_, by omega, (((p1.u (by omega)).u (by omega)).u (by omega)).u (by omega), fun c hc => ⟨fun e j hj => ?_, fun e => ?_⟩, ?_, fun c c0 c1 k k0 k1 => ?_⟩
      · rw [f_X7_forgetAsk_21]
        simp (disch := first | assumption | omega) only [if_true, if_false, zid, zlid, if_pos, if_neg, u2_e, u2_c, u2_i, u1_e, u1_i, Option.bind_some, p3]
      · rw [u2_c (by omega), u2_c (by omega), u2_c (by omega), u2_c (by omega)]
        exact (p2 c hc).1 e j hj
      · rw [u2_ne (by omega), u2_ne (by omega), u2_ne (by omega), u2_ne (by omega)]
        exact (p2 c hc).2 e
      · rw [u2_c (by omega), u2_c (by omega), u2_c (by omega), u2_c (by omega)]
        exact p3
      · have key : (u2 (u2 (u2 (u2 q (a + 9) v.toNat (q (a + 9) (v + 1).toNat)) (a + 10) v.toNat (q (a + 10) (v + 1).toNat)) (a + 11) v.toNat (q (a + 11) (v + 1).toNat)) (a + 12) v.toNat (q (a + 12) (v + 1).toNat)) (a + c) k.toNat = if k = v then q (a + c) (v + 1).toNat else q (a + c) k.toNat := by
          have hc4 : c = 9 ∨ c = 10 ∨ c = 11 ∨ c = 12 := by omega
          by_cases e : k = v
          · rw [if_pos e, e]
            rcases hc4 with rfl | rfl | rfl | rfl
            · rw [u2_c (by omega), u2_c (by omega), u2_c (by omega), u2_e]
            · rw [u2_c (by omega), u2_c (by omega), u2_e]
            · rw [u2_c (by omega), u2_e]
            · rw [u2_e]
          · rw [if_neg e, u2_i (by omega), u2_i (by omega), u2_i (by omega), u2_i (by omega)]
        rw [key]
        by_cases e : k = v
        · rw [if_pos e, if_pos (by omega), p4 c c0 c1 (v + 1) (by omega) (by omega), if_neg (by omega), e]
        · rw [if_neg e, p4 c c0 c1 k k0 k1]
          by_cases e2 : k' ≤ k ∧ k < v
          · rw [if_pos e2, if_pos (by omega)]
          · rw [if_neg e2, if_neg (by omega)])
    (fun k q hp => by
      obtain ⟨p0, p1, p2, p3, p4⟩ := hp
      refine ⟨q, ?_, ?_, p1⟩
      · rw [f_X7_forgetAsk_21]
        simp (disch := first | assumption | omega) only [if_true, if_false, zid, zlid, if_pos, if_neg, u2_e, u2_c, u2_i, u1_e, u1_i, Option.bind_some, p3]
      · have ho : ∀ j : Nat, j < 44 → m_shift w k' j = w j := fun j hj => by
          unfold m_shift
          rw [if_neg (by omega), if_neg (by omega)]
        have e44 : m_shift w k' 44 = w 44 - 1 := by
          unfold m_shift
          rw [if_neg (by omega), if_pos rfl]
        have pa : ∀ j, j ≠ 4 → q a j = σ a j := fun j hj => (p2 0 (by omega)).1 rfl j hj
        have pc : ∀ c : Nat, 1 ≤ c → c ≤ 8 → q (a + c) = σ (a + c) := fun c c0 c1 => (p2 c c1).2 (by omega)
        obtain ⟨⟨n0, n1, n2, n4, n3⟩, b5, b6, ht, hc, hv, hk, _⟩ := hR
        refine ⟨⟨?_, ?_, ?_, ?_, ?_⟩, ?_, ?_, fun t h0 h1 => ?_, fun c' h0 h1 => ?_, fun v h0 h1 => ?_, fun k h0 h1 => ?_, fun h0 => absurd rfl h0⟩
        · rw [pa 0 (by omega), ho 41 (by omega)]
          exact n0
        · rw [pa 1 (by omega), ho 42 (by omega)]
          exact n1
        · rw [pa 2 (by omega), ho 43 (by omega)]
          exact n2
        · rw [p3, e44, if_pos rfl]
          omega
        · rw [pa 3 (by omega)]
          exact n3
        · rw [pa 5 (by omega)]
          exact b5.congr (fun i i0 i1 => ho _ (by omega))
        · rw [pa 6 (by omega)]
          exact b6.congr (fun i i0 i1 => ho _ (by omega))
        · rw [pc 1 (by omega) (by omega), pc 2 (by omega) (by omega), pc 3 (by omega) (by omega), pc 4 (by omega) (by omega), ho _ (by omega), ho _ (by omega), ho _ (by omega), ho _ (by omega)]
          exact ht t h0 h1
        · rw [pc 5 (by omega) (by omega), pc 6 (by omega) (by omega), pc 7 (by omega) (by omega), ho _ (by omega), ho _ (by omega), ho _ (by omega)]
          exact hc c' h0 h1
        · rw [pc 8 (by omega) (by omega), ho _ (by omega)]
          exact hv v h0 h1
        · rw [e44] at h1
          rw [p4 9 (by omega) (by omega) k h0 (by omega), p4 10 (by omega) (by omega) k h0 (by omega), p4 11 (by omega) (by omega) k h0 (by omega), p4 12 (by omega) (by omega) k h0 (by omega)]
          by_cases e : k' ≤ k
          · rw [if_pos (by omega), if_pos (by omega), if_pos (by omega), if_pos (by omega)]
            have h2 := hk (k + 1) (by omega) (by omega)
            unfold m_nm at h2 ⊢
            unfold m_shift
            rw [if_pos (by omega), if_pos (by omega), if_pos (by omega), if_pos (by omega), if_pos (by omega)]
            rw [show (45 + 5 * k).toNat + 5 = (45 + 5 * (k + 1)).toNat from by omega, show (46 + 5 * k).toNat + 5 = (46 + 5 * (k + 1)).toNat from by omega, show (47 + 5 * k).toNat + 5 = (47 + 5 * (k + 1)).toNat from by omega, show (48 + 5 * k).toNat + 5 = (48 + 5 * (k + 1)).toNat from by omega, show (49 + 5 * k).toNat + 5 = (49 + 5 * (k + 1)).toNat from by omega]
            exact h2
          · rw [if_neg (by omega), if_neg (by omega), if_neg (by omega), if_neg (by omega)]
            have h2 := hk k (by omega) (by omega)
            unfold m_nm at h2 ⊢
            unfold m_shift
            rw [if_neg (by omega), if_neg (by omega), if_neg (by omega), if_neg (by omega), if_neg (by omega), if_neg (by omega), if_neg (by omega), if_neg (by omega), if_neg (by omega), if_neg (by omega)]
            exact h2) (w 44 - 1 - k').toNat 100000 k' (u2 σ a 4 (w 44 - 1)) (by omega) (by omega) ⟨Int.le_refl _, FR.refl.u (by omega), fun c hc => ⟨fun e j hj => u2_i hj, fun e => u2_ne (by omega)⟩, u2_e, fun c c0 c1 k k0 k1 => by rw [u2_c (by omega), if_neg (by omega)]⟩
  obtain ⟨σ', g1, g2, g3⟩ := hl
  refine ⟨σ', ?_, g2, g3⟩
  rw [Int.add_zero, zid (by omega) (by omega)]
  exact g1
/-- what an act of the class touches -/
def SA (a : Nat) : Nat → Nat → Prop := fun c _ => (744 ≤ c ∧ c ≤ 752) ∨ (a ≤ c ∧ c < a + 13)
set_option maxHeartbeats 4000000 in
theorem C_carryOut (hR : RS σ a K w (-1) 0) (hC : RC σ a1 K) (hK : WK K) (hS : WS K w) (hL : WL K w) (ha1 : a1 + 19 ≤ 42) (ha : 173 ≤ a) (ha2 : a + 13 ≤ 743) (hT : TS σ st what x y z who) (h : OK K w what x y z who) :
    ∃ σ', f_X0_carryOut a1 a st σ = some ((m_does K w what x y z who).1, σ') ∧ RS σ' a K (m_does K w what x y z who).2 (-1) 0 ∧ FM (SA a) σ σ' := by
  have hkn := hK.n
  have hn := hS.n
  obtain ⟨hw, h0, h1, h2, h3, h4, h6, h7⟩ := h
  obtain ⟨t0, t1, t2, t3, t4⟩ := hT
  unfold f_X0_carryOut m_does
  rw [t0]
  by_cases c0 : what = 0
  · rw [if_pos c0, if_pos c0, t1 (by omega)]
    have := h0 c0
    obtain ⟨σ', g1, g2, g3⟩ := C_passMany hR hC hK hS hL (Int.le_refl 0) ha1 ha ha2 (n := x) (by omega) (by omega) (by omega)
    refine ⟨σ', ?_, g2, g3.fm (fun c j hc => by unfold SC at hc; unfold SA; omega)⟩
    rw [g1]
    rfl
  rw [if_neg c0, if_neg c0]
  by_cases c1 : what = 1
  · rw [if_pos c1, if_pos c1, t1 (by omega), t2 (Or.inl c1)]
    obtain ⟨p0, p1, p2, p3⟩ := h1 c1
    refine ⟨_, ?_, hR.t1_u (x := y) p0 (by omega) (by omega) (by omega) (by omega), FM.refl.u (by unfold SA; omega)⟩
    unfold f_X0_putOn
    simp (disch := first | assumption | omega) only [if_true, if_false, zid, zlid, if_pos, if_neg, u2_e, u2_c, u2_i, u1_e, u1_i, Option.bind_some, C_hasTask_y hC, hR.t1]
  rw [if_neg c1, if_neg c1]
  by_cases c2 : what = 2
  · rw [if_pos c2, if_pos c2, t1 (by omega), t2 (Or.inr c2), t3 c2, t4 (Or.inl c2)]
    obtain ⟨p0, p1, p2, p3, p4, p5⟩ := h2 c2
    obtain ⟨σ', g1, g2, g3⟩ := C_tell (y := y) (z := z) hR hK hS p5 (h7 (Or.inl c2))
    refine ⟨σ', ?_, g2, g3.fm (fun c j hc => by unfold SA; omega)⟩
    rw [g1]
    rfl
  rw [if_neg c2, if_neg c2]
  by_cases c3 : what = 3
  · rw [if_pos c3, if_pos c3, t1 (by omega), t4 (Or.inr c3)]
    obtain ⟨p0, p1, p2⟩ := h3 c3
    rw [C_askOf hR hS, Option.bind_some]
    rcases m_ask_in hS (nm := who) (c := x) with q | q
    · exact absurd q p2
    · obtain ⟨σ', g1, g2, g3⟩ := C_forgetAsk hR hK hS q.1 q.2.1
      refine ⟨σ', ?_, g2, g3.fm (fun c j hc => by unfold SA; omega)⟩
      have e4 := g2.n4
      rw [g1, Option.bind_some, e4, if_pos rfl]
      unfold m_shift
      rw [if_neg (by omega), if_pos rfl, Int.add_zero]
  rw [if_neg c3, if_neg c3]
  by_cases c4 : what = 4
  · rw [if_pos c4, if_pos c4, t1 (by omega)]
    obtain ⟨p0, p1⟩ := h4 (Or.inl c4)
    have hR2 := (hR.t2_u (x := 0) p0 (by omega) (by omega) (by omega) (by omega)).b5_set (by omega) (by omega) (by omega) p0 p1
    refine ⟨_, ?_, hR2, (FM.refl.u (by unfold SA; omega)).u (by unfold SA; omega)⟩
    unfold f_X0_halt
    rw [C_hasTask_y hC p0 p1, Option.bind_some, if_neg (show ¬ (1 : Int) = 0 by omega), if_pos (by omega), if_pos (by omega), C_withBit_1 (by omega) (by omega), Option.bind_some, hR.t2 p0 p1]
    rfl
  rw [if_neg c4, if_neg c4]
  by_cases c5 : what = 5
  · rw [if_pos c5, if_pos c5, t1 (by omega)]
    obtain ⟨p0, p1⟩ := h4 (Or.inr c5)
    have hR2 := hR.b5_clr (by omega) (by omega) (by omega) p0 p1
    refine ⟨_, ?_, hR2, FM.refl.u (by unfold SA; omega)⟩
    unfold f_X0_resume
    rw [C_hasTask_y hC p0 p1, Option.bind_some, if_neg (show ¬ (1 : Int) = 0 by omega), C_withBit_0 (by omega) (by omega), Option.bind_some, u2_i (by omega), hR.n0]
    rfl
  rw [if_neg c5, if_neg c5]
  have d1 := h6 (by omega)
  obtain ⟨σ1, l1, l2, l3, l4, l5, l6⟩ := C_findBest hR hC hK hS ha1 ha ha2
  have hC1 := hC.frame (σ' := σ1) (by omega) (fun c _ _ => SF.fr l6 (by omega))
  have hR1 := hR.frame (σ' := σ1) (fun c _ _ => SF.fr l6 (by omega))
  have l3' := l3 d1
  have hset := iter_inv (X := m_setS K (m_best K w (m_shs K w)).1) (hi := K 0 1) (fun t s => 0 ≤ t ∧ (∀ i : Nat, ¬ (21 ≤ i ∧ (i : Int) < 21 + t) → s.2 i = w i) ∧ (∀ u : Int, 0 ≤ u → u < t → s.2 (21 + u).toNat = m_core K (m_best K w (m_shs K w)).1 u)) (fun t s ht hp => by
    obtain ⟨q0, q1, q2⟩ := hp
    refine ⟨by omega, fun i hi => ?_, fun u u0 u1' => ?_⟩
    · unfold m_setS
      dsimp only
      rw [u1_i (by omega)]
      exact q1 i (by omega)
    · unfold m_setS
      dsimp only
      by_cases e : u = t
      · rw [e, u1_e]
      · rw [u1_i (by omega)]
        exact q2 u u0 (by omega)) (K 0 1).toNat 0 (0, w) (by omega) ⟨by omega, fun _ _ => rfl, fun u u0 u1' => by omega⟩
  have hmv : f_X0_movedForBest a1 a σ1 = some (m_settle K w).1 := by
    have h := sim_loop (F := fun k t (q : Int) => f_X0_movedForBest_5 k a1 a q t σ1) (X := m_setS K (m_best K w (m_shs K w)).1) (hi := K 0 1) (fun t q s => 0 ≤ t ∧ q = s.1 ∧ 0 ≤ q ∧ q ≤ t ∧ (∀ u : Int, t ≤ u → u < K 0 1 → s.2 (21 + u).toNat = w (21 + u).toNat)) (fun s r => r = some s.1)
      (fun k t q s ht hq => by
        obtain ⟨p0, rfl, p2, p3, p4⟩ := hq
        have e1 := l3' t p0 ht
        have e2 := p4 t (Int.le_refl _) ht
        refine ⟨(m_setS K (m_best K w (m_shs K w)).1 t s).1, ?_, by omega, rfl, ?_, ?_, fun u u0 u1' => ?_⟩
        · rw [f_X0_movedForBest_5]
          unfold m_setS
          dsimp only
          rw [e2]
          by_cases d2 : w (21 + t).toNat = m_core K (m_best K w (m_shs K w)).1 t <;> simp (disch := first | assumption | omega) only [if_true, if_false, zid, zlid, if_pos, if_neg, u2_e, u2_c, u2_i, u1_e, u1_i, Option.bind_some, hC1.n1, hR1.t1, e1]
        · unfold m_setS
          dsimp only
          split <;> omega
        · unfold m_setS
          dsimp only
          split <;> omega
        · unfold m_setS
          dsimp only
          rw [u1_i (by omega)]
          exact p4 u (by omega) u1')
      (fun k q s hq => by
        obtain ⟨p0, rfl, p2, p3, p4⟩ := hq
        rw [f_X0_movedForBest_5]
        simp (disch := first | assumption | omega) only [if_true, if_false, zid, zlid, if_pos, if_neg, u2_e, u2_c, u2_i, u1_e, u1_i, Option.bind_some, hC1.n1]) (K 0 1).toNat 100000 0 0 (0, w) (by omega) (by omega) ⟨by omega, rfl, Int.le_refl _, Int.le_refl _, fun _ _ _ => rfl⟩
    exact h
  refine ⟨z_cpy σ1 747 (a + 1) 0 0 4, ?_, ?_, ?_⟩
  · unfold f_X0_standBest
    rw [l1, Option.bind_some]
    dsimp only
    rw [if_neg d1, if_neg (show ¬ (1 : Int) = 0 by omega), hmv]
    rfl
  · obtain ⟨s0, s1, s2⟩ := hset
    have hz : ∀ c, c ≠ a + 1 → z_cpy σ1 747 (a + 1) 0 0 4 c = σ1 c := fun c hc => z_cpy_ne hc
    have hm : (m_settle K w).2 = (iter (m_setS K (m_best K w (m_shs K w)).1) (K 0 1).toNat 0 (0, w)).2 := rfl
    rw [← hm] at s1 s2
    obtain ⟨⟨n0, n1, n2, n4, n3⟩, b5, b6, ht, hc, hv, hk, _⟩ := hR1
    refine ⟨⟨?_, ?_, ?_, ?_, ?_⟩, ?_, ?_, fun t h0 h1 => ?_, fun c' h0 h1 => ?_, fun v h0 h1 => ?_, fun k h0 h1 => ?_, fun h0 => absurd rfl h0⟩
    · rw [hz a (by omega), s1 41 (by omega)]
      exact n0
    · rw [hz a (by omega), s1 42 (by omega)]
      exact n1
    · rw [hz a (by omega), s1 43 (by omega)]
      exact n2
    · rw [hz a (by omega), s1 44 (by omega)]
      exact n4
    · rw [hz a (by omega)]
      exact n3
    · rw [hz a (by omega)]
      exact b5.congr (fun i i0 i1 => s1 _ (by omega))
    · rw [hz a (by omega)]
      exact b6.congr (fun i i0 i1 => s1 _ (by omega))
    · rw [hz (a + 2) (by omega), hz (a + 3) (by omega), hz (a + 4) (by omega), s1 (25 + t).toNat (by omega), s1 (29 + t).toNat (by omega), s1 (33 + t).toNat (by omega), s2 t h0 (by omega)]
      refine ⟨?_, (ht t h0 h1).2⟩
      unfold z_cpy
      rw [if_pos (by omega), show 0 + (t.toNat - 0) = t.toNat from by omega]
      exact l3' t h0 h1
    · rw [hz (a + 5) (by omega), hz (a + 6) (by omega), hz (a + 7) (by omega), s1 _ (by omega), s1 _ (by omega), s1 _ (by omega)]
      exact hc c' h0 h1
    · rw [hz (a + 8) (by omega), s1 _ (by omega)]
      exact hv v h0 h1
    · rw [s1 44 (by omega)] at h1
      have hh := hk k h0 h1
      unfold m_nm at hh ⊢
      rw [hz (a + 9) (by omega), hz (a + 10) (by omega), hz (a + 11) (by omega), hz (a + 12) (by omega), s1 _ (by omega), s1 _ (by omega), s1 _ (by omega), s1 _ (by omega), s1 _ (by omega)]
      exact hh
  · intro c j hc
    have hc' := hc
    unfold SA at hc'
    rw [z_cpy_ne (by omega)]
    exact l6 c j (by unfold SF; omega)
end S_ADC
