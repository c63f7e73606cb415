-- what acts do, on both sides
section S_AD
variable {σ K : Nat → Nat → Int} {a a1 st b : Nat} {w : Nat → Int} {what x y z who : Int}
/-- the act can be -/
def OK (K : Nat → Nat → Int) (w : Nat → Int) (what x y z who : Int) : Prop := (0 ≤ what ∧ what ≤ 6) ∧ (what = 0 → 1 ≤ x ∧ x ≤ 60 ∧ w 41 + x ≤ 9999) ∧ (what = 1 → 0 ≤ x ∧ x < K 0 1 ∧ 0 ≤ y ∧ y < K 0 2) ∧ (what = 2 → 0 ≤ x ∧ x < K 0 0 ∧ 0 ≤ y ∧ y ≤ z ∧ z < K 4 x.toNat ∧ (m_ask w who x = -1 → w 44 < 6)) ∧ (what = 3 → 0 ≤ x ∧ x < K 0 0 ∧ m_ask w who x ≠ -1) ∧ (what = 4 ∨ what = 5 → 0 ≤ x ∧ x < K 0 1) ∧ (what = 6 → (m_best K w (m_shs K w)).1 ≠ -1) ∧ (what = 2 ∨ what = 3 → 0 < who ∧ who < 4611686018427387904 ∧ NB who)
theorem OK.of (h : m_stops K w what x y z who = -1) (hw : 0 ≤ what ∧ what ≤ 6) (hn : what = 2 ∨ what = 3 → 0 < who ∧ who < 4611686018427387904 ∧ NB who) : OK K w what x y z who := by
  unfold m_stops at h
  have k : what = 0 ∨ what = 1 ∨ what = 2 ∨ what = 3 ∨ what = 4 ∨ what = 5 ∨ what = 6 := by omega
  refine ⟨hw, fun e => ?_, fun e => ?_, fun e => ?_, fun e => ?_, fun e => ?_, fun e => ?_, hn⟩
  · subst e
    simp only [if_true] at h
    split at h
    · split at h
      · omega
      · omega
    · omega
  · subst e
    rw [if_neg (by omega), if_pos rfl] at h
    split at h
    · omega
    · omega
  · subst e
    rw [if_neg (by omega), if_neg (by omega), if_pos rfl] at h
    split at h
    · split at h
      · split at h
        · split at h
          · omega
          · omega
        · rename_i e1 e2 e3
          exact ⟨e1.1, e1.2, e2.1, e2.2.1, e2.2.2, fun q => absurd q e3⟩
      · omega
    · omega
  · subst e
    rw [if_neg (by omega), if_neg (by omega), if_neg (by omega), if_pos rfl] at h
    split at h
    · split at h
      · omega
      · rename_i e1 e2
        exact ⟨e1.1, e1.2, e2⟩
    · omega
  · rcases e with e | e
    · subst e
      rw [if_neg (by omega), if_neg (by omega), if_neg (by omega), if_neg (by omega), if_pos rfl] at h
      split at h
      · omega
      · omega
    · subst e
      rw [if_neg (by omega), if_neg (by omega), if_neg (by omega), if_neg (by omega), if_neg (by omega), if_pos rfl] at h
      split at h
      · omega
      · omega
  · subst e
    rw [if_neg (by omega), if_neg (by omega), if_neg (by omega), if_neg (by omega), if_neg (by omega), if_neg (by omega)] at h
    split at h
    · omega
    · rename_i e1
      exact e1
theorem m_tellA_e {j : Nat} (h44 : 0 ≤ w 44) (h1 : j ≠ 44) (h : ¬ (45 + 5 * w 44 ≤ (j : Int) ∧ (j : Int) < 50 + 5 * w 44)) : m_tellA w who x y z j = w j := by
  unfold m_tellA
  rw [u1_i (by omega), u1_i (by omega), u1_i (by omega), u1_i (by omega), u1_i (by omega), u1_i (by omega)]
theorem m_tellA_nm (h44 : 0 ≤ w 44) (hw : 0 < who ∧ who < 4611686018427387904 ∧ NB who) : m_tellA w who x y z 44 = w 44 + 1 ∧ m_nm (m_tellA w who x y z) (w 44) = who ∧ m_tellA w who x y z (47 + 5 * w 44).toNat = x ∧ m_tellA w who x y z (48 + 5 * w 44).toNat = y ∧ m_tellA w who x y z (49 + 5 * w 44).toNat = z ∧ (∀ k : Int, 0 ≤ k → k < w 44 → m_nm (m_tellA w who x y z) k = m_nm w k) := by
  unfold m_nm m_tellA
  refine ⟨?_, ?_, ?_, ?_, ?_, fun k k0 k1 => ?_⟩
  · simp (disch := first | assumption | omega) only [if_true, if_false, zid, zlid, if_pos, if_neg, u2_e, u2_c, u2_i, u1_e, u1_i, Option.bind_some]
  · simp (disch := first | assumption | omega) only [if_true, if_false, zid, zlid, if_pos, if_neg, u2_e, u2_c, u2_i, u1_e, u1_i, Option.bind_some]
    exact nm_of (by omega) hw.2.1
  · simp (disch := first | assumption | omega) only [if_true, if_false, zid, zlid, if_pos, if_neg, u2_e, u2_c, u2_i, u1_e, u1_i, Option.bind_some]
  · simp (disch := first | assumption | omega) only [if_true, if_false, zid, zlid, if_pos, if_neg, u2_e, u2_c, u2_i, u1_e, u1_i, Option.bind_some]
  · simp (disch := first | assumption | omega) only [if_true, if_false, zid, zlid, if_pos, if_neg, u2_e, u2_c, u2_i, u1_e, u1_i, Option.bind_some]
  · simp (disch := first | assumption | omega) only [if_true, if_false, zid, zlid, if_pos, if_neg, u2_e, u2_c, u2_i, u1_e, u1_i, Option.bind_some]
theorem m_does_in (hK : WK K) (hS : WS K w) (hL : WL K w) (h : OK K w what x y z who) : WS K (m_does K w what x y z who).2 ∧ WL K (m_does K w what x y z who).2 := by
  have hkn := hK.n
  have hn := hS.n
  obtain ⟨hw, h0, h1, h2, h3, h4, h6, h7⟩ := h
  unfold m_does
  by_cases c0 : what = 0
  · rw [if_pos c0]
    have := h0 c0
    have ht := m_ticks_in (tr := -1) (th := 0) hK hS hL (Int.le_refl 0) x.toNat (by omega)
    exact ⟨ht.1, ht.2.1⟩
  rw [if_neg c0]
  by_cases c1 : what = 1
  · rw [if_pos c1]
    obtain ⟨p0, p1, p2, p3⟩ := h1 c1
    refine ⟨hS.u_on hK p0 p1 p2 p3, fun t t0 t1 => ?_⟩
    dsimp only
    rw [u1_i (by omega), u1_i (by omega)]
    exact hL t t0 t1
  rw [if_neg c1]
  by_cases c2 : what = 2
  · rw [if_pos c2]
    obtain ⟨p0, p1, p2, p3, p4, p5⟩ := h2 c2
    have p7 := h7 (Or.inl c2)
    unfold m_tell
    by_cases d : m_ask w who x = -1
    · rw [if_pos d]
      dsimp only
      have p6 := p5 d
      have ho : ∀ j : Nat, j < 44 → m_tellA w who x y z j = w j := fun j hj => m_tellA_e (by omega) (by omega) (by omega)
      obtain ⟨n1, n2, n3, n4, n5, n6⟩ := m_tellA_nm (x := x) (y := y) (z := z) (w := w) (by omega) p7
      obtain ⟨hc, hv, ht, hl, hm, hk⟩ := hS
      refine ⟨⟨fun c c0 c1 => ?_, fun v v0 v1 => ?_, fun t t0 t1 => ?_, fun t t0 t1 => ?_, ?_, fun k k0 k1 => ?_⟩, fun t t0 t1 => ?_⟩
      · rw [ho _ (by omega), ho _ (by omega)]
        exact hc c c0 c1
      · rw [ho _ (by omega)]
        exact hv v v0 v1
      · rw [ho _ (by omega), ho _ (by omega), ho _ (by omega), ho _ (by omega), ho _ (by omega)]
        exact ht t t0 t1
      · rw [ho _ (by omega)]
        exact hl t t0 t1
      · rw [n1, ho 41 (by omega)]
        omega
      · rw [n1] at k1
        by_cases e : k = w 44
        · rw [e, n2, n3, n4, n5]
          exact ⟨p0, p1, p2, p3, p4, by omega, (h7 (Or.inl c2)).2.2⟩
        · rw [n6 k k0 (by omega), m_tellA_e (by omega) (by omega) (by omega), m_tellA_e (by omega) (by omega) (by omega), m_tellA_e (by omega) (by omega) (by omega)]
          exact hk k k0 (by omega)
      · rw [ho _ (by omega), ho 41 (by omega)]
        exact hL t t0 t1
    · rw [if_neg d]
      dsimp only
      rcases m_ask_in hS (nm := who) (c := x) with q | q
      · exact absurd q d
      · obtain ⟨q0, q1, q2, q3⟩ := q
        generalize m_ask w who x = k' at q0 q1 q2 q3
        obtain ⟨hc, hv, ht, hl, hm, hk⟩ := hS
        refine ⟨⟨fun c c0 c1 => ?_, fun v v0 v1 => ?_, fun t t0 t1 => ?_, fun t t0 t1 => ?_, ?_, fun k k0 k1 => ?_⟩, fun t t0 t1 => ?_⟩
        · simp (disch := first | assumption | omega) only [if_true, if_false, zid, zlid, if_pos, if_neg, u2_e, u2_c, u2_i, u1_e, u1_i, Option.bind_some]
          exact hc c c0 c1
        · simp (disch := first | assumption | omega) only [if_true, if_false, zid, zlid, if_pos, if_neg, u2_e, u2_c, u2_i, u1_e, u1_i, Option.bind_some]
          exact hv v v0 v1
        · simp (disch := first | assumption | omega) only [if_true, if_false, zid, zlid, if_pos, if_neg, u2_e, u2_c, u2_i, u1_e, u1_i, Option.bind_some]
          exact ht t t0 t1
        · simp (disch := first | assumption | omega) only [if_true, if_false, zid, zlid, if_pos, if_neg, u2_e, u2_c, u2_i, u1_e, u1_i, Option.bind_some]
          exact hl t t0 t1
        · simp (disch := first | assumption | omega) only [if_true, if_false, zid, zlid, if_pos, if_neg, u2_e, u2_c, u2_i, u1_e, u1_i, Option.bind_some]
          exact hm
        · rw [u1_i (by omega), u1_i (by omega)] at k1
          have hh := hk k k0 k1
          unfold m_nm at hh ⊢
          by_cases e : k = k'
          · subst e
            rw [q3] at hh
            simp (disch := first | assumption | omega) only [if_true, if_false, zid, zlid, if_pos, if_neg, u2_e, u2_c, u2_i, u1_e, u1_i, Option.bind_some]
            rw [q3]
            exact ⟨hh.1, hh.2.1, p2, p3, p4, hh.2.2.2.2.2⟩
          · simp (disch := first | assumption | omega) only [if_true, if_false, zid, zlid, if_pos, if_neg, u2_e, u2_c, u2_i, u1_e, u1_i, Option.bind_some]
            exact hh
        · simp (disch := first | assumption | omega) only [if_true, if_false, zid, zlid, if_pos, if_neg, u2_e, u2_c, u2_i, u1_e, u1_i, Option.bind_some]
          exact hL t t0 t1
  rw [if_neg c2]
  by_cases c3 : what = 3
  · rw [if_pos c3]
    obtain ⟨p0, p1, p2⟩ := h3 c3
    dsimp only
    rcases m_ask_in hS (nm := who) (c := x) with q | q
    · exact absurd q p2
    · obtain ⟨q0, q1, q2, q3⟩ := q
      generalize m_ask w who x = k' at q0 q1 q2 q3
      have ho : ∀ j : Nat, j < 44 → m_shift w k' j = w j := fun j hj => by
        unfold m_shift
        rw [if_neg (by omega), if_neg (by omega)]
      have e44 : m_shift w k' 44 = w 44 - 1 := by
        unfold m_shift
        rw [if_neg (by omega), if_pos rfl]
      obtain ⟨hc, hv, ht, hl, hm, hk⟩ := hS
      refine ⟨⟨fun c c0 c1 => ?_, fun v v0 v1 => ?_, fun t t0 t1 => ?_, fun t t0 t1 => ?_, ?_, fun k k0 k1 => ?_⟩, fun t t0 t1 => ?_⟩
      · rw [ho _ (by omega), ho _ (by omega)]
        exact hc c c0 c1
      · rw [ho _ (by omega)]
        exact hv v v0 v1
      · rw [ho _ (by omega), ho _ (by omega), ho _ (by omega), ho _ (by omega), ho _ (by omega)]
        exact ht t t0 t1
      · rw [ho _ (by omega)]
        exact hl t t0 t1
      · rw [e44, ho 41 (by omega)]
        omega
      · rw [e44] at k1
        unfold m_nm m_shift
        by_cases e : k < k'
        · rw [if_neg (by omega), if_neg (by omega), if_neg (by omega), if_neg (by omega), if_neg (by omega), if_neg (by omega), if_neg (by omega), if_neg (by omega), if_neg (by omega), if_neg (by omega)]
          exact hk k k0 (by omega)
        · rw [if_pos (by omega), if_pos (by omega), if_pos (by omega), if_pos (by omega), if_pos (by omega)]
          have hh := hk (k + 1) (by omega) (by omega)
          unfold m_nm at hh
          rw [show (45 + 5 * k).toNat + 5 = (45 + 5 * (k + 1)).toNat from by omega, show (46 + 5 * k).toNat + 5 = (46 + 5 * (k + 1)).toNat from by omega, show (47 + 5 * k).toNat + 5 = (47 + 5 * (k + 1)).toNat from by omega, show (48 + 5 * k).toNat + 5 = (48 + 5 * (k + 1)).toNat from by omega, show (49 + 5 * k).toNat + 5 = (49 + 5 * (k + 1)).toNat from by omega]
          exact hh
      · rw [ho _ (by omega), ho 41 (by omega)]
        exact hL t t0 t1
  rw [if_neg c3]
  by_cases c4 : what = 4
  · rw [if_pos c4]
    obtain ⟨p0, p1⟩ := h4 (Or.inl c4)
    refine ⟨(hS.u_rest hK p0 p1 (Int.le_refl 0) (by omega)).u_stop hK p0 p1 (Or.inr rfl), fun t t0 t1 => ?_⟩
    dsimp only
    rw [u1_i (by omega), u1_i (by omega), u1_i (by omega), u1_i (by omega)]
    exact hL t t0 t1
  rw [if_neg c4]
  by_cases c5 : what = 5
  · rw [if_pos c5]
    obtain ⟨p0, p1⟩ := h4 (Or.inr c5)
    refine ⟨hS.u_stop hK p0 p1 (Or.inl rfl), fun t t0 t1 => ?_⟩
    dsimp only
    rw [u1_i (by omega), u1_i (by omega)]
    exact hL t t0 t1
  rw [if_neg c5]
  unfold m_settle
  have h := iter_inv (X := m_setS K (m_best K w (m_shs K w)).1) (hi := K 0 1) (fun t s => 0 ≤ t ∧ WS K s.2 ∧ WL K s.2) (fun t s ht hp => by
    obtain ⟨q0, q1, q2⟩ := hp
    have hc := m_core_in hK (n := (m_best K w (m_shs K w)).1) (t := t)
    refine ⟨by omega, q1.u_on hK q0 ht hc.1 hc.2, fun u u0 u1' => ?_⟩
    unfold m_setS
    dsimp only
    rw [u1_i (by omega), u1_i (by omega)]
    exact q2 u u0 u1') (K 0 1).toNat 0 (0, w) (by omega) ⟨by omega, hS, hL⟩
  exact h.2
theorem m_choose_th {th c : Int} (hc : 0 ≤ c) : m_choose K (-1) th c w = m_choose K (-1) 0 c w := by
  have e : ∀ w', m_ch2 K (-1) th c w' = m_ch2 K (-1) 0 c w' := fun w' => by
    unfold m_ch2 m_bounded m_high
    rw [if_neg (by omega), if_neg (by omega)]
  unfold m_choose
  rw [e]
theorem m_tick_th {th : Int} : m_tick K (-1) th w = m_tick K (-1) 0 w := by
  have : ∀ (n : Nat) (c : Int) (x : Nat → Int), 0 ≤ c → iter (fun c w => m_choose K (-1) th c w) n c x = iter (fun c w => m_choose K (-1) 0 c w) n c x := by
    intro n
    induction n with
    | zero => intro c x _; rfl
    | succ n ih =>
      intro c x hc
      show iter _ n (c + 1) (m_choose K (-1) th c x) = iter _ n (c + 1) (m_choose K (-1) 0 c x)
      rw [m_choose_th hc]
      exact ih (c + 1) _ (by omega)
  unfold m_tick
  dsimp only
  rw [this _ _ _ (Int.le_refl 0)]
theorem m_ticks_th {th : Int} {n : Nat} : m_ticks K (-1) th n w = m_ticks K (-1) 0 n w := by
  have : m_ticksS K (-1) th = m_ticksS K (-1) 0 := by
    funext s
    unfold m_ticksS
    rw [m_tick_th]
  unfold m_ticks
  rw [this]
/-- what an act of the reference touches -/
def SD (b : Nat) : Nat → Nat → Prop := fun c j => c = b ∨ (780 ≤ c ∧ c ≤ 783) ∨ (c = 758 ∧ (j = 42 ∨ j = 47))
theorem SD.nm (hb : 776 ≤ b) : NM (SD b) := fun c j h => by unfold SD at h; omega
set_option maxHeartbeats 4000000 in
theorem R_does (hM : RM σ K) (hK : WK K) (hS : WS K (σ b)) (hL : WL K (σ b)) (hb : 776 ≤ b) (hb2 : b < 780) (h38 : σ 758 38 = -1) (h39 : 0 ≤ σ 758 39) (hwho : σ 758 41 = who) (h : OK K (σ b) what x y z who) : ∃ σ', f_X12_does b what x y z σ = some σ' ∧ σ' b = (m_does K (σ b) what x y z who).2 ∧ σ' 758 42 = (m_does K (σ b) what x y z who).1 ∧ FM (SD b) σ σ' := by
  have hkn := hK.n
  have hn := hS.n
  obtain ⟨hw, h0, h1, h2, h3, h4, h6, h7⟩ := h
  unfold f_X12_does m_does
  by_cases c0 : what = 0
  · rw [if_pos c0, if_pos c0]
    have := h0 c0
    have hMu := hM.frame (σ' := u2 σ 758 42 0) (fun c hc => u2_ne (by omega)) (fun j hj => u2_i (by omega))
    have eb : u2 σ 758 42 0 b = σ b := u2_ne (by omega)
    obtain ⟨σ', g1, g2, g3, g4⟩ := R_does_48 (σ := u2 σ 758 42 0) (b := b) (tr := -1) (th := σ 758 39) (n := x) hMu hK hb hb2 (by rw [eb]; exact hS) (by rw [eb]; exact hL) (by rw [u2_i (by omega)]; exact h38) (by rw [u2_i (by omega)]) h39 (by omega) (by rw [eb]; omega) (by rw [eb]; omega) u2_e
    rw [eb, m_ticks_th] at g2 g3
    exact ⟨σ', g1, g2, g3, (FM.refl.u (by unfold SD; omega)).trans (g4.mono (fun c j hc => by unfold ST at hc; unfold SD; omega))⟩
  rw [if_neg c0, if_neg c0]
  by_cases c1 : what = 1
  · rw [if_pos c1, if_pos c1]
    obtain ⟨p0, p1, p2, p3⟩ := h1 c1
    refine ⟨u2 (u2 σ 758 42 (σ b (21 + x).toNat)) b (21 + x).toNat y, ?_, ?_, ?_, (FM.refl.u (by unfold SD; omega)).u (by unfold SD; omega)⟩
    · simp (disch := first | assumption | omega) only [if_true, if_false, zid, zlid, if_pos, if_neg, u2_e, u2_c, u2_i, u1_e, u1_i, Option.bind_some]
    · rw [u2_row, u2_ne (by omega)]
    · rw [u2_c (by omega), u2_e]
  rw [if_neg c1, if_neg c1]
  by_cases c2 : what = 2
  · rw [if_pos c2, if_pos c2]
    obtain ⟨p0, p1, p2, p3, p4, p5⟩ := h2 c2
    unfold f_X12_asksAs m_tell
    rw [R_askOf hS, hwho, Option.bind_some]
    by_cases d : m_ask (σ b) who x = -1
    · rw [if_pos d, if_pos d]
      have p6 := p5 d
      refine ⟨u2 (u2 (u2 (u2 (u2 (u2 (u2 σ b 44 (σ b 44 + 1)) b (45 + 5 * σ b 44).toNat (z_w (z_shrL who 32))) b (46 + 5 * σ b 44).toNat (z_w who)) b (47 + 5 * σ b 44).toNat x) b (48 + 5 * σ b 44).toNat y) b (49 + 5 * σ b 44).toNat z) 758 42 (σ b 44), ?_, ?_, u2_e, ?_⟩
      · unfold f_X12_asksAs_72
        have e41 : ∀ q : Nat → Nat → Int, ∀ i v, u2 q b i v 758 41 = q 758 41 := fun q i v => u2_c (by omega)
        simp (disch := first | assumption | omega) only [if_true, if_false, zid, zlid, if_pos, if_neg, u2_e, u2_c, u2_i, u1_e, u1_i, Option.bind_some, e41, hwho]
      · rw [u2_ne (by omega), u2_row, u2_row, u2_row, u2_row, u2_row, u2_row]
        rfl
      · exact ((((((FM.refl.u (by unfold SD; omega)).u (by unfold SD; omega)).u (by unfold SD; omega)).u (by unfold SD; omega)).u (by unfold SD; omega)).u (by unfold SD; omega)).u (by unfold SD; omega)
    · rw [if_neg d, if_neg d]
      rcases m_ask_in hS (nm := who) (c := x) with q | q
      · exact absurd q d
      · refine ⟨u2 (u2 (u2 σ b (48 + 5 * m_ask (σ b) who x).toNat y) b (49 + 5 * m_ask (σ b) who x).toNat z) 758 42 (m_ask (σ b) who x), ?_, ?_, u2_e, ((FM.refl.u (by unfold SD; omega)).u (by unfold SD; omega)).u (by unfold SD; omega)⟩
        · unfold f_X12_asksAs_72
          simp (disch := first | assumption | omega) only [if_true, if_false, zid, zlid, if_pos, if_neg, u2_e, u2_c, u2_i, u1_e, u1_i, Option.bind_some]
        · rw [u2_ne (by omega), u2_row, u2_row]
  rw [if_neg c2, if_neg c2]
  by_cases c3 : what = 3
  · rw [if_pos c3, if_pos c3]
    obtain ⟨p0, p1, p2⟩ := h3 c3
    rw [R_askOf hS, hwho, Option.bind_some]
    rcases m_ask_in hS (nm := who) (c := x) with q | q
    · exact absurd q p2
    · obtain ⟨q0, q1, q2, q3⟩ := q
      generalize m_ask (σ b) who x = k' at q0 q1 q2 q3
      have hl := hoare_loop (F := fun k v (s : Nat → Int) => f_X12_does_124 k b v (setR σ b s)) (hi := 5 * (σ b 44 - 1)) (fun v s => 5 * k' ≤ v ∧ s = fun (j : Nat) => if 45 + 5 * k' ≤ (j : Int) ∧ (j : Int) < 45 + v then σ b (j + 5) else σ b j)
        (fun σ' => σ' = u2 (setR σ b (m_shift (σ b) k')) 758 42 (σ b 44 - 1))
        (fun k v s hv hq => by
          obtain ⟨r0, rfl⟩ := hq
          refine ⟨fun (j : Nat) => if 45 + 5 * k' ≤ (j : Int) ∧ (j : Int) < 45 + (v + 1) then σ b (j + 5) else σ b j, ?_, by omega, rfl⟩
          have e1 : u2 (setR σ b (fun (j : Nat) => if 45 + 5 * k' ≤ (j : Int) ∧ (j : Int) < 45 + v then σ b (j + 5) else σ b j)) b (45 + v).toNat (σ b (50 + v).toNat) = setR σ b (fun (j : Nat) => if 45 + 5 * k' ≤ (j : Int) ∧ (j : Int) < 45 + (v + 1) then σ b (j + 5) else σ b j) := by
            rw [setR_u]
            congr 1
            funext j
            unfold u1
            by_cases c : j = (45 + v).toNat
            · rw [if_pos c, if_pos (by omega), show j + 5 = (50 + v).toNat from by omega]
            · rw [if_neg c]
              dsimp only
              by_cases c' : 45 + 5 * k' ≤ (j : Int) ∧ (j : Int) < 45 + v
              · rw [if_pos c', if_pos (by omega)]
              · rw [if_neg c', if_neg (by omega)]
          rw [f_X12_does_124]
          simp (disch := first | assumption | omega) only [if_true, if_false, zid, zlid, if_pos, if_neg, u2_e, u2_c, u2_i, u1_e, u1_i, Option.bind_some, setR_s, e1])
        (fun k s hq => by
          obtain ⟨r0, rfl⟩ := hq
          refine ⟨_, ?_, rfl⟩
          have e1 : u2 (setR σ b (fun (j : Nat) => if 45 + 5 * k' ≤ (j : Int) ∧ (j : Int) < 45 + 5 * (σ b 44 - 1) then σ b (j + 5) else σ b j)) b 44 (σ b 44 - 1) = setR σ b (m_shift (σ b) k') := by
            rw [setR_u]
            congr 1
            funext j
            unfold u1 m_shift
            by_cases c : j = 44
            · rw [if_pos c, if_neg (by omega), if_pos c]
            · rw [if_neg c]
              dsimp only
              by_cases c' : 45 + 5 * k' ≤ (j : Int) ∧ (j : Int) < 45 + 5 * (σ b 44 - 1)
              · rw [if_pos c', if_pos c']
              · rw [if_neg c', if_neg c', if_neg c]
          have e2 : m_shift (σ b) k' 44 = σ b 44 - 1 := by
            unfold m_shift
            rw [if_neg (by omega), if_pos rfl]
          rw [f_X12_does_124]
          simp (disch := first | assumption | omega) only [if_true, if_false, zid, zlid, if_pos, if_neg, u2_e, u2_c, u2_i, u1_e, u1_i, Option.bind_some, setR_s, e1, e2]) (5 * (σ b 44 - 1) - 5 * k').toNat 100000 (5 * k') (σ b) (by omega) (by omega) ⟨Int.le_refl _, by
          funext j
          rw [if_neg (by omega)]⟩
      obtain ⟨σ', g1, g2⟩ := hl
      rw [setR_id] at g1
      have g1' : f_X12_does_124 100000 b (5 * k') σ = some σ' := g1
      refine ⟨σ', ?_, ?_, ?_, ?_⟩
      · rw [zid (by omega) (by omega)]
        exact g1'
      · rw [g2, u2_ne (by omega), setR_s]
      · rw [g2, u2_e]
      · rw [g2]
        exact (FM.refl.r (fun j => by unfold SD; omega)).u (by unfold SD; omega)
  rw [if_neg c3, if_neg c3]
  by_cases c4 : what = 4
  · rw [if_pos c4, if_pos c4]
    obtain ⟨p0, p1⟩ := h4 (Or.inl c4)
    refine ⟨u2 (u2 (u2 σ 758 42 (σ b (25 + x).toNat)) b (25 + x).toNat 0) b (37 + x).toNat 1, ?_, ?_, ?_, ((FM.refl.u (by unfold SD; omega)).u (by unfold SD; omega)).u (by unfold SD; omega)⟩
    · simp (disch := first | assumption | omega) only [if_true, if_false, zid, zlid, if_pos, if_neg, u2_e, u2_c, u2_i, u1_e, u1_i, Option.bind_some]
    · rw [u2_row, u2_row, u2_ne (by omega)]
    · rw [u2_c (by omega), u2_c (by omega), u2_e]
  rw [if_neg c4, if_neg c4]
  by_cases c5 : what = 5
  · rw [if_pos c5, if_pos c5]
    obtain ⟨p0, p1⟩ := h4 (Or.inr c5)
    refine ⟨u2 (u2 σ b (37 + x).toNat 0) 758 42 (σ b 41), ?_, ?_, u2_e, (FM.refl.u (by unfold SD; omega)).u (by unfold SD; omega)⟩
    · simp (disch := first | assumption | omega) only [if_true, if_false, zid, zlid, if_pos, if_neg, u2_e, u2_c, u2_i, u1_e, u1_i, Option.bind_some]
    · rw [u2_ne (by omega), u2_row]
  rw [if_neg c5, if_neg c5]
  have d1 := h6 (by omega)
  obtain ⟨σ1, g1, g2, g3⟩ := R_laysShares hM hK hS hb hb2
  have hM1 := hM.fm g3 (fun c j hj => by omega)
  have ew : σ1 b = σ b := funext fun j => g3 b j (by omega)
  obtain ⟨σ2, k1, k2, k3⟩ := R_bestWay (b := b) hM1 hK (by rw [ew]; exact hS) hb hb2 (by rw [g3 758 38 (by omega)]; exact h38) g2
  rw [ew] at k1 k2
  have hM2 := hM1.fm k3 (fun c j hj => by omega)
  have ew2 : σ2 b = σ b := (funext fun j => k3 b j (by omega) : σ2 b = σ1 b).trans ew
  have hf2 : FM (SD b) σ σ2 := (g3.mono (fun c j hc => by unfold SD; omega)).trans (k3.mono (fun c j hc => by unfold SD; omega))
  have hbr : 0 ≤ (m_best K (σ b) (m_shs K (σ b))).1 ∧ (m_best K (σ b) (m_shs K (σ b))).1 < m_pow K := by
    have hpw := m_pow_in hK
    rcases m_best_in hK hS (m_shs_in (w := σ b) hK) (m_pow K).toNat with q | q
    · exact absurd q.1 d1
    · have := q.2.1
      unfold m_best at d1 ⊢
      omega
  have hpw := m_pow_in hK
  have hl := sim_loop (F := fun k t (q : Nat → Nat → Int) => f_X12_settles_18 k b (m_best K (σ b) (m_shs K (σ b))).1 t q) (X := m_setS K (m_best K (σ b) (m_shs K (σ b))).1) (hi := K 0 1)
    (fun t q s => 0 ≤ t ∧ q 758 42 = s.1 ∧ q b = s.2 ∧ FM (SD b) σ q ∧ 0 ≤ s.1 ∧ s.1 ≤ t)
    (fun s r => ∃ σ', r = some σ' ∧ σ' b = s.2 ∧ σ' 758 42 = s.1 ∧ FM (SD b) σ σ')
    (fun k t q s ht hq => by
      obtain ⟨p0, p1, p2, p3, p4, p5⟩ := hq
      have hMq := hM.fm p3 (SD.nm hb)
      have hc := m_core_in hK (n := (m_best K (σ b) (m_shs K (σ b))).1) (t := t)
      refine ⟨u2 (u2 q 758 42 (s.1 + (if s.2 (21 + t).toNat = m_core K (m_best K (σ b) (m_shs K (σ b))).1 t then 0 else 1))) b (21 + t).toNat (m_core K (m_best K (σ b) (m_shs K (σ b))).1 t), ?_, by omega, ?_, ?_, (p3.u (by unfold SD; omega)).u (by unfold SD; omega), ?_⟩
      · rw [f_X12_settles_18]
        unfold f_X12_settles_55
        by_cases d2 : s.2 (21 + t).toNat = m_core K (m_best K (σ b) (m_shs K (σ b))).1 t <;> simp (disch := first | assumption | omega) only [if_true, if_false, zid, zlid, if_pos, if_neg, u2_e, u2_c, u2_i, u1_e, u1_i, Option.bind_some, hMq.n1, R_coreIn hMq hK, p1, p2]
      · rw [u2_c (by omega), u2_e]
        rfl
      · rw [u2_row, u2_ne (by omega), p2]
        rfl
      · unfold m_setS
        dsimp only
        constructor <;> split <;> omega)
    (fun k q s hq => by
      obtain ⟨p0, p1, p2, p3, p4, p5⟩ := hq
      have hMq := hM.fm p3 (SD.nm hb)
      refine ⟨q, ?_, p2, p1, p3⟩
      rw [f_X12_settles_18]
      simp (disch := first | assumption | omega) only [if_true, if_false, zid, zlid, if_pos, if_neg, u2_e, u2_c, u2_i, u1_e, u1_i, Option.bind_some, hMq.n1]) (K 0 1).toNat 100000 0 (u2 σ2 758 42 0) (0, σ b) (by omega) (by omega) ⟨by omega, u2_e, by rw [u2_ne (by omega)]; exact ew2, hf2.u (by unfold SD; omega), Int.le_refl _, Int.le_refl _⟩
  obtain ⟨σ', n1, n2, n3, n4⟩ := hl
  refine ⟨σ', ?_, n2, n3, n4⟩
  unfold f_X12_settles
  rw [g1, Option.bind_some, k1, Option.bind_some]
  dsimp only
  rw [n1]
  rfl
end S_AD
