-- bounds, steps, all, counts; both sides
def SQ3 : Nat → Nat → Prop := fun c j => SQ2 c j ∨ (c = 758 ∧ (j = 38 ∨ j = 39))
def m_bndL (K : Nat → Nat → Int) (w : Nat → Int) (c n : Int) : Nat → Int → Int
  | 0, _ => -1
  | m + 1, h => if m_lat (m_ticks K c h n.toNat w).2 = m_lat w then h else m_bndL K w c n m (h + 1)
section S_Q6
variable {σ K : Nat → Nat → Int} {w w0 : Nat → Int} {a a1 a2 b : Nat} {v1 v2 v3 v4 tr th : Int}
theorem PQ.trial (h : PQ σ K) {c z : Int} (hc : c ≠ -1) : ∃ τ, (f_X7_copyFrom 186 173 σ).bind (fun q14 => f_X7_tell 186 0 c 0 z q14) = some (σ 776 44, τ) ∧ RS τ 186 K (σ 776) c z ∧ FM SQ1 σ τ := by
  obtain ⟨h0, hC, hR, hM, hK, hS, hL, h38, h39⟩ := h
  obtain ⟨τ, c1, c2, c3⟩ := C_copyFrom (d := 186) hK hR hS (by omega)
  obtain ⟨τ2, d1, d2, d3⟩ := C_tell_x (z := z) c2 hK hS hc
  exact ⟨τ2, by rw [c1, Option.bind_some, d1], d2, (c3.fm (fun c j hc => by unfold SQ1; omega)).trans (d3.fm (fun c j hc => by unfold SQ1; omega))⟩
set_option maxHeartbeats 1000000 in
theorem C_bnd (h : PQ σ K) (c0 : 0 ≤ v1) (c1 : v1 < K 0 0) (n0 : 1 ≤ v2) (hn : σ 776 41 + v2 ≤ 9999) : ∀ (m k : Nat) (z : Int) (τ : Nat → Nat → Int), FM SQ1 σ τ → 0 ≤ z → z + m = K 4 v1.toNat → m < k → ∃ σ', f_X11_bound_41 k v1 v2 z τ = some (m_bndL K (σ 776) v1 v2 m z, σ') ∧ FM SQ1 σ σ' := by
  obtain ⟨h0, hC, hR, hM, hK, hS, hL, h38, h39⟩ := h
  have ha := ax_a h0
  have hkn := hK.n
  have hnn := hS.n
  have hkc := hK.c c0 c1
  intro m
  induction m with
  | zero =>
    intro k z τ hf z0 hz hk
    obtain ⟨k, rfl⟩ : ∃ j, k = j + 1 := ⟨k - 1, by omega⟩
    have gc : ∀ c, ¬ ((186 ≤ c ∧ c < 199) ∨ (744 ≤ c ∧ c ≤ 756)) → τ c = σ c := fun c hc => funext fun j => hf c j (by unfold SQ1; omega)
    have e0 : (τ 0 2).toNat = (σ 0 2).toNat := by rw [gc 0 (by omega)]
    have hCt := hC.frame (σ' := τ) (by omega) (fun c _ _ => gc c (by omega))
    refine ⟨τ, ?_, hf⟩
    rw [f_X11_bound_41, e0, if_pos h0, if_pos (by omega), hCt.c5 c0 c1, if_pos (by omega)]
    rfl
  | succ m ih =>
    intro k z τ hf z0 hz hk
    obtain ⟨k, rfl⟩ : ∃ j, k = j + 1 := ⟨k - 1, by omega⟩
    have gc : ∀ c, ¬ ((186 ≤ c ∧ c < 199) ∨ (744 ≤ c ∧ c ≤ 756)) → τ c = σ c := fun c hc => funext fun j => hf c j (by unfold SQ1; omega)
    have e0 : (τ 0 2).toNat = (σ 0 2).toNat := by rw [gc 0 (by omega)]
    have hCt := hC.frame (σ' := τ) (by omega) (fun c _ _ => gc c (by omega))
    have hRt := hR.frame (σ' := τ) (fun c _ _ => gc c (by omega))
    obtain ⟨τ1, p1, p2, p3⟩ := C_copyFrom (d := 186) hK hRt hS (by omega)
    obtain ⟨τ2, d1, d2, d3⟩ := C_tell_x (z := z) p2 hK hS (show v1 ≠ -1 by omega)
    have hf2 : FM SQ1 σ τ2 := (hf.trans (p3.fm (fun c j hc => by unfold SQ1; omega))).trans (d3.fm (fun c j hc => by unfold SQ1; omega))
    have gc2 : ∀ c, ¬ ((186 ≤ c ∧ c < 199) ∨ (744 ≤ c ∧ c ≤ 756)) → τ2 c = σ c := fun c hc => funext fun j => hf2 c j (by unfold SQ1; omega)
    have e2 : (τ2 0 2).toNat = (σ 0 2).toNat := by rw [gc2 0 (by omega)]
    obtain ⟨τ3, g1, g2, g3⟩ := C_passMany (a1 := (σ 0 2).toNat) (n := v2) d2 (hC.frame (σ' := τ2) (by omega) (fun c _ _ => gc2 c (by omega))) hK hS hL z0 (by omega) (by omega) (by omega) (by omega) hn hnn.1
    have hf3 : FM SQ1 σ τ3 := hf2.trans (g3.fm (fun c j hc => by unfold SC at hc; unfold SQ1; omega))
    have gc3 : ∀ c, ¬ ((186 ≤ c ∧ c < 199) ∨ (744 ≤ c ∧ c ≤ 756)) → τ3 c = σ c := fun c hc => funext fun j => hf3 c j (by unfold SQ1; omega)
    have e3 : (τ3 0 2).toNat = (σ 0 2).toNat := by rw [gc3 0 (by omega)]
    have i1 := m_ticks_in hK hS hL (tr := v1) z0 v2.toNat (by omega)
    have hle := lat_eq hK i1.1 hS i1.2.2.2.2
    have hnl := C_noLater g2 (hR.frame (σ' := τ3) (fun c _ _ => gc3 c (by omega))) (hC.frame (σ' := τ3) (by omega) (fun c _ _ => gc3 c (by omega))) hK
    rw [f_X11_bound_41, e0, if_pos h0, if_pos (by omega), hCt.c5 c0 c1, if_neg (by omega), p1, Option.bind_some, d1, Option.bind_some]
    dsimp only
    rw [e2, if_pos h0, g1, Option.bind_some]
    dsimp only
    rw [e3, if_pos h0, m_bndL]
    rcases hnl with ⟨q1, q2⟩ | ⟨q1, q2⟩
    · rw [q1, Option.bind_some, if_neg (show ¬ (1 : Int) = 0 by omega), if_pos (hle.mpr q2)]
      exact ⟨τ3, rfl, hf3⟩
    · rw [q1, Option.bind_some, if_pos rfl, if_neg (fun q => q2 (hle.mp q)), zid (x := z + 1) (by omega) (by omega)]
      exact ih k (z + 1) τ3 hf3 (by omega) (by omega) (by omega)
set_option maxHeartbeats 1000000 in
theorem R_bnd (hM : RM σ K) (hK : WK K) (hS : WS K (σ 776)) (hL : WL K (σ 776)) (c0 : 0 ≤ v1) (c1 : v1 < K 0 0) (n0 : 1 ≤ v2) (hn : σ 776 41 + v2 ≤ 9999) (hx : ∀ (z : Int) (w0 : Nat → Int), 0 ≤ z → (∀ j, j < 256 → w0 j = σ 776 j) → m_lat (m_ticks K v1 z v2.toNat w0).2 = m_lat (m_ticks K v1 z v2.toNat (σ 776)).2) : ∀ (m k : Nat) (z : Int) (τ : Nat → Nat → Int), FM SQ3 σ τ → τ 758 38 = v1 → 0 ≤ z → z + m = K 4 v1.toNat → m + 1 < k → 0 ≤ τ 758 39 → ∃ σ', f_X12_bound_52 k v1 v2 (-1) z τ = some (m_bndL K (σ 776) v1 v2 m z, σ') ∧ FM SQ3 σ σ' ∧ σ' 758 38 = -1 ∧ 0 ≤ σ' 758 39 := by
  have hkn := hK.n
  have hnn := hS.n
  have hkc := hK.c c0 c1
  have nm : NM SQ3 := fun c j h => by unfold SQ3 SQ2 at h; omega
  intro m
  induction m with
  | zero =>
    intro k z τ hf t38 z0 hz hk h39
    obtain ⟨k, rfl⟩ : ∃ j, k = j + 1 := ⟨k - 1, by omega⟩
    refine ⟨u2 τ 758 38 (-1), ?_, hf.u (Or.inr ⟨rfl, Or.inl rfl⟩), u2_e, by rw [u2_i (by omega)]; exact h39⟩
    rw [f_X12_bound_52, R_lastPoint (hM.fm hf nm) hK c0 c1, Option.bind_some, if_pos (by omega)]
    rfl
  | succ m ih =>
    intro k z τ hf t38 z0 hz hk h39
    obtain ⟨k, rfl⟩ : ∃ j, k = j + 1 := ⟨k - 1, by omega⟩
    have hMt := hM.fm hf nm
    have hf1 : FM SQ3 σ (u2 τ 758 39 z) := hf.u (Or.inr ⟨rfl, Or.inr rfl⟩)
    have e776 : (u2 τ 758 39 z) 776 = σ 776 := funext fun j => hf1 776 j (by unfold SQ3 SQ2; omega)
    obtain ⟨τ2, k1, k2, k3⟩ := R_goesOn2 (n := v2) (tr := v1) (th := z) (hM.fm hf1 nm) hK (by rw [e776]; exact hS) (by rw [e776]; exact hL) ((u2_i (by omega)).trans t38) u2_e z0 (by omega) (by rw [e776]; exact hn) (by rw [e776]; exact hnn.1)
    rw [e776] at k2
    have hf2 : FM SQ3 σ τ2 := hf1.trans (k3.mono (fun c j hc => by unfold ST at hc; unfold SQ3 SQ2; omega))
    have e776' : τ2 776 = σ 776 := funext fun j => hf2 776 j (by unfold SQ3 SQ2; omega)
    have hw : ∀ j, j < 256 → ov (σ 776) 0 ((u2 τ 758 39 z) 777) 0 256 j = σ 776 j := fun j hj => by
      unfold ov
      rw [if_pos (by omega), show 0 + (j - 0) = j from by omega]
    have hS0 := hS.cg hK hw
    have hL0 := hL.cg hK hw
    have e41 := hw 41 (by omega)
    have hxx := hx z _ z0 hw
    generalize ov (σ 776) 0 ((u2 τ 758 39 z) 777) 0 256 = w0 at *
    have i1 := m_ticks_in hK hS0 hL0 (tr := v1) z0 v2.toNat (by omega)
    have l1 := R_lates (b := 777) (σ := τ2) (K := K) (by rw [k2]; exact i1.1)
    have l2 := R_lates (b := 776) (σ := τ2) (K := K) (by rw [e776']; exact hS)
    rw [k2, hxx] at l1
    rw [e776'] at l2
    rw [f_X12_bound_52, R_lastPoint hMt hK c0 c1, Option.bind_some, if_neg (by omega), if_pos rfl, k1, Option.bind_some, l1, Option.bind_some, l2, Option.bind_some, zid (x := z + 1) (by omega) (by omega), m_bndL]
    have t38' : τ2 758 38 = v1 := (k3 758 38 (by unfold ST; omega)).trans ((u2_i (by omega)).trans t38)
    have t39' : τ2 758 39 = z := (k3 758 39 (by unfold ST; omega)).trans u2_e
    by_cases d : m_lat (m_ticks K v1 z v2.toNat (σ 776)).2 = m_lat (σ 776)
    · rw [if_pos d, if_pos d]
      obtain ⟨k, rfl⟩ : ∃ j, k = j + 1 := ⟨k - 1, by omega⟩
      refine ⟨u2 τ2 758 38 (-1), ?_, hf2.u (Or.inr ⟨rfl, Or.inl rfl⟩), u2_e, by rw [u2_i (by omega), t39']; exact z0⟩
      rw [f_X12_bound_52, R_lastPoint (hM.fm hf2 nm) hK c0 c1, Option.bind_some]
      by_cases e : K 4 v1.toNat - 1 < z + 1
      · rw [if_pos e]
      · rw [if_neg e, if_neg (by omega)]
    · rw [if_neg d, if_neg d]
      exact ih k (z + 1) τ2 hf2 t38' (by omega) (by omega) (by omega) (by rw [t39']; exact z0)
theorem Q_bound (h : PQ σ K) : ∃ r σ1 σ2, f_X11_bound v1 v2 σ = some (r, σ1) ∧ f_X12_bound v1 v2 σ1 = some (r, σ2) ∧ FM SQ1 σ σ1 ∧ FM SQ3 σ1 σ2 ∧ σ2 758 38 = -1 ∧ 0 ≤ σ2 758 39 := by
  have h' := h
  obtain ⟨h0, hC, hR, hM, hK, hS, hL, h38, h39⟩ := h
  have ha := ax_a h0
  have hkn := hK.n
  have hn := hS.n
  by_cases d : (0 ≤ v1 ∧ v1 < K 0 0) ∧ (1 ≤ v2 ∧ v2 ≤ 100) ∧ σ 776 41 + v2 ≤ 9999
  · obtain ⟨d1, d2, d3⟩ := d
    have hkc := hK.c d1.1 d1.2
    obtain ⟨σ1, g1, g2⟩ := C_bnd h' d1.1 d1.2 d2.1 d3 (K 4 v1.toNat).toNat 100000 0 σ FM.refl (by omega) (by omega) (by omega)
    have gr : ∀ c, ¬ ((186 ≤ c ∧ c < 199) ∨ (744 ≤ c ∧ c ≤ 756)) → σ1 c = σ c := fun c hc => funext fun j => g2 c j (by unfold SQ1; omega)
    obtain ⟨a1, a2, a3, a4⟩ := h'.ref (τ := σ1) (fun c hc => gr c (by omega))
    have hM2 : RM (u2 (u2 σ1 758 0 0) 758 38 v1) K := a1.frame (fun c hc => u2_ne (by omega)) (fun j hj => u2_i (by omega))
    have e776 : (u2 (u2 σ1 758 0 0) 758 38 v1) 776 = σ 776 := (u2_ne (by omega)).trans a2
    have hB := R_bnd hM2 hK (by rw [e776]; exact hS) (by rw [e776]; exact hL) d1.1 d1.2 d2.1 (by rw [e776]; exact d3) (fun z w0 z0 hw => by
      rw [e776] at hw ⊢
      obtain ⟨τ, t1, t2, t3⟩ := h'.trial (c := v1) (z := z) (by omega)
      have gt : ∀ c, ¬ ((186 ≤ c ∧ c < 199) ∨ (744 ≤ c ∧ c ≤ 756)) → τ c = σ c := fun c hc => funext fun j => t3 c j (by unfold SQ1; omega)
      exact lat_cg t2 (hC.frame (σ' := τ) (by omega) (fun c _ _ => gt c (by omega))) hK hS hL z0 (by omega) (by omega) (by omega) (by omega) d3 hw) (K 4 v1.toNat).toNat 100000 0 _ FM.refl u2_e (by omega) (by omega) (by omega) (by rw [u2_i (by omega), u2_i (by omega), gr 758 (by omega)]; exact h39)
    rw [e776] at hB
    obtain ⟨σ2, k1, k2, k3, k4⟩ := hB
    refine ⟨m_bndL K (σ 776) v1 v2 (K 4 v1.toNat).toNat 0, σ1, σ2, ?_, ?_, g2, ((FM.refl.u (Or.inl (Or.inr (Or.inr ⟨rfl, Or.inl rfl⟩)))).u (Or.inr ⟨rfl, Or.inl rfl⟩)).trans k2, k3, k4⟩
    · unfold f_X11_bound
      rw [if_pos h0, C_hasCluster_y hC d1.1 d1.2, Option.bind_some, if_neg (show ¬ (1 : Int) = 0 by omega), if_neg (show ¬ v2 < 1 by omega), if_neg (show ¬ 100 < v2 by omega), hR.n0, zid (x := σ 776 41 + v2) (by omega) (by omega), if_pos d3, g1]
    · unfold f_X12_bound
      rw [R_isCluster_y a1 d1.1 d1.2, Option.bind_some, if_neg (show ¬ (1 : Int) = 0 by omega), R_isIn_y d2.1 d2.2, Option.bind_some, if_neg (show ¬ (1 : Int) = 0 by omega), a2, zid (x := σ 776 41 + v2) (by omega) (by omega), if_pos d3, k1]
  · obtain ⟨a1, a2, a3, a4⟩ := h'.ref (τ := σ) (fun c hc => rfl)
    refine ⟨-1, σ, u2 σ 758 0 0, ?_, ?_, FM.refl, FM.refl.u (Or.inl (Or.inr (Or.inr ⟨rfl, Or.inl rfl⟩))), a3, by rw [u2_i (by omega)]; exact h39⟩
    · unfold f_X11_bound
      rw [if_pos h0]
      by_cases q1 : 0 ≤ v1 ∧ v1 < K 0 0
      · rw [C_hasCluster_y hC q1.1 q1.2, Option.bind_some, if_neg (show ¬ (1 : Int) = 0 by omega)]
        by_cases q2 : v2 < 1
        · rw [if_pos q2]
        rw [if_neg q2]
        by_cases q3 : 100 < v2
        · rw [if_pos q3]
        rw [if_neg q3, hR.n0, zid (x := σ 776 41 + v2) (by omega) (by omega), if_neg (by omega)]
      · rw [C_hasCluster_n hC q1, Option.bind_some, if_pos rfl]
    · unfold f_X12_bound
      by_cases q1 : 0 ≤ v1 ∧ v1 < K 0 0
      · rw [R_isCluster_y a1 q1.1 q1.2, Option.bind_some, if_neg (show ¬ (1 : Int) = 0 by omega)]
        by_cases q2 : 1 ≤ v2 ∧ v2 ≤ 100
        · rw [R_isIn_y q2.1 q2.2, Option.bind_some, if_neg (show ¬ (1 : Int) = 0 by omega), a2, zid (x := σ 776 41 + v2) (by omega) (by omega), if_neg (by omega)]
        · rw [R_isIn_n q2, Option.bind_some, if_pos rfl]
      · rw [R_isCluster_n a1 q1, Option.bind_some, if_pos rfl]
set_option maxHeartbeats 1000000 in
theorem Q_step {N : Nat} {stp : Nat → Nat → QS} {len : Nat → Nat} (hQ : QV σ N stp len) : ∃ r, f_X11_step v1 v2 v3 σ = some r ∧ f_X12_step v1 v2 v3 σ = some (r, u2 σ 758 0 0) := by
  obtain ⟨q0, q1, q2, q3⟩ := hQ
  have e1 : f_X12_isScript v1 (u2 σ 758 0 0) = f_X12_isIn v1 0 ((N : Int) - 1) (u2 σ 758 0 0) := by
    unfold f_X12_isScript
    rw [u2_i (by omega), q1, zid (by omega) (by omega)]
    cases f_X12_isIn v1 0 ((N : Int) - 1) (u2 σ 758 0 0) <;> rfl
  by_cases d1 : 0 ≤ v1 ∧ v1 < N
  · obtain ⟨v, rfl⟩ : ∃ v : Nat, v1 = (v : Int) := ⟨v1.toNat, by omega⟩
    obtain ⟨t0, t1, t2, t3⟩ := q3 v (by omega)
    have i1 := R_isIn_y (σ := u2 σ 758 0 0) d1.1 (show (v : Int) ≤ (N : Int) - 1 by omega)
    have ev : ((v : Int)).toNat = v := by omega
    have c5 : 0 ≤ (v : Int) ∧ (v : Int) < 5 := by omega
    have n1 : ¬ (v : Int) < 0 := by omega
    have n2 : ¬ (N : Int) ≤ (v : Int) := by omega
    unfold f_X11_step f_X12_step
    rw [e1, i1, Option.bind_some, if_neg (show ¬ (1 : Int) = 0 by omega), if_pos c5, u2_c (by omega), ev, t2.1, zid (x := (len v : Int) - 1) (by omega) (by omega), if_neg n1, q0, if_neg n2]
    by_cases d2 : 0 ≤ v2 ∧ v2 < len v
    · obtain ⟨i, rfl⟩ : ∃ i : Nat, v2 = (i : Int) := ⟨v2.toNat, by omega⟩
      have ei : ((i : Int)).toNat = i := by omega
      obtain ⟨r0, r1, r2, r3, r4⟩ := t2.2 i (by omega)
      obtain ⟨s0, s1, s2, s3, s4⟩ := t1.2 i (by omega)
      obtain ⟨w0, w1, w2, w3, w4, w5⟩ := t3 i (by omega)
      rw [R_isIn_y d2.1 (by omega), Option.bind_some, if_neg (show ¬ (1 : Int) = 0 by omega), if_neg (show ¬ (i : Int) < 0 by omega), if_pos c5, t1.1, if_pos d2.2, if_pos c5, if_pos (show 0 ≤ (i : Int) ∧ (i : Int) < 12 by omega), ei, s0]
      by_cases d3 : 0 ≤ v3 ∧ v3 ≤ 3
      · rw [R_isIn_y d3.1 d3.2, Option.bind_some, if_neg (show ¬ (1 : Int) = 0 by omega), zid (x := 12 * (v : Int)) (by omega) (by omega), zid (x := 12 * (v : Int) + (i : Int)) (by omega) (by omega), zid (x := 4 * (12 * (v : Int) + (i : Int))) (by omega) (by omega), zid (x := 4 * (12 * (v : Int) + (i : Int)) + v3) (by omega) (by omega), if_pos (show 0 ≤ 4 * (12 * (v : Int) + (i : Int)) + v3 ∧ 4 * (12 * (v : Int) + (i : Int)) + v3 < 240 by omega), u2_c (by omega)]
        have hnt : f_X8_numbersTold (43 + 26 * v + 2 + 2 * i) σ = some (if (stp v i).1 = 6 then 0 else if (stp v i).1 = 1 then 2 else if (stp v i).1 = 2 then 3 else 1) := by
          unfold f_X8_numbersTold
          rw [s0, if_neg (by omega), if_neg (by omega), if_pos (by omega)]
          have k : (stp v i).1 = 0 ∨ (stp v i).1 = 1 ∨ (stp v i).1 = 2 ∨ (stp v i).1 = 3 ∨ (stp v i).1 = 4 ∨ (stp v i).1 = 5 ∨ (stp v i).1 = 6 := by omega
          rcases k with e | e | e | e | e | e | e <;> rw [e] <;> rfl
        have k : v3 = 0 ∨ v3 = 1 ∨ v3 = 2 ∨ v3 = 3 := by omega
        rcases k with rfl | rfl | rfl | rfl
        · rw [show (4 * (12 * (v : Int) + (i : Int)) + 0).toNat = 4 * (12 * v + i) from by omega, r0]
          exact ⟨(stp v i).1, if_pos rfl, rfl⟩
        · rw [show (4 * (12 * (v : Int) + (i : Int)) + 1).toNat = 4 * (12 * v + i) + 1 from by omega, r1, hnt]
          refine ⟨(stp v i).2.1, ?_, rfl⟩
          rw [if_neg (by omega), if_neg (by omega), if_pos (by omega), Option.bind_some]
          by_cases e : (stp v i).1 = 6
          · rw [if_pos e, if_pos (by omega), w3 e]
          · have hq : ¬ (if (stp v i).1 = 6 then (0 : Int) else if (stp v i).1 = 1 then 2 else if (stp v i).1 = 2 then 3 else 1) < 1 := by
              rw [if_neg e]
              split
              · omega
              · split <;> omega
            rw [if_neg hq, zid (x := 1 - 1) (by omega) (by omega), if_pos (by omega), show ((1 : Int) - 1).toNat = 0 from rfl, s1 e]
        · rw [show (4 * (12 * (v : Int) + (i : Int)) + 2).toNat = 4 * (12 * v + i) + 2 from by omega, r2, hnt]
          refine ⟨(stp v i).2.2.1, ?_, rfl⟩
          rw [if_neg (by omega), if_neg (by omega), if_pos (by omega), Option.bind_some]
          by_cases e : (stp v i).1 = 1 ∨ (stp v i).1 = 2
          · have hq : ¬ (if (stp v i).1 = 6 then (0 : Int) else if (stp v i).1 = 1 then 2 else if (stp v i).1 = 2 then 3 else 1) < 2 := by
              rcases e with e | e <;> rw [e] <;> decide
            rw [if_neg hq, zid (x := 2 - 1) (by omega) (by omega), if_pos (by omega), show ((2 : Int) - 1).toNat = 1 from rfl, s2 e]
          · have hq : (if (stp v i).1 = 6 then (0 : Int) else if (stp v i).1 = 1 then 2 else if (stp v i).1 = 2 then 3 else 1) < 2 := by
              split
              · omega
              · rw [if_neg (fun q => e (Or.inl q)), if_neg (fun q => e (Or.inr q))]
                omega
            rw [if_pos hq, w4 e]
        · rw [show (4 * (12 * (v : Int) + (i : Int)) + 3).toNat = 4 * (12 * v + i) + 3 from by omega, r3, hnt]
          refine ⟨(stp v i).2.2.2.1, ?_, rfl⟩
          rw [if_neg (by omega), if_neg (by omega), if_pos (by omega), Option.bind_some]
          by_cases e : (stp v i).1 = 2
          · have hq : ¬ (if (stp v i).1 = 6 then (0 : Int) else if (stp v i).1 = 1 then 2 else if (stp v i).1 = 2 then 3 else 1) < 3 := by
              rw [e]
              decide
            rw [if_neg hq, zid (x := 3 - 1) (by omega) (by omega), if_pos (by omega), show ((3 : Int) - 1).toNat = 2 from rfl, s3 e]
          · have hq : (if (stp v i).1 = 6 then (0 : Int) else if (stp v i).1 = 1 then 2 else if (stp v i).1 = 2 then 3 else 1) < 3 := by
              repeat' split
              all_goals omega
            rw [if_pos hq, w5 e]
      · refine ⟨-1000000, ?_, ?_⟩
        · rw [if_neg (by omega)]
          by_cases e : v3 < 1
          · rw [if_pos e]
          · rw [if_neg e, if_neg (by omega)]
        · rw [R_isIn_n d3, Option.bind_some, if_pos rfl]
    · refine ⟨-1000000, ?_, ?_⟩
      · by_cases e : v2 < 0
        · rw [if_pos e]
        · rw [if_neg e, if_pos c5, t1.1, if_neg (by omega)]
      · rw [R_isIn_n (by omega), Option.bind_some, if_pos rfl, if_pos c5]
  · refine ⟨-1000000, ?_, ?_⟩
    · unfold f_X11_step
      by_cases e : v1 < 0
      · rw [if_pos e]
      · rw [if_neg e, q0, if_pos (by omega)]
    · unfold f_X12_step
      rw [e1, R_isIn_n (by omega), Option.bind_some, if_pos rfl]
end S_Q6
