-- what lies ahead, bounds, steps, all, counts; both sides
def m_lat (w : Nat → Int) : Int := w 33 + w 34 + w 35 + w 36
section S_Q5
variable {σ K : Nat → Nat → Int} {w w0 : Nat → Int} {a a1 a2 b : Nat} {v1 v2 v3 v4 tr th : Int}
theorem R_goesOn2 (hM : RM σ K) (hK : WK K) (hS : WS K (σ 776)) (hL : WL K (σ 776)) (h38 : σ 758 38 = tr) (h39 : σ 758 39 = th) (ht : 0 ≤ th) {n : Int} (h0 : 0 ≤ n) (hn : σ 776 41 + n ≤ 9999) (h41 : 0 ≤ σ 776 41) :
    ∃ σ', f_X12_goesOn_ n σ = some σ' ∧ σ' 777 = (m_ticks K tr th n.toNat (ov (σ 776) 0 (σ 777) 0 256)).2 ∧ FM (ST 777) σ σ' := by
  have hkn := hK.n
  have hw : ∀ j, j < 256 → ov (σ 776) 0 (σ 777) 0 256 j = σ 776 j := fun j hj => by
    unfold ov
    rw [if_pos (by omega)]
    congr 1
    omega
  have e41 := hw 41 (by omega)
  have hS0 := hS.cg hK hw
  have hL0 := hL.cg hK hw
  generalize hg : ov (σ 776) 0 (σ 777) 0 256 = w0 at hw e41 hS0 hL0
  have h := sim_loop (F := fun k v (q : Nat → Nat → Int) => f_X12_goesOn__15 k n v q) (X := fun _ s => m_ticksS K tr th s) (hi := n)
    (fun v q s => 0 ≤ v ∧ q 777 = s.2 ∧ FM (ST 777) σ q ∧ WS K s.2 ∧ WL K s.2 ∧ s.2 41 = σ 776 41 + v)
    (fun s r => ∃ σ', r = some σ' ∧ σ' 777 = s.2 ∧ FM (ST 777) σ σ')
    (fun k v q s hv hp => by
      obtain ⟨s1, s2⟩ := s
      obtain ⟨p0, p1, p2, p3, p4, p5⟩ := hp
      dsimp only at p1 p2 p3 p4 p5
      have hM' := hM.fm p2 (ST.nm (by omega))
      obtain ⟨e', g⟩ := R_ticks (σ := q) (tr := tr) (th := th) hM' hK (b := 777) (by omega) (by omega) p3 p4 (by rw [p2 758 38 (by unfold ST; omega)]; exact h38) (by rw [p2 758 39 (by unfold ST; omega)]; exact h39) ht (by omega)
      rw [← p1, setR_id] at g
      have hin := m_tick_in (tr := tr) hK p3 p4 ht (by omega)
      refine ⟨setR (setR q 777 (m_tick K tr th s2).2) 780 e', ?_, by omega, ?_, (p2.r (fun j => Or.inl rfl)).r (fun j => Or.inr (Or.inl rfl)), hin.1, hin.2.1, ?_⟩
      · rw [f_X12_goesOn__15, g, p1]
        simp (disch := first | assumption | omega) only [if_true, if_false, zid, zlid, if_pos, if_neg, u2_e, u2_c, u2_i, u1_e, u1_i, Option.bind_some]
      · show _ = (m_tick K tr th s2).2
        rw [setR_n (by omega), setR_s]
      · show (m_tick K tr th s2).2 41 = _
        rw [hin.2.2.1]
        omega)
    (fun k q s hp => by
      obtain ⟨p0, p1, p2, p3, p4, p5⟩ := hp
      refine ⟨q, ?_, p1, p2⟩
      rw [f_X12_goesOn__15]
      simp (disch := first | assumption | omega) only [if_true, if_false, zid, zlid, if_pos, if_neg, u2_e, u2_c, u2_i, u1_e, u1_i, Option.bind_some]) n.toNat 100000 0 (setR σ 777 w0) (0, w0) (by omega) (by omega) ⟨by omega, setR_s, FM.refl.r (fun j => Or.inl rfl), hS0, hL0, by dsimp only; omega⟩
  obtain ⟨σ', g1, g2, g3⟩ := h
  refine ⟨σ', ?_, g2, g3⟩
  unfold f_X12_goesOn_
  rw [R_copyRow (Or.inl (by omega)) (by omega) (by omega) (by omega) (by omega) (by omega) (by omega), Option.bind_some, show (0 : Int).toNat = 0 from rfl, hg]
  exact g1
theorem lat_in (hS : WS K w) : ∀ j, j < 4 → 0 ≤ w (33 + j) ∧ w (33 + j) ≤ 10000 := fun j hj => by
  by_cases c : (j : Int) < K 0 1
  · have h := (hS.t (t := (j : Int)) (by omega) c)
    rw [show (33 + (j : Int)).toNat = 33 + j from by omega] at h
    omega
  · have h := hS.late (t := (j : Int)) (by omega) (by omega)
    rw [show (33 + (j : Int)).toNat = 33 + j from by omega] at h
    omega
theorem R_lates (hS : WS K (σ b)) : f_X12_lates b σ = some (m_lat (σ b)) := by
  have hl := lat_in hS
  have h := sim_loop (F := fun k t (q : Int) => f_X12_lates_4 k b q t σ) (X := fun t acc => acc + σ b (33 + t).toNat) (hi := 4)
    (fun t q g => 0 ≤ t ∧ q = g ∧ 0 ≤ g ∧ g ≤ 10000 * t)
    (fun g r => r = some g)
    (fun k t q g ht hq => by
      obtain ⟨t0, rfl, g0, g1⟩ := hq
      have hs := hl t.toNat (by omega)
      rw [show 33 + t.toNat = (33 + t).toNat from by omega] at hs
      refine ⟨_, ?_, by omega, rfl, by omega, by omega⟩
      rw [f_X12_lates_4, if_neg (by omega), zid (x := 33 + t) (by omega) (by omega), if_pos (by omega), zid (x := t + 1) (by omega) (by omega), zid (by omega) (by omega)])
    (fun k q g hq => by
      obtain ⟨t0, rfl, g0, g1⟩ := hq
      rw [f_X12_lates_4, if_pos (Int.le_refl 4)])
    4 100000 0 0 0 (by omega) (by omega) ⟨by omega, rfl, by omega, by omega⟩
  unfold f_X12_lates m_lat
  rw [h]
  show some ((((0 + σ b 33) + σ b 34) + σ b 35) + σ b 36) = _
  rw [Int.zero_add]
theorem C_lates (hR : RS σ a K w tr th) (hC : RC σ a1 K) (hK : WK K) (hS : WS K w) : f_X7_lateOfAll a a1 σ = some (m_lat w) := by
  have hkn := hK.n
  have hl := lat_in hS
  have h := sim_loop (F := fun k t (q : Int) => f_X7_lateOfAll_4 k a a1 q t σ) (X := fun t acc => acc + w (33 + t).toNat) (hi := K 0 1)
    (fun t q g => 0 ≤ t ∧ q = g ∧ 0 ≤ g ∧ g ≤ 10000 * t)
    (fun g r => r = some g)
    (fun k t q g ht hq => by
      obtain ⟨t0, rfl, g0, g1⟩ := hq
      have hs := hl t.toNat (by omega)
      rw [show 33 + t.toNat = (33 + t).toNat from by omega] at hs
      refine ⟨_, ?_, by omega, rfl, by omega, by omega⟩
      rw [f_X7_lateOfAll_4, hC.n1, if_neg (by omega), if_pos (by omega), hR.t4 t0 ht, zid (x := t + 1) (by omega) (by omega), zid (by omega) (by omega)])
    (fun k q g hq => by
      obtain ⟨t0, rfl, g0, g1⟩ := hq
      rw [f_X7_lateOfAll_4, hC.n1, if_pos (Int.le_refl _)])
    (K 0 1).toNat 100000 0 0 0 (by omega) (by omega) ⟨by omega, rfl, by omega, by omega⟩
  unfold f_X7_lateOfAll m_lat
  rw [h]
  have z : ∀ t : Nat, K 0 1 ≤ t → t < 4 → w (33 + t) = 0 := fun t t0 t1 => by
    have := hS.late (t := (t : Int)) t0 (by omega)
    rw [show (33 + (t : Int)).toNat = 33 + t from by omega] at this
    exact this
  have z0 : K 0 1 ≤ 0 → w 33 = 0 := fun q => z 0 q (by omega)
  have z1 : K 0 1 ≤ 1 → w 34 = 0 := fun q => z 1 q (by omega)
  have z2 : K 0 1 ≤ 2 → w 35 = 0 := fun q => z 2 q (by omega)
  have z3 : K 0 1 ≤ 3 → w 36 = 0 := fun q => z 3 q (by omega)
  have k : K 0 1 = 0 ∨ K 0 1 = 1 ∨ K 0 1 = 2 ∨ K 0 1 = 3 ∨ K 0 1 = 4 := by omega
  rcases k with e | e | e | e | e
  · rw [e]
    show some (0 : Int) = _
    congr 1
    omega
  · rw [e]
    show some (0 + w 33) = _
    congr 1
    omega
  · rw [e]
    show some (0 + w 33 + w 34) = _
    congr 1
    omega
  · rw [e]
    show some (0 + w 33 + w 34 + w 35) = _
    congr 1
    omega
  · rw [e]
    show some (0 + w 33 + w 34 + w 35 + w 36) = _
    congr 1
    omega
/-- nobody later than before: the sums are alike -/
theorem lat_eq (hK : WK K) (hS : WS K w) (hS0 : WS K w0) (hm : ∀ s : Int, 0 ≤ s → s < K 0 1 → w0 (33 + s).toNat ≤ w (33 + s).toNat) : m_lat w = m_lat w0 ↔ ∀ s : Int, 0 ≤ s → s < K 0 1 → w (33 + s).toNat ≤ w0 (33 + s).toNat := by
  have hkn := hK.n
  have z : ∀ t : Nat, t < 4 → (K 0 1 ≤ t → w (33 + t) = 0 ∧ w0 (33 + t) = 0) ∧ (¬ K 0 1 ≤ t → w0 (33 + t) ≤ w (33 + t)) := fun t t1 => by
    refine ⟨fun t0 => ⟨?_, ?_⟩, fun t0 => ?_⟩
    · have := hS.late (t := (t : Int)) t0 (by omega)
      rw [show (33 + (t : Int)).toNat = 33 + t from by omega] at this
      exact this
    · have := hS0.late (t := (t : Int)) t0 (by omega)
      rw [show (33 + (t : Int)).toNat = 33 + t from by omega] at this
      exact this
    · have := hm (t : Int) (by omega) (by omega)
      rw [show (33 + (t : Int)).toNat = 33 + t from by omega] at this
      exact this
  have z0 : (K 0 1 ≤ 0 → w 33 = 0 ∧ w0 33 = 0) ∧ (¬ K 0 1 ≤ 0 → w0 33 ≤ w 33) := z 0 (by omega)
  have z1 : (K 0 1 ≤ 1 → w 34 = 0 ∧ w0 34 = 0) ∧ (¬ K 0 1 ≤ 1 → w0 34 ≤ w 34) := z 1 (by omega)
  have z2 : (K 0 1 ≤ 2 → w 35 = 0 ∧ w0 35 = 0) ∧ (¬ K 0 1 ≤ 2 → w0 35 ≤ w 35) := z 2 (by omega)
  have z3 : (K 0 1 ≤ 3 → w 36 = 0 ∧ w0 36 = 0) ∧ (¬ K 0 1 ≤ 3 → w0 36 ≤ w 36) := z 3 (by omega)
  unfold m_lat
  constructor
  · intro h s s0 s1
    have k : s = 0 ∨ s = 1 ∨ s = 2 ∨ s = 3 := by omega
    rcases k with rfl | rfl | rfl | rfl
    · show w 33 ≤ w0 33
      omega
    · show w 34 ≤ w0 34
      omega
    · show w 35 ≤ w0 35
      omega
    · show w 36 ≤ w0 36
      omega
  · intro h
    have y : ∀ t : Nat, t < 4 → w (33 + t) = w0 (33 + t) := fun t t1 => by
      have zt := z t t1
      by_cases c : K 0 1 ≤ (t : Int)
      · have := zt.1 c
        omega
      · have h1 := h (t : Int) (by omega) (by omega)
        rw [show (33 + (t : Int)).toNat = 33 + t from by omega] at h1
        have := zt.2 c
        omega
    have y0 : w 33 = w0 33 := y 0 (by omega)
    have y1 : w 34 = w0 34 := y 1 (by omega)
    have y2 : w 35 = w0 35 := y 2 (by omega)
    have y3 : w 36 = w0 36 := y 3 (by omega)
    omega
theorem C_noLater (hR : RS σ a K w tr th) (hR0 : RS σ a2 K w0 v1 v2) (hC : RC σ a1 K) (hK : WK K) : f_X7_isNoLater a a1 a2 σ = some 1 ∧ (∀ s : Int, 0 ≤ s → s < K 0 1 → w (33 + s).toNat ≤ w0 (33 + s).toNat) ∨ f_X7_isNoLater a a1 a2 σ = some 0 ∧ ¬ (∀ s : Int, 0 ≤ s → s < K 0 1 → w (33 + s).toNat ≤ w0 (33 + s).toNat) := by
  have hkn := hK.n
  have st : ∀ (m k : Nat) (t : Int), 0 ≤ t → t + m = K 0 1 → m < k → (∀ s : Int, 0 ≤ s → s < t → w (33 + s).toNat ≤ w0 (33 + s).toNat) → f_X7_isNoLater_2 k a a1 a2 t σ = some 1 ∧ (∀ s : Int, 0 ≤ s → s < K 0 1 → w (33 + s).toNat ≤ w0 (33 + s).toNat) ∨ f_X7_isNoLater_2 k a a1 a2 t σ = some 0 ∧ ¬ (∀ s : Int, 0 ≤ s → s < K 0 1 → w (33 + s).toNat ≤ w0 (33 + s).toNat) := by
    intro m
    induction m with
    | zero =>
      intro k t h0 ht hk hi
      obtain ⟨k, rfl⟩ : ∃ j, k = j + 1 := ⟨k - 1, by omega⟩
      left
      rw [f_X7_isNoLater_2, hC.n1, if_pos (by omega)]
      exact ⟨rfl, fun s s0 s1 => hi s s0 (by omega)⟩
    | succ m ih =>
      intro k t h0 ht hk hi
      obtain ⟨k, rfl⟩ : ∃ j, k = j + 1 := ⟨k - 1, by omega⟩
      rw [f_X7_isNoLater_2, hC.n1, if_neg (by omega), if_pos (by omega), if_pos (by omega), hR.t4 h0 (by omega), hR0.t4 h0 (by omega), zid (x := t + 1) (by omega) (by omega)]
      by_cases c : w (33 + t).toNat ≤ w0 (33 + t).toNat
      · rw [if_pos c]
        exact ih k (t + 1) (by omega) (by omega) (by omega) (fun s s0 s1 => by
          by_cases e : s = t
          · rw [e]; exact c
          · exact hi s s0 (by omega))
      · right
        rw [if_neg c]
        exact ⟨rfl, fun q => c (q t h0 (by omega))⟩
  exact st (K 0 1).toNat 100000 0 (by omega) (by omega) (by omega) (fun s s0 s1 => by omega)
/-- what ticks do to the late does not hang on what lies beyond the row -/
theorem lat_cg (hR : RS σ a K w tr th) (hC : RC σ a1 K) (hK : WK K) (hS : WS K w) (hL : WL K w) (ht : 0 ≤ th) (ha1 : a1 + 19 ≤ 42) (ha : 173 ≤ a) (ha2 : a + 13 ≤ 743) {n : Int} (h0 : 0 ≤ n) (hn : w 41 + n ≤ 9999) (hc : ∀ j, j < 256 → w0 j = w j) : m_lat (m_ticks K tr th n.toNat w0).2 = m_lat (m_ticks K tr th n.toNat w).2 := by
  have hkn := hK.n
  have hnn := hS.n
  have e41 := hc 41 (by omega)
  have hS0 := hS.cg hK hc
  have hL0 := hL.cg hK hc
  obtain ⟨σ1, g1, g2, g3⟩ := C_passMany hR hC hK hS hL ht ha1 ha ha2 h0 hn hnn.1
  obtain ⟨σ2, k1, k2, k3⟩ := C_passMany (hR.cg hK (by omega) hc) hC hK hS0 hL0 ht ha1 ha ha2 h0 (by omega) (by omega)
  have e : σ1 = σ2 := by
    rw [g1] at k1
    exact (Prod.mk.inj (Option.some.inj k1)).2
  have i1 := m_ticks_in hK hS hL (tr := tr) ht n.toNat (by omega)
  have i2 := m_ticks_in hK hS0 hL0 (tr := tr) ht n.toNat (by omega)
  have y : ∀ t : Nat, t < 4 → (m_ticks K tr th n.toNat w0).2 (33 + t) = (m_ticks K tr th n.toNat w).2 (33 + t) := fun t t1 => by
    by_cases c : (t : Int) < K 0 1
    · have a1 := g2.t4 (t := (t : Int)) (by omega) c
      have a2 := k2.t4 (t := (t : Int)) (by omega) c
      rw [e, a2, show (33 + (t : Int)).toNat = 33 + t from by omega] at a1
      exact a1
    · have a1 := i1.1.late (t := (t : Int)) (by omega) (by omega)
      have a2 := i2.1.late (t := (t : Int)) (by omega) (by omega)
      rw [show (33 + (t : Int)).toNat = 33 + t from by omega] at a1 a2
      rw [a1, a2]
  unfold m_lat
  rw [y 0 (by omega), y 1 (by omega), y 2 (by omega), y 3 (by omega)]
theorem RS.anyTh {th' : Int} (h : RS σ a K w (-1) th) : RS σ a K w (-1) th' := by
  obtain ⟨h1, h2, h3, h4, h5, h6, h7, h8⟩ := h
  exact ⟨h1, h2, h3, h4, h5, h6, h7, fun q => absurd rfl q⟩
set_option maxHeartbeats 2000000 in
theorem Q_ahead (h : PQ σ K) : ∃ r σ1 σ2, f_X11_ahead v1 v2 σ = some (r, σ1) ∧ f_X12_ahead v1 v2 σ1 = some (r, σ2) ∧ FM SQ1 σ σ1 ∧ FM SQ2 σ1 σ2 := by
  have h' := h
  obtain ⟨h0, hC, hR, hM, hK, hS, hL, h38, h39⟩ := h
  have ha := ax_a h0
  have hkn := hK.n
  have hn := hS.n
  by_cases d : (0 ≤ v1 ∧ v1 ≤ 200) ∧ (0 ≤ v2 ∧ v2 ≤ 2 + K 0 0) ∧ σ 776 41 + v1 ≤ 9999
  · obtain ⟨d1, d2, d3⟩ := d
    have hw : ∀ j, j < 256 → ov (σ 776) 0 (σ 777) 0 256 j = σ 776 j := fun j hj => by
      unfold ov
      rw [if_pos (by omega), show 0 + (j - 0) = j from by omega]
    obtain ⟨τ, c1, c2, c3⟩ := C_copyFrom (d := 186) hK hR hS (by omega)
    have hS0 := hS.cg hK hw
    have hL0 := hL.cg hK hw
    have e41 := hw 41 (by omega)
    obtain ⟨σ1, g1, g2, g3⟩ := C_passMany (a1 := (σ 0 2).toNat) (n := v1) ((c2.cg hK (by omega) hw).anyTh (th' := σ 758 39)) (hC.frame (σ' := τ) (by omega) (fun c _ _ => c3 c (by omega))) hK hS0 hL0 h39 (by omega) (by omega) (by omega) d1.1 (by omega) (by omega)
    have hf1 : FM SQ1 σ σ1 := (c3.fm (fun c j hc => by unfold SQ1; omega)).trans (g3.fm (fun c j hc => by unfold SC at hc; unfold SQ1; omega))
    have gr : ∀ c, ¬ ((186 ≤ c ∧ c < 199) ∨ (744 ≤ c ∧ c ≤ 756)) → σ1 c = σ c := fun c hc => funext fun j => hf1 c j (by unfold SQ1; omega)
    obtain ⟨a1, a2, a3, a4⟩ := h'.ref (τ := σ1) (fun c hc => gr c (by omega))
    have e777 : (u2 σ1 758 0 0) 777 = σ 777 := by rw [u2_ne (by omega), gr 777 (by omega)]
    have e39 : (u2 σ1 758 0 0) 758 39 = σ 758 39 := by rw [u2_i (by omega), gr 758 (by omega)]
    obtain ⟨σ2, k1, k2, k3⟩ := R_goesOn2 (n := v1) a1 hK (by rw [a2]; exact hS) (by rw [a2]; exact hL) a3 e39 h39 d1.1 (by rw [a2]; exact d3) (by rw [a2]; exact hn.1)
    rw [a2, e777] at k2
    have i1 := m_ticks_in hK hS0 hL0 (tr := -1) h39 v1.toNat (by omega)
    have hlr := R_lates (b := 777) (σ := σ2) (K := K) (by rw [k2]; exact i1.1)
    rw [k2] at hlr
    have hC1 : RC σ1 (σ 0 2).toNat K := hC.frame (by omega) (fun c _ _ => gr c (by omega))
    have hlc := C_lates g2 hC1 hK i1.1
    have hcl : f_X11_ahead v1 v2 σ = if v2 = 0 then some ((m_ticks K (-1) (σ 758 39) v1.toNat (ov (σ 776) 0 (σ 777) 0 256)).2 43, σ1) else if v2 = 1 then some (m_lat (m_ticks K (-1) (σ 758 39) v1.toNat (ov (σ 776) 0 (σ 777) 0 256)).2, σ1) else if v2 = 2 then some ((m_ticks K (-1) (σ 758 39) v1.toNat (ov (σ 776) 0 (σ 777) 0 256)).2 42, σ1) else some ((m_ticks K (-1) (σ 758 39) v1.toNat (ov (σ 776) 0 (σ 777) 0 256)).2 (v2 - 3).toNat, σ1) := by
      have h77 : f_X11_ahead_77 v1 v2 σ = if v2 = 0 then some ((m_ticks K (-1) (σ 758 39) v1.toNat (ov (σ 776) 0 (σ 777) 0 256)).2 43, σ1) else if v2 = 1 then some (m_lat (m_ticks K (-1) (σ 758 39) v1.toNat (ov (σ 776) 0 (σ 777) 0 256)).2, σ1) else if v2 = 2 then some ((m_ticks K (-1) (σ 758 39) v1.toNat (ov (σ 776) 0 (σ 777) 0 256)).2 42, σ1) else some ((m_ticks K (-1) (σ 758 39) v1.toNat (ov (σ 776) 0 (σ 777) 0 256)).2 (v2 - 3).toNat, σ1) := by
        have e0 : (τ 0 2).toNat = (σ 0 2).toNat := by rw [c3 0 (by omega)]
        have e1 : (σ1 0 2).toNat = (σ 0 2).toNat := by rw [gr 0 (by omega)]
        unfold f_X11_ahead_77
        rw [c1, Option.bind_some, e0, if_pos h0, g1, Option.bind_some]
        dsimp only
        rw [e1, if_pos h0, hlc, Option.bind_some, g2.n2, g2.n1]
        by_cases q0 : v2 = 0
        · rw [if_pos q0, if_pos q0]
        rw [if_neg q0, if_neg q0]
        by_cases q1 : v2 = 1
        · rw [if_pos q1, if_pos q1]
        rw [if_neg q1, if_neg q1]
        by_cases q2 : v2 = 2
        · rw [if_pos q2, if_pos q2]
        rw [if_neg q2, if_neg q2, zid (x := v2 - 3) (by omega) (by omega), if_pos (by omega), g2.c5 (c := v2 - 3) (by omega) (by omega)]
      unfold f_X11_ahead f_X11_ahead_25
      rw [if_pos h0, C_isTold_y hC (by omega), Option.bind_some, if_neg (show ¬ (1 : Int) = 0 by omega), if_neg (show ¬ v1 < 0 by omega), if_neg (show ¬ 200 < v1 by omega), if_neg (show ¬ v2 < 0 by omega), if_neg (show ¬ 5 < v2 by omega), if_neg (show ¬ (1 : Int) = 0 by omega), hR.n0, zid (x := σ 776 41 + v1) (by omega) (by omega), if_pos d3, h77]
      by_cases q : v2 < 3
      · rw [if_pos q]
      · rw [if_neg q, if_pos h0, zid (x := v2 - 3) (by omega) (by omega), C_hasCluster_y hC (by omega) (by omega), Option.bind_some, if_neg (show ¬ (1 : Int) = 0 by omega)]
    have hrr : f_X12_ahead v1 v2 σ1 = if v2 = 0 then some ((m_ticks K (-1) (σ 758 39) v1.toNat (ov (σ 776) 0 (σ 777) 0 256)).2 43, σ2) else if v2 = 1 then some (m_lat (m_ticks K (-1) (σ 758 39) v1.toNat (ov (σ 776) 0 (σ 777) 0 256)).2, σ2) else if v2 = 2 then some ((m_ticks K (-1) (σ 758 39) v1.toNat (ov (σ 776) 0 (σ 777) 0 256)).2 42, σ2) else some ((m_ticks K (-1) (σ 758 39) v1.toNat (ov (σ 776) 0 (σ 777) 0 256)).2 (v2 - 3).toNat, σ2) := by
      unfold f_X12_ahead
      rw [a4, if_neg (by omega), R_isIn_y d1.1 d1.2, Option.bind_some, if_neg (show ¬ (1 : Int) = 0 by omega), a2, zid (x := σ 776 41 + v1) (by omega) (by omega), if_neg (by omega), zid (x := 2 + K 0 0) (by omega) (by omega), R_isIn_y d2.1 d2.2, Option.bind_some, if_neg (show ¬ (1 : Int) = 0 by omega), k1, Option.bind_some, hlr, Option.bind_some, k2, zid (x := 0 + v2) (by omega) (by omega), zid (x := 0 + v2 - 3) (by omega) (by omega)]
      by_cases q0 : v2 = 0
      · rw [if_pos q0, if_pos q0]
      rw [if_neg q0, if_neg q0]
      by_cases q1 : v2 = 1
      · rw [if_pos q1, if_pos q1]
      rw [if_neg q1, if_neg q1]
      by_cases q2 : v2 = 2
      · rw [if_pos q2, if_pos q2]
      rw [if_neg q2, if_neg q2, if_pos (by omega), Int.zero_add]
    have hf2 : FM SQ2 σ1 σ2 := (FM.refl.u (by unfold SQ2; omega)).trans (k3.mono (fun c j hc => by unfold ST at hc; unfold SQ2; omega))
    by_cases q0 : v2 = 0
    · rw [if_pos q0] at hcl hrr
      exact ⟨_, σ1, σ2, hcl, hrr, hf1, hf2⟩
    rw [if_neg q0] at hcl hrr
    by_cases q1 : v2 = 1
    · rw [if_pos q1] at hcl hrr
      exact ⟨_, σ1, σ2, hcl, hrr, hf1, hf2⟩
    rw [if_neg q1] at hcl hrr
    by_cases q2 : v2 = 2
    · rw [if_pos q2] at hcl hrr
      exact ⟨_, σ1, σ2, hcl, hrr, hf1, hf2⟩
    rw [if_neg q2] at hcl hrr
    exact ⟨_, σ1, σ2, hcl, hrr, hf1, hf2⟩
  · obtain ⟨a1, a2, a3, a4⟩ := h'.ref (τ := σ) (fun c hc => rfl)
    refine ⟨-1, σ, u2 σ 758 0 0, ?_, ?_, FM.refl, FM.refl.u (by unfold SQ2; omega)⟩
    · unfold f_X11_ahead f_X11_ahead_25
      rw [if_pos h0, C_isTold_y hC (by omega), Option.bind_some, if_neg (show ¬ (1 : Int) = 0 by omega)]
      by_cases q1 : v1 < 0
      · rw [if_pos q1, if_pos rfl]
      rw [if_neg q1]
      by_cases q2 : 200 < v1
      · rw [if_pos q2, if_pos rfl]
      rw [if_neg q2]
      by_cases q3 : v2 < 0
      · rw [if_pos q3, if_pos rfl]
      rw [if_neg q3]
      by_cases q4 : 5 < v2
      · rw [if_pos q4, if_pos rfl]
      rw [if_neg q4, if_neg (show ¬ (1 : Int) = 0 by omega), hR.n0, zid (x := σ 776 41 + v1) (by omega) (by omega)]
      by_cases q5 : σ 776 41 + v1 ≤ 9999
      · rw [if_pos q5, if_neg (by omega), if_pos h0, zid (x := v2 - 3) (by omega) (by omega), C_hasCluster_n hC (by omega), Option.bind_some, if_pos rfl]
      · rw [if_neg q5]
    · unfold f_X12_ahead
      rw [a4, if_neg (by omega)]
      by_cases q1 : 0 ≤ v1 ∧ v1 ≤ 200
      · rw [R_isIn_y q1.1 q1.2, Option.bind_some, if_neg (show ¬ (1 : Int) = 0 by omega), a2, zid (x := σ 776 41 + v1) (by omega) (by omega)]
        by_cases q2 : 9999 < σ 776 41 + v1
        · rw [if_pos q2]
        · rw [if_neg q2, zid (x := 2 + K 0 0) (by omega) (by omega), R_isIn_n (by omega), Option.bind_some, if_pos rfl]
      · rw [R_isIn_n q1, Option.bind_some, if_pos rfl]
end S_Q5
