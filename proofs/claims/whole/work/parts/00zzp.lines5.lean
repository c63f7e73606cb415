-- a point's line, a rule's line, a line; both sides
section S_PT
variable {c r K : Nat → Nat → Int} {a : Nat} {p q f x lo hi n1 n2 n3 y v s l0 : Int}
theorem C_lastSpeed (hC : RC c a K) (hW : WQ K) (v0 : 0 ≤ v) (v1 : v < K 0 0) : f_X1_lastSpeed a v c = some (if 1 ≤ K 4 v.toNat then K 5 (5 * v + (K 4 v.toNat - 1)).toNat else 0) := by
  have hw := hW.1
  have hvk := hW.2.2.1 v v0 v1
  unfold f_X1_lastSpeed f_X1_lastSpeed_20
  have b3 : 0 ≤ v ∧ v < 3 := by omega
  rw [C_hasCluster_y hC v0 v1, Option.bind_some, if_neg (show ¬ (1 : Int) = 0 by omega), if_pos b3, hC.c5 v0 v1, zid (x := K 4 v.toNat - 1) (by omega) (by omega)]
  by_cases d : 1 ≤ K 4 v.toNat
  · rw [C_hasPoint_y hC (by omega) v0 v1 (by omega) (by omega), Option.bind_some, if_neg (show ¬ (1 : Int) = 0 by omega), if_pos b3, if_pos (by omega), hC.p7 v0 v1 (by omega) (by omega), if_pos d]
  · rw [C_hasPoint_n hC (by omega) (by omega), Option.bind_some, if_pos rfl, if_neg d]
theorem DR.u764 {i : Nat} {w : Int} (h : DR r K) (hW : WQ K) (v0 : 0 ≤ v) (v1 : v < K 0 0) (hi : (i : Int) = 2 * (5 * v + K 4 v.toNat) ∨ (i : Int) = 2 * (5 * v + K 4 v.toNat) + 1) (hk : K 4 v.toNat < 5) : DR (u2 r 764 i w) K := by
  obtain ⟨h1, h2, h3, h4, h5⟩ := h
  have hvk := hW.2.2.1 v v0 v1
  unfold DR
  rw [u2_ne (show (758 : Nat) ≠ 764 by omega), u2_ne (show (766 : Nat) ≠ 764 by omega), u2_ne (show (762 : Nat) ≠ 764 by omega), u2_ne (show (760 : Nat) ≠ 764 by omega), u2_ne (show (769 : Nat) ≠ 764 by omega), u2_ne (show (771 : Nat) ≠ 764 by omega)]
  refine ⟨h1, h2, fun c k c0 c1 k0 k1 => ?_, h4, h5⟩
  have hck := hW.2.2.1 c c0 c1
  have hne : 5 * c + k ≠ 5 * v + K 4 v.toNat := fun e => by
    by_cases d : c = v
    · rw [d] at k1
      omega
    · omega
  rw [u2_i (by omega), u2_i (by omega)]
  exact h3 c k c0 c1 k0 k1
set_option maxHeartbeats 1000000 in
theorem T_p100 {X4 : Int} (hE : (∃ p0, (TA c r p0 ∧ p ≤ p0) ∧ 0 ≤ v ∧ v < K 0 0 ∧ K 4 v.toNat < 5 ∧ 1 ≤ l0 ∧ l0 ≤ 100 ∧ (1 ≤ K 4 v.toNat → K 5 (5 * v + (K 4 v.toNat - 1)).toNat < l0))) (hC : RC c a K) (hD : DR r K) (hW : WQ K) (ha : 3 < a) (h4 : c a 4 = X4) :
    ∃ c' r', ((f_X9_readNumber l0 99 c).bind fun q17 => (f_X9_readNumber 1 99 q17.2).bind fun q20 => (f_X9_isSound q20.2).bind fun q23 => if q23 = 0 then some q20.2 else (f_X1_addPoint a v q17.1 q20.1 q20.2).bind fun q27 => some q27) = some c' ∧ f_X12_readPoint_100 v (2 * (5 * v + K 4 v.toNat)) l0 (2 * (5 * v + K 4 v.toNat)) 764 r = some r' ∧ FM (SLC a) c c' ∧ FM SLR r r' ∧ LN c' r' a p (fun t => t = X4) := by
  have hw := hW.1
  obtain ⟨p0, ⟨t0, tp⟩, v0, v1, hk, l1, l2, hl⟩ := hE
  have hvk := hW.2.2.1 v v0 v1
  have e758 : ∀ {i : Nat} {w : Int} {s : Nat → Nat → Int}, (u2 s 764 i w) 758 = s 758 := u2_ne (by omega)
  have e759 : ∀ {i : Nat} {w : Int} {s : Nat → Nat → Int}, (u2 s 764 i w) 759 = s 759 := u2_ne (by omega)
  obtain ⟨x2, y2, c2, r2, a1, a2, a3, a4, a5⟩ := T_numE (q := p) (lo := l0) (hi := 99) (Or.inl ⟨p0, t0, tp⟩) (by omega) (by omega)
  have hE2 : (∃ p0, TA c2 (u2 r2 764 (2 * (5 * v + K 4 v.toNat)).toNat y2) p0 ∧ p ≤ p0) ∨ ∃ f, TX c2 (u2 r2 764 (2 * (5 * v + K 4 v.toNat)).toNat y2) f := by
    rcases a5 with ⟨_, ⟨s, b1, b2⟩, b3⟩ | ⟨f, b⟩
    · exact Or.inl ⟨s, b1.other e758 e759, b2⟩
    · exact Or.inr ⟨f, b.other e758 e759⟩
  obtain ⟨x3, y3, c3, r3, d1, d2, d3, d4, d5⟩ := T_numE (q := p) (lo := 1) (hi := 99) hE2 (by omega) (by omega)
  have z1 : z_w (2 * (5 * v + K 4 v.toNat) + 1) = 2 * (5 * v + K 4 v.toNat) + 1 := zid (by omega) (by omega)
  have z2 : z_w (4 * v) = 4 * v := zid (by omega) (by omega)
  have z3 : z_w (4 * v + 3) = 4 * v + 3 := zid (by omega) (by omega)
  have hD3 : DR (u2 r3 764 (2 * (5 * v + K 4 v.toNat) + 1).toNat y3) K := (((hD.fm a4).u764 hW v0 v1 (by omega) hk).fm d4).u764 hW v0 v1 (by omega) hk
  have hC3 : RC c3 a K := (hC.fd (by omega) ha a3).fd (by omega) ha d3
  have hm1 : FM SLR r (u2 r3 764 (2 * (5 * v + K 4 v.toNat) + 1).toNat y3) := (((SRE.lr a4).u (by unfold SLR; omega)).trans (SRE.lr d4)).u (by unfold SLR; omega)
  have hmc : FM (SLC a) c c3 := (SRD.lc a3).trans (SRD.lc d3)
  have hcl : ((f_X9_readNumber l0 99 c).bind fun q17 => (f_X9_readNumber 1 99 q17.2).bind fun q20 => (f_X9_isSound q20.2).bind fun q23 => if q23 = 0 then some q20.2 else (f_X1_addPoint a v q17.1 q20.1 q20.2).bind fun q27 => some q27) = (f_X9_isSound c3).bind fun q23 => if q23 = 0 then some c3 else (f_X1_addPoint a v x2 x3 c3).bind fun q27 => some q27 := by
    rw [a1, Option.bind_some, d1, Option.bind_some]
  have h3v : (u2 r3 764 (2 * (5 * v + K 4 v.toNat) + 1).toNat y3) 762 (4 * v + 3).toNat = K 4 v.toNat := (hD3.2.1 v v0 v1).2.2.2.1
  have hrf : f_X12_readPoint_100 v (2 * (5 * v + K 4 v.toNat)) l0 (2 * (5 * v + K 4 v.toNat)) 764 r = if (u2 r3 764 (2 * (5 * v + K 4 v.toNat) + 1).toNat y3) 758 4 = -1 then some (u2 (u2 r3 764 (2 * (5 * v + K 4 v.toNat) + 1).toNat y3) 762 (4 * v + 3).toNat (z_w (K 4 v.toNat + 1))) else some (u2 r3 764 (2 * (5 * v + K 4 v.toNat) + 1).toNat y3) := by
    unfold f_X12_readPoint_100
    have b30 : 0 ≤ 2 * (5 * v + K 4 v.toNat) ∧ 2 * (5 * v + K 4 v.toNat) < 30 := by omega
    have b31 : 0 ≤ 2 * (5 * v + K 4 v.toNat) + 1 ∧ 2 * (5 * v + K 4 v.toNat) + 1 < 30 := by omega
    have b12 : 0 ≤ 4 * v + 3 ∧ 4 * v + 3 < 12 := by omega
    rw [a2, Option.bind_some, if_pos b30]
    dsimp only
    rw [d2, Option.bind_some]
    simp only [z1, z2, z3, if_pos b31, if_pos b12, h3v]
  have h762a : (u2 r3 764 (2 * (5 * v + K 4 v.toNat) + 1).toNat y3) 764 (2 * (5 * v + K 4 v.toNat)).toNat = y2 := by
    rw [u2_i (by omega), d4 764 _ (by unfold SRE; omega), u2_e]
  have h762b : (u2 r3 764 (2 * (5 * v + K 4 v.toNat) + 1).toNat y3) 764 (2 * (5 * v + K 4 v.toNat) + 1).toNat = y3 := u2_e
  have e58 : (u2 r3 764 (2 * (5 * v + K 4 v.toNat) + 1).toNat y3) 758 = r3 758 := e758
  have e59 : (u2 r3 764 (2 * (5 * v + K 4 v.toNat) + 1).toNat y3) 759 = r3 759 := e759
  generalize u2 r3 764 (2 * (5 * v + K 4 v.toNat) + 1).toNat y3 = rr at *
  rcases d5 with ⟨⟨p2, t1, t2⟩, ⟨s, t3, t4⟩, t5, t6, t7⟩ | ⟨f, t⟩
  · rcases a5 with ⟨⟨p1, b1, b2⟩, _, b3, b4, b5⟩ | ⟨f, b⟩
    rotate_left 1
    · exfalso
      have g1 := t1.2.2.2.2.2.1
      have g2 := b.2.2.2
      omega
    have tA : TA c3 rr s := t3.other e58 e59
    obtain ⟨c', k1, k2, k3, k4⟩ := C_addPoint (s := x2) (y := x3) hC3 hW v0 v1 hk
    rw [t3.sound, Option.bind_some, if_neg (show ¬ (1 : Int) = 0 by omega), k1, Option.bind_some] at hcl
    rw [if_pos tA.2.2.2.2.2.2, zid (x := K 4 v.toNat + 1) (by omega) (by omega)] at hrf
    refine ⟨c', _, hcl, hrf, hmc.trans (k4.mono (fun b j hb => Or.inr hb)), hm1.u (by unfold SLR; omega), Or.inl ⟨s, m_addP K v x2 x3, ?_, t4, k2, ?_, hW.addP v0 v1 hk b5 (by omega) (fun w => by have := hl w; omega) ⟨t6, t7⟩, ?_⟩⟩
    · have gc : ∀ b, b < a → c' b = c3 b := fun b hb => funext fun j => k4 b j (by omega)
      obtain ⟨h1, h2, h3, h5, h6, h7, h8⟩ := tA
      exact ⟨h1.frame (by rw [gc 2 (by omega)]) (gc 3 (by omega)) (by rw [u2_c (by omega)]) (u2_ne (by omega)), by rw [gc 2 (by omega)]; exact h2, by rw [u2_c (by omega)]; exact h3, h5, by rw [u2_c (by omega)]; exact h6, by rw [gc 2 (by omega)]; exact h7, by rw [u2_c (by omega)]; exact h8⟩
    · obtain ⟨u0, u3, u4, u5, u6⟩ := hD3
      refine ⟨by rw [u2_ne (show (758 : Nat) ≠ 762 by omega)]; exact u0, fun w w0 w1 => ?_, fun w k w0 w1 k0 k1 => ?_, fun t t0 t1 => ?_, fun i hi => ?_⟩
      · have w1' : w < K 0 0 := w1
        obtain ⟨q1, q2, q3, q4, q5⟩ := u3 w w0 w1'
        refine ⟨?_, ?_, ?_, ?_, ?_⟩
        · rw [u2_i (by omega)]
          exact q1
        · rw [u2_i (by omega)]
          exact q2
        · rw [u2_i (by omega)]
          exact q3
        · show (u2 rr 762 (4 * v + 3).toNat (K 4 v.toNat + 1)) 762 (4 * w + 3).toNat = u1 (K 4) v.toNat (K 4 v.toNat + 1) w.toNat
          by_cases d : w = v
          · rw [d, u2_e, u1_e]
          · rw [u2_i (by omega), u1_i (by omega)]
            exact q4
        · rw [u2_c (by omega)]
          exact q5
      · have w1' : w < K 0 0 := w1
        have hwk := hW.2.2.1 w w0 w1'
        have k1' : k < u1 (K 4) v.toNat (K 4 v.toNat + 1) w.toNat := k1
        show (u2 rr 762 (4 * v + 3).toNat (K 4 v.toNat + 1)) 764 (2 * (5 * w + k)).toNat = u1 (K 5) (5 * v + K 4 v.toNat).toNat x2 (5 * w + k).toNat ∧ (u2 rr 762 (4 * v + 3).toNat (K 4 v.toNat + 1)) 764 (2 * (5 * w + k) + 1).toNat = u1 (K 6) (5 * v + K 4 v.toNat).toNat x3 (5 * w + k).toNat
        rw [u2_ne (show (764 : Nat) ≠ 762 by omega)]
        by_cases d : w = v
        · subst d
          rw [u1_e] at k1'
          by_cases e : k = K 4 w.toNat
          · rw [e, u1_e, u1_e]
            exact ⟨h762a.trans b3, h762b.trans t5⟩
          · rw [u1_i (by omega), u1_i (by omega)]
            exact u4 w k w0 w1' k0 (by omega)
        · rw [u1_i (by omega)] at k1'
          rw [u1_i (by omega), u1_i (by omega)]
          exact u4 w k w0 w1' k0 k1'
      · rw [u2_ne (show (766 : Nat) ≠ 762 by omega), u2_ne (show (771 : Nat) ≠ 762 by omega)]
        exact u5 t t0 t1
      · rw [u2_ne (show (760 : Nat) ≠ 762 by omega)]
        exact u6 i hi
    · rw [k3, c0_sr d3 ha, c0_sr a3 ha]
      exact h4
  · have tX : TX c3 rr f := t.other e58 e59
    rw [t.sound, Option.bind_some, if_pos rfl] at hcl
    rw [if_neg (by have := tX.2.2.2; omega)] at hrf
    refine ⟨c3, rr, hcl, hrf, hmc, hm1, Or.inr ⟨f, tX, ?_⟩⟩
    rw [hC3.n0, hD3.1.1]
    omega
set_option maxHeartbeats 1000000 in
theorem T_point (h : TA c r p) (hC : RC c a K) (hD : DR r K) (hW : WQ K) (ha : 3 < a) : ∃ c' r', f_X10_readPoint a c = some c' ∧ f_X12_readPoint r = some r' ∧ FM (SLC a) c c' ∧ FM SLR r r' ∧ LN c' r' a p (fun t => t = c a 4) := by
  have hw := hW.1
  obtain ⟨x, c1, r1, s, q, g1, g2, g3, g4, gq, g5⟩ := T_word h
  have hC1 := hC.fd (by omega) ha g3
  have hD1 := hD.fm g4
  have hcn := C_clusterNamed (x := x) hC1 (by omega)
  have e4 : c1 a 4 = c a 4 := c0_sr g3 ha 4
  have hsp := m_spot_in (f := K 11) (n := K 0 0) (x := x)
  have hcl : f_X10_readPoint a c = (f_X1_hasCluster a (m_spot (K 11) (K 0 0) x) c1).bind fun q7 => if q7 = 0 then f_X10_readPoint_30 c1 else (if 0 ≤ m_spot (K 11) (K 0 0) x ∧ m_spot (K 11) (K 0 0) x < 3 then if c1 (a + 5) (m_spot (K 11) (K 0 0) x).toNat < 5 then ((f_X1_lastSpeed a (m_spot (K 11) (K 0 0) x) c1).bind fun q14 => (f_X9_readNumber (z_w (q14 + 1)) 99 c1).bind fun q17 => (f_X9_readNumber 1 99 q17.2).bind fun q20 => (f_X9_isSound q20.2).bind fun q23 => if q23 = 0 then some q20.2 else (f_X1_addPoint a (m_spot (K 11) (K 0 0) x) q17.1 q20.1 q20.2).bind fun q27 => some q27) else f_X10_readPoint_30 c1 else none) := by
    unfold f_X10_readPoint
    rw [g1, Option.bind_some]
    dsimp only
    rw [hcn, Option.bind_some]
  rcases g5 with ⟨b1, b2, b3, b4, b5, b6⟩ | ⟨b1, b2⟩
  · have hrs := R_spotOf (r := r1) (x := x) (b := 769) (N := 3) (g := K 11) (n := K 0 0) (by omega) (by omega) (by omega) (fun v v0 v1 => (hD1.2.1 v v0 v1).2.2.2.2)
    have hrf : f_X12_readPoint r = if m_spot (K 11) (K 0 0) x = -1 then f_X12_readPoint_48 r1 else (if 0 ≤ z_w (z_w (4 * m_spot (K 11) (K 0 0) x) + 3) ∧ z_w (z_w (4 * m_spot (K 11) (K 0 0) x) + 3) < 12 then if r1 762 (z_w (z_w (4 * m_spot (K 11) (K 0 0) x) + 3)).toNat = 5 then f_X12_readPoint_48 r1 else (if 0 ≤ z_w (z_w (4 * m_spot (K 11) (K 0 0) x) + 3) ∧ z_w (z_w (4 * m_spot (K 11) (K 0 0) x) + 3) < 12 then if r1 762 (z_w (z_w (4 * m_spot (K 11) (K 0 0) x) + 3)).toNat = 0 then f_X12_readPoint_100 (m_spot (K 11) (K 0 0) x) (z_w (2 * z_w (z_w (5 * m_spot (K 11) (K 0 0) x) + r1 762 (z_w (z_w (4 * m_spot (K 11) (K 0 0) x) + 3)).toNat))) 1 (z_w (2 * z_w (z_w (5 * m_spot (K 11) (K 0 0) x) + r1 762 (z_w (z_w (4 * m_spot (K 11) (K 0 0) x) + 3)).toNat))) 764 r1 else (if 0 ≤ z_w (z_w (2 * z_w (z_w (5 * m_spot (K 11) (K 0 0) x) + r1 762 (z_w (z_w (4 * m_spot (K 11) (K 0 0) x) + 3)).toNat)) - 2) ∧ z_w (z_w (2 * z_w (z_w (5 * m_spot (K 11) (K 0 0) x) + r1 762 (z_w (z_w (4 * m_spot (K 11) (K 0 0) x) + 3)).toNat)) - 2) < 30 then f_X12_readPoint_100 (m_spot (K 11) (K 0 0) x) (z_w (2 * z_w (z_w (5 * m_spot (K 11) (K 0 0) x) + r1 762 (z_w (z_w (4 * m_spot (K 11) (K 0 0) x) + 3)).toNat))) (z_w (r1 764 (z_w (z_w (2 * z_w (z_w (5 * m_spot (K 11) (K 0 0) x) + r1 762 (z_w (z_w (4 * m_spot (K 11) (K 0 0) x) + 3)).toNat)) - 2)).toNat + 1)) (z_w (2 * z_w (z_w (5 * m_spot (K 11) (K 0 0) x) + r1 762 (z_w (z_w (4 * m_spot (K 11) (K 0 0) x) + 3)).toNat))) 764 r1 else none) else none) else none) := by
      unfold f_X12_readPoint
      rw [g2, Option.bind_some, if_pos b1.2.2.2.2.2.2, b2, hD1.1.1, hrs, Option.bind_some]
    have h48 : f_X12_readPoint_48 r1 = some (u2 r1 758 4 q) := by
      unfold f_X12_readPoint_48
      rw [R_fails b1.2.2.2.2.2.2, Option.bind_some, b4]
    have h30 : f_X10_readPoint_30 c1 = some (u2 c1 2 4 q) := by
      unfold f_X10_readPoint_30
      rw [C_refusePart b1.2.2.2.2.2.1, Option.bind_some, b3]
    have bad : f_X10_readPoint a c = some (u2 c1 2 4 q) → f_X12_readPoint r = some (u2 r1 758 4 q) → ∃ c' r', f_X10_readPoint a c = some c' ∧ f_X12_readPoint r = some r' ∧ FM (SLC a) c c' ∧ FM SLR r r' ∧ LN c' r' a p (fun t => t = c a 4) := fun e1 e2 => by
      refine ⟨_, _, e1, e2, (SRD.lc g3).u (by unfold SLC SRD; omega), (SRE.lr g4).u (by unfold SLR SRE; omega), Or.inr ⟨q, b1.fails (c' := c1) (r' := r1) (by have := h.2.2.2.1; omega), ?_⟩⟩
      rw [u2_c (by omega), hC1.n0, u2_i (by omega), hD1.1.1]
      omega
    rcases hsp with e | ⟨v0, v1, ve⟩
    · rw [e] at hcl hrf
      rw [C_hasCluster_n hC1 (by omega), Option.bind_some, if_pos rfl, h30] at hcl
      rw [if_pos rfl, h48] at hrf
      exact bad hcl hrf
    · generalize m_spot (K 11) (K 0 0) x = v at *
      have hvk := hW.2.2.1 v v0 v1
      have hv4 := (hD1.2.1 v v0 v1).2.2.2.1
      rw [C_hasCluster_y hC1 v0 v1, Option.bind_some, if_neg (show ¬ (1 : Int) = 0 by omega), if_pos (show 0 ≤ v ∧ v < 3 by omega), hC1.c5 v0 v1, C_lastSpeed hC1 hW v0 v1, Option.bind_some] at hcl
      rw [if_neg (show ¬ v = -1 by omega), zid (x := 4 * v) (by omega) (by omega), zid (x := 4 * v + 3) (by omega) (by omega), if_pos (show 0 ≤ 4 * v + 3 ∧ 4 * v + 3 < 12 by omega), hv4, if_pos (show 0 ≤ 4 * v + 3 ∧ 4 * v + 3 < 12 by omega), zid (x := 5 * v) (by omega) (by omega), zid (x := 5 * v + K 4 v.toNat) (by omega) (by omega), zid (x := 2 * (5 * v + K 4 v.toNat)) (by omega) (by omega), zid (x := 2 * (5 * v + K 4 v.toNat) - 2) (by omega) (by omega)] at hrf
      by_cases d : K 4 v.toNat < 5
      · rw [if_pos d] at hcl
        rw [if_neg (show ¬ K 4 v.toNat = 5 by omega)] at hrf
        by_cases d0 : K 4 v.toNat = 0
        · rw [if_neg (show ¬ 1 ≤ K 4 v.toNat by omega), zid (x := 0 + 1) (by omega) (by omega)] at hcl
          rw [if_pos d0] at hrf
          obtain ⟨c', r', k1, k2, k3, k4, k5⟩ := T_p100 (p := p) (v := v) (l0 := 0 + 1) ⟨s, ⟨b1, b5⟩, v0, v1, d, by omega, by omega, fun w => by omega⟩ hC1 hD1 hW ha e4
          exact ⟨c', r', hcl.trans k1, hrf.trans k2, (SRD.lc g3).trans k3, (SRE.lr g4).trans k4, k5⟩
        · have hpl := hW.2.2.2.1 v (K 4 v.toNat - 1) v0 v1 (by omega) (by omega)
          have h764 := (hD1.2.2.1 v (K 4 v.toNat - 1) v0 v1 (by omega) (by omega)).1
          rw [if_pos (show 1 ≤ K 4 v.toNat by omega), zid (x := K 5 (5 * v + (K 4 v.toNat - 1)).toNat + 1) (by omega) (by omega)] at hcl
          rw [if_neg d0, if_pos (by omega), show 2 * (5 * v + K 4 v.toNat) - 2 = 2 * (5 * v + (K 4 v.toNat - 1)) from by omega, h764, zid (x := K 5 (5 * v + (K 4 v.toNat - 1)).toNat + 1) (by omega) (by omega)] at hrf
          obtain ⟨c', r', k1, k2, k3, k4, k5⟩ := T_p100 (p := p) (v := v) (l0 := K 5 (5 * v + (K 4 v.toNat - 1)).toNat + 1) ⟨s, ⟨b1, b5⟩, v0, v1, d, by omega, by omega, fun w => by omega⟩ hC1 hD1 hW ha e4
          exact ⟨c', r', hcl.trans k1, hrf.trans k2, (SRD.lc g3).trans k3, (SRE.lr g4).trans k4, k5⟩
      · rw [if_neg d, h30] at hcl
        rw [if_pos (show K 4 v.toNat = 5 by omega), h48] at hrf
        exact bad hcl hrf
  · have e : m_spot (K 11) (K 0 0) x = -1 := by
      rcases hsp with e | ⟨v0, v1, ve⟩
      · exact e
      · have := (hW.2.2.1 _ v0 v1).2.2.2.2.2.2.2.2.ne
        rw [ve, b2] at this
        exact absurd rfl this
    rw [e, C_hasCluster_n hC1 (by omega), Option.bind_some, if_pos rfl] at hcl
    unfold f_X10_readPoint_30 at hcl
    rw [C_refusePartX (by have := b1.2.2.2; omega), Option.bind_some] at hcl
    have hrf : f_X12_readPoint r = some r1 := by
      unfold f_X12_readPoint
      rw [g2, Option.bind_some, if_neg (by have := b1.2.2.2; omega)]
    refine ⟨c1, r1, hcl, hrf, SRD.lc g3, SRE.lr g4, Or.inr ⟨q, b1, ?_⟩⟩
    rw [hC1.n0, hD1.1.1]
    omega
end S_PT
