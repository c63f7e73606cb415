-- lines of clusters and tasks, both sides
def m_addT (K : Nat → Nat → Int) (x n1 n2 : Int) : Nat → Nat → Int := fun b => if b = 0 then u1 (K 0) 1 (K 0 1 + 1) else if b = 8 then u1 (K 8) (K 0 1).toNat n1 else if b = 9 then u1 (K 9) (K 0 1).toNat n2 else if b = 12 then u1 (K 12) (K 0 1).toNat x else K b
section S_LT
variable {c r K : Nat → Nat → Int} {a : Nat} {p q f x lo hi n1 n2 n3 y : Int}
theorem LN.mono {t u : Int → Prop} {p p' : Int} (h : LN c r a p t) (hp : p' ≤ p) (ht : ∀ v, t v → u v) : LN c r a p' u := by
  rcases h with ⟨s, K, h1, h2, h3, h4, h5, h6⟩ | h
  · exact Or.inl ⟨s, K, h1, by omega, h3, h4, h5, ht _ h6⟩
  · exact Or.inr h
/-- refused at the part -/
theorem LN.bad {t : Int → Prop} (h : TA c r p) (hC : RC c a K) (hD : DR r K) (hW : WQ K) (ha : 3 < a) (h3 : c 2 3 = q) (q0 : 0 ≤ q) : ∃ c', f_X9_refusePart c = some c' ∧ FM SRD c c' ∧ LN c' (u2 r 758 4 q) a p t := by
  have hw := hW.1
  refine ⟨u2 c 2 4 q, by rw [C_refusePart h.2.2.2.2.2.1, h3], FM.refl.u (by unfold SRD; omega), Or.inr ⟨q, h.fails (c' := c) (r' := r) q0, ?_⟩⟩
  rw [u2_c (by omega), hC.n0, u2_i (by omega), hD.1.1]
  omega
theorem R_numberX {lo hi : Int} (h : r 758 4 ≠ -1) : f_X12_number lo hi r = some (lo, r) := if_neg h
theorem R_c60_any {v v' : Int} (hn : 0 ≤ K 0 0 ∧ K 0 0 < 3) (h : r 758 4 ≠ -1) : f_X12_readCluster_60 v (4 * K 0 0) r = f_X12_readCluster_60 v' (4 * K 0 0) r := by
  have z1 : z_w (4 * K 0 0 + 1) = 4 * K 0 0 + 1 := zid (by omega) (by omega)
  have z2 : z_w (4 * K 0 0 + 2) = 4 * K 0 0 + 2 := zid (by omega) (by omega)
  have z3 : z_w (4 * K 0 0 + 3) = 4 * K 0 0 + 3 := zid (by omega) (by omega)
  have hh : ∀ v, f_X12_readCluster_60 v (4 * K 0 0) r = some (u2 (u2 (u2 r 762 (4 * K 0 0 + 1).toNat 0) 762 (4 * K 0 0 + 2).toNat 0) 762 (4 * K 0 0 + 3).toNat 0) := fun v => by
    have h2 : (u2 r 762 (4 * K 0 0 + 1).toNat 0) 758 4 ≠ -1 := by
      rw [u2_c (by omega)]
      exact h
    have h3 : (u2 (u2 (u2 r 762 (4 * K 0 0 + 1).toNat 0) 762 (4 * K 0 0 + 2).toNat 0) 762 (4 * K 0 0 + 3).toNat 0) 758 4 ≠ -1 := by
      rw [u2_c (by omega), u2_c (by omega)]
      exact h2
    unfold f_X12_readCluster_60
    rw [R_numberX h, Option.bind_some, z1, if_pos (by omega)]
    dsimp only
    rw [R_numberX h2, Option.bind_some, z2, if_pos (by omega), z3, if_pos (by omega)]
    dsimp only
    rw [if_neg h3]
  rw [hh v, hh v']
set_option maxHeartbeats 1000000 in
theorem T_cluster (h : TA c r p) (hC : RC c a K) (hD : DR r K) (hW : WQ K) (hn : K 0 0 < 3) (ha : 3 < a) : ∃ c' r', f_X10_readCluster a c = some c' ∧ f_X12_readCluster r = some r' ∧ FM (SLC a) c c' ∧ FM SLR r r' ∧ LN c' r' a p (fun t => t = c a 4) := by
  have hw := hW.1
  obtain ⟨x, c1, r1, g1, g2, g3, g4, g5⟩ := T_newName h hC hD hW ha
  have hC1 := hC.fd (by omega) ha g3
  have hD1 := hD.fm g4
  have e2 : c1 a 2 = K 0 2 := hC1.n2
  have hcl : f_X10_readCluster a c = (f_X9_readNumber 1 (min 3 (6 - K 0 2)) c1).bind fun q7 => (f_X9_readNumber 0 99 q7.2).bind fun q10 => (f_X9_readNumber 0 99 q10.2).bind fun q13 => (f_X9_isSound q13.2).bind fun q16 => if q16 = 0 then some q13.2 else (f_X1_addCluster a x q7.1 q10.1 q13.1 q13.2).bind fun q20 => some q20 := by
    unfold f_X10_readCluster
    rw [hC.n0, if_pos hn, g1, Option.bind_some]
    dsimp only
    rw [e2, zid (x := 6 - K 0 2) (by omega) (by omega)]
  have hrf : f_X12_readCluster r = (f_X12_number 1 3 r1).bind fun q6 => if (u2 q6.2 762 (4 * K 0 0).toNat q6.1) 758 4 = -1 then (if z_w ((u2 q6.2 762 (4 * K 0 0).toNat q6.1) 758 24 + (u2 q6.2 762 (4 * K 0 0).toNat q6.1) 762 (4 * K 0 0).toNat) ≤ 6 then f_X12_readCluster_60 (r1 758 6) (4 * K 0 0) (u2 q6.2 762 (4 * K 0 0).toNat q6.1) else (f_X12_fails ((u2 q6.2 762 (4 * K 0 0).toNat q6.1) 758 5) (u2 q6.2 762 (4 * K 0 0).toNat q6.1)).bind fun q17 => f_X12_readCluster_60 (r1 758 6) (4 * K 0 0) q17) else f_X12_readCluster_60 (r1 758 6) (4 * K 0 0) (u2 q6.2 762 (4 * K 0 0).toNat q6.1) := by
    unfold f_X12_readCluster
    rw [g2, Option.bind_some, hD1.1.1, zid (x := 4 * K 0 0) (by omega) (by omega)]
    have b12 : 0 ≤ 4 * K 0 0 ∧ 4 * K 0 0 < 12 := by omega
    simp only [if_pos b12]
  have e758 : ∀ {i : Nat} {v : Int} {s : Nat → Nat → Int}, (u2 s 762 i v) 758 = s 758 := u2_ne (by omega)
  have e759 : ∀ {i : Nat} {v : Int} {s : Nat → Nat → Int}, (u2 s 762 i v) 759 = s 759 := u2_ne (by omega)
  rcases g5 with ⟨s, b1, b2, b3, b4⟩ | ⟨f, b⟩
  · obtain ⟨n1, y, c2, r2, s2, q2, d1, d2, d3, d4, d5⟩ := T_number2 (lo := 1) (hi' := min 3 (6 - K 0 2)) (hi := 3) b1 (by omega) (by omega) (by omega)
    rw [d1, Option.bind_some] at hcl
    dsimp only at hcl
    have hC2 := hC1.fd (by omega) ha d3
    have hD2 := (hD1.fm d4).u762 (i := (4 * K 0 0).toNat) (v := y) (by omega)
    have h4a : c2 a 4 = c a 4 := by rw [c0_sr d3 ha, c0_sr g3 ha]
    have e24 : (u2 r2 762 (4 * K 0 0).toNat y) 758 24 = K 0 2 := hD2.1.2.2
    have mm1 : FM SLR r (u2 r2 762 (4 * K 0 0).toNat y) := ((SRE.lr g4).trans (SRE.lr d4)).u (by unfold SLR; omega)
    have mc1 : FM (SLC a) c c2 := (SRD.lc g3).trans (SRD.lc d3)
    rw [d2, Option.bind_some] at hrf
    simp only [b3, e24, u2_e] at hrf
    rcases d5 with ⟨w1, w2, w3, w4, w5, w6, w7⟩ | ⟨w1, w2, w3, w4, w5, w6⟩ | ⟨w1, w2⟩
    · have tA : TA c2 (u2 r2 762 (4 * K 0 0).toNat y) s2 := w1.other e758 e759
      rw [if_pos tA.2.2.2.2.2.2, zid (x := K 0 2 + y) (by omega) (by omega), if_pos (by omega)] at hrf
      obtain ⟨c', r', k1, k2, k3, k4, k5⟩ := T_c60 (p := p) (x := x) (n1 := n1) (Or.inl ⟨s2, ⟨tA, by omega⟩, b4, by omega, by omega, by omega, by rw [u2_e, w5]⟩) hC2 hD2 hW hn ha h4a
      exact ⟨c', r', hcl.trans k1, hrf.trans k2, mc1.trans k3, mm1.trans k4, k5⟩
    · have t4 : (u2 r2 762 (4 * K 0 0).toNat y) 758 4 = -1 := by rw [e758]; exact w2
      have t5 : (u2 r2 762 (4 * K 0 0).toNat y) 758 5 = q2 := by rw [e758]; exact w1
      rw [if_pos t4, zid (x := K 0 2 + y) (by omega) (by omega), if_neg (by omega), t5, R_fails t4, Option.bind_some] at hrf
      have tX : TX c2 (u2 (u2 r2 762 (4 * K 0 0).toNat y) 758 4 q2) q2 := by
        obtain ⟨x1, x2, x3, x4, x5, x6⟩ := w6
        exact ⟨x1.frame rfl rfl (by rw [u2_i (show (2 : Nat) ≠ 4 by omega), e758, u2_i (show (2 : Nat) ≠ 4 by omega)]) (by rw [u2_ne (show (759 : Nat) ≠ 758 by omega), e759, u2_ne (show (759 : Nat) ≠ 758 by omega)]), x2, x3, x4, u2_e, x6⟩
      obtain ⟨c', r', k1, k2, k3, k4, k5⟩ := T_c60 (p := p) (x := x) (n1 := n1) (Or.inr ⟨q2, tX⟩) hC2 (hD2.fm (FM.refl.u (by unfold SRE; omega))) hW hn ha h4a
      exact ⟨c', r', hcl.trans k1, hrf.trans k2, mc1.trans k3, (mm1.u (by unfold SLR SRE; omega)).trans k4, k5⟩
    · have tX : TX c2 (u2 r2 762 (4 * K 0 0).toNat y) q2 := w1.other e758 e759
      rw [if_neg (by have := tX.2.2.2; omega)] at hrf
      obtain ⟨c', r', k1, k2, k3, k4, k5⟩ := T_c60 (p := p) (x := x) (n1 := n1) (Or.inr ⟨q2, tX⟩) hC2 hD2 hW hn ha h4a
      exact ⟨c', r', hcl.trans k1, hrf.trans k2, mc1.trans k3, mm1.trans k4, k5⟩
  · obtain ⟨n1, c2, d1, d2, d3, d4⟩ := b.number (lo := 1) (hi := min 3 (6 - K 0 2))
    obtain ⟨n1', c2', d1', d2', _⟩ := b.number (lo := 1) (hi := 3)
    rw [d1, Option.bind_some] at hcl
    dsimp only at hcl
    have hC2 := hC1.fd (by omega) ha d4
    have hD2 := hD1.u762 (i := (4 * K 0 0).toNat) (v := 1) (by omega)
    have h4a : c2 a 4 = c a 4 := by rw [c0_sr d4 ha, c0_sr g3 ha]
    rw [d2', Option.bind_some] at hrf
    have tX : TX c2 (u2 r1 762 (4 * K 0 0).toNat 1) f := d3.other e758 e759
    dsimp only at hrf
    rw [if_neg (by have := tX.2.2.2; omega)] at hrf
    have mc1 : FM (SLC a) c c2 := (SRD.lc g3).trans (SRD.lc d4)
    obtain ⟨c', r', k1, k2, k3, k4, k5⟩ := T_c60 (p := p) (x := x) (n1 := n1) (Or.inr ⟨f, tX⟩) hC2 hD2 hW hn ha h4a
    rw [R_c60_any (v' := x) (by omega) (by have := tX.2.2.2; omega), k2] at hrf
    exact ⟨c', r', hcl.trans k1, hrf, mc1.trans k3, ((SRE.lr g4).u (by unfold SLR; omega)).trans k4, k5⟩
theorem WQ.addT (h : WQ K) (hn : K 0 1 < 4) (hx : NK x) (h1 : 1 ≤ n1 ∧ n1 ≤ 999) (h2 : 1 ≤ n2 ∧ n2 ≤ 20) : WQ (m_addT K x n1 n2) := by
  obtain ⟨w0, w1, w2, w3, w4, w5, w6, w7, w8⟩ := h
  have e0 : m_addT K x n1 n2 0 = u1 (K 0) 1 (K 0 1 + 1) := rfl
  have mf : ∀ v, m_first (m_addT K x n1 n2) v = m_first K v := fun _ => rfl
  unfold WQ
  rw [e0]
  refine ⟨?_, ?_, w2, w3, w4, w5, w6, fun t t0 t1 => ?_, w8⟩
  · rw [u1_i (by omega), u1_e, u1_i (by omega), u1_i (by omega)]
    omega
  · rw [u1_i (by omega), u1_i (by omega), mf]
    exact w1
  · rw [u1_e] at t1
    show 1 ≤ u1 (K 8) (K 0 1).toNat n1 t.toNat ∧ u1 (K 8) (K 0 1).toNat n1 t.toNat ≤ 999 ∧ 1 ≤ u1 (K 9) (K 0 1).toNat n2 t.toNat ∧ u1 (K 9) (K 0 1).toNat n2 t.toNat ≤ 20 ∧ NK (u1 (K 12) (K 0 1).toNat x t.toNat)
    by_cases d : t = K 0 1
    · rw [d, u1_e, u1_e, u1_e]
      exact ⟨h1.1, h1.2, h2.1, h2.2, hx⟩
    · have hv : t.toNat ≠ (K 0 1).toNat := by omega
      rw [u1_i hv, u1_i hv, u1_i hv]
      exact w7 t t0 (by omega)
theorem C_addTask (hC : RC c a K) (hW : WQ K) (hn : K 0 1 < 4) : ∃ c', f_X1_addTask a x n1 n2 c = some c' ∧ RC c' a (m_addT K x n1 n2) ∧ c' a 4 = c a 4 ∧ FM (fun b _ => a ≤ b ∧ b < a + 19) c c' := by
  have hw := hW.1
  have hh1 := hC.n1
  refine ⟨u2 (u2 (u2 (u2 c (a + 15) (K 0 1).toNat x) (a + 16) (K 0 1).toNat n1) (a + 17) (K 0 1).toNat n2) a 1 (K 0 1 + 1), ?_, ?_, ?_, (((FM.refl.u (by omega)).u (by omega)).u (by omega)).u (by omega)⟩
  · unfold f_X1_addTask
    have b4 : 0 ≤ K 0 1 ∧ K 0 1 < 4 := by omega
    have z : z_w (K 0 1 + 1) = K 0 1 + 1 := zid (by omega) (by omega)
    rw [hh1, if_pos hn]
    simp (disch := omega) only [u2_c, hh1, if_pos b4, z]
  · obtain ⟨⟨r0, r1, r2, r3⟩, r4, r5, r6, r7, r8⟩ := hC
    refine ⟨⟨?_, ?_, ?_, ?_⟩, fun v v0 v1 => ?_, fun v p v0 v1 p0 p1 => ?_, fun v v0 v1 => ?_, fun t t0 t1 => ?_, fun i hi => ?_⟩
    · simp (disch := first | assumption | omega) only [if_true, if_false, zid, zlid, if_pos, if_neg, u2_e, u2_c, u2_i, u1_e, u1_i, Option.bind_some]
      exact r0
    · rw [u2_e]
      rfl
    · simp (disch := first | assumption | omega) only [if_true, if_false, zid, zlid, if_pos, if_neg, u2_e, u2_c, u2_i, u1_e, u1_i, Option.bind_some]
      exact r2
    · simp (disch := first | assumption | omega) only [if_true, if_false, zid, zlid, if_pos, if_neg, u2_e, u2_c, u2_i, u1_e, u1_i, Option.bind_some]
      exact r3
    · rw [u2_ne (by omega), u2_ne (by omega), u2_ne (by omega), u2_ne (by omega), u2_ne (by omega), u2_ne (by omega), u2_ne (by omega), u2_ne (by omega), u2_ne (by omega), u2_ne (by omega), u2_ne (by omega), u2_ne (by omega), u2_ne (by omega), u2_ne (by omega), u2_ne (by omega), u2_ne (by omega), u2_ne (by omega), u2_ne (by omega), u2_ne (by omega), u2_ne (by omega)]
      exact r4 v v0 v1
    · have v1' : v < K 0 0 := v1
      rw [u2_ne (by omega), u2_ne (by omega), u2_ne (by omega), u2_ne (by omega), u2_ne (by omega), u2_ne (by omega), u2_ne (by omega), u2_ne (by omega)]
      exact r5 v p v0 v1 p0 p1
    · rw [u2_ne (by omega), u2_ne (by omega), u2_ne (by omega), u2_ne (by omega)]
      exact r6 v v0 v1
    · have t1' : t < K 0 1 + 1 := t1
      show (u2 (u2 (u2 (u2 c (a + 15) (K 0 1).toNat x) (a + 16) (K 0 1).toNat n1) (a + 17) (K 0 1).toNat n2) a 1 (K 0 1 + 1)) (a + 15) t.toNat = u1 (K 12) (K 0 1).toNat x t.toNat ∧ (u2 (u2 (u2 (u2 c (a + 15) (K 0 1).toNat x) (a + 16) (K 0 1).toNat n1) (a + 17) (K 0 1).toNat n2) a 1 (K 0 1 + 1)) (a + 16) t.toNat = u1 (K 8) (K 0 1).toNat n1 t.toNat ∧ (u2 (u2 (u2 (u2 c (a + 15) (K 0 1).toNat x) (a + 16) (K 0 1).toNat n1) (a + 17) (K 0 1).toNat n2) a 1 (K 0 1 + 1)) (a + 17) t.toNat = u1 (K 9) (K 0 1).toNat n2 t.toNat
      have f1 : (u2 (u2 (u2 (u2 c (a + 15) (K 0 1).toNat x) (a + 16) (K 0 1).toNat n1) (a + 17) (K 0 1).toNat n2) a 1 (K 0 1 + 1)) (a + 15) = u1 (c (a + 15)) (K 0 1).toNat x := by
        rw [u2_ne (by omega), u2_ne (by omega), u2_ne (by omega), u2_row]
      have f2 : (u2 (u2 (u2 (u2 c (a + 15) (K 0 1).toNat x) (a + 16) (K 0 1).toNat n1) (a + 17) (K 0 1).toNat n2) a 1 (K 0 1 + 1)) (a + 16) = u1 (c (a + 16)) (K 0 1).toNat n1 := by
        rw [u2_ne (by omega), u2_ne (by omega), u2_row, u2_ne (by omega)]
      have f3 : (u2 (u2 (u2 (u2 c (a + 15) (K 0 1).toNat x) (a + 16) (K 0 1).toNat n1) (a + 17) (K 0 1).toNat n2) a 1 (K 0 1 + 1)) (a + 17) = u1 (c (a + 17)) (K 0 1).toNat n2 := by
        rw [u2_ne (by omega), u2_row, u2_ne (by omega), u2_ne (by omega)]
      rw [f1, f2, f3]
      by_cases d : t = K 0 1
      · rw [d, u1_e, u1_e, u1_e, u1_e, u1_e, u1_e]
        exact ⟨rfl, rfl, rfl⟩
      · have hv : t.toNat ≠ (K 0 1).toNat := by omega
        rw [u1_i hv, u1_i hv, u1_i hv, u1_i hv, u1_i hv, u1_i hv]
        exact r7 t t0 (by omega)
    · rw [u2_ne (by omega), u2_ne (by omega), u2_ne (by omega), u2_ne (by omega)]
      exact r8 i hi
  · simp (disch := first | assumption | omega) only [if_true, if_false, zid, zlid, if_pos, if_neg, u2_e, u2_c, u2_i, u1_e, u1_i, Option.bind_some]
end S_LT
