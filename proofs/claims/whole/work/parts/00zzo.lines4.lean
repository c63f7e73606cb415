-- lines of tasks and points, both sides
def m_addP (K : Nat → Nat → Int) (v s k : Int) : Nat → Nat → Int := fun b => if b = 0 then u1 (K 0) 3 (max (K 0 3) s) else if b = 4 then u1 (K 4) v.toNat (K 4 v.toNat + 1) else if b = 5 then u1 (K 5) (5 * v + K 4 v.toNat).toNat s else if b = 6 then u1 (K 6) (5 * v + K 4 v.toNat).toNat k else K b
section S_LP
variable {c r K : Nat → Nat → Int} {a : Nat} {p q f x lo hi n1 n2 n3 y v s : Int}
theorem DR.u766 {i : Nat} {w : Int} (h : DR r K) (hi : 2 * K 0 1 ≤ i) : DR (u2 r 766 i w) K := by
  obtain ⟨h1, h2, h3, h4, h5⟩ := h
  unfold DR
  rw [u2_ne (show (758 : Nat) ≠ 766 by omega), u2_ne (show (764 : Nat) ≠ 766 by omega), u2_ne (show (762 : Nat) ≠ 766 by omega), u2_ne (show (760 : Nat) ≠ 766 by omega), u2_ne (show (769 : Nat) ≠ 766 by omega), u2_ne (show (771 : Nat) ≠ 766 by omega)]
  refine ⟨h1, h2, h3, fun t t0 t1 => ?_, h5⟩
  rw [u2_i (by omega), u2_i (by omega)]
  exact h4 t t0 t1
set_option maxHeartbeats 1000000 in
theorem T_task (h : TA c r p) (hC : RC c a K) (hD : DR r K) (hW : WQ K) (hn : K 0 1 < 4) (ha : 3 < a) : ∃ c' r', f_X10_readTask a c = some c' ∧ f_X12_readTask r = some r' ∧ FM (SLC a) c c' ∧ FM SLR r r' ∧ LN c' r' a p (fun t => t = c a 4) := by
  have hw := hW.1
  obtain ⟨x, c1, r1, g1, g2, g3, g4, g5⟩ := T_newName h hC hD hW ha
  have hC1 := hC.fd (by omega) ha g3
  have hD1 := hD.fm g4
  have e758 : ∀ {i : Nat} {v : Int} {s : Nat → Nat → Int}, (u2 s 766 i v) 758 = s 758 := u2_ne (by omega)
  have e759 : ∀ {i : Nat} {v : Int} {s : Nat → Nat → Int}, (u2 s 766 i v) 759 = s 759 := u2_ne (by omega)
  have hE1 : (∃ p0, TA c1 r1 p0 ∧ p ≤ p0) ∨ ∃ f, TX c1 r1 f := by
    rcases g5 with ⟨s, b1, b2, b3⟩ | b
    · exact Or.inl ⟨s, b1, b2⟩
    · exact Or.inr b
  obtain ⟨x2, y2, c2, r2, a1, a2, a3, a4, a5⟩ := T_numE (q := p) (lo := 1) (hi := 999) hE1 (by omega) (by omega)
  have hE2 : (∃ p0, TA c2 (u2 r2 766 (2 * K 0 1).toNat y2) p0 ∧ p ≤ p0) ∨ ∃ f, TX c2 (u2 r2 766 (2 * K 0 1).toNat y2) f := by
    rcases a5 with ⟨_, ⟨s, b1, b2⟩, b3⟩ | ⟨f, b⟩
    · exact Or.inl ⟨s, b1.other e758 e759, b2⟩
    · exact Or.inr ⟨f, b.other e758 e759⟩
  obtain ⟨x3, y3, c3, r3, d1, d2, d3, d4, d5⟩ := T_numE (q := p) (lo := 1) (hi := 20) hE2 (by omega) (by omega)
  have hD3 : DR (u2 r3 766 (2 * K 0 1 + 1).toNat y3) K := (((hD1.fm a4).u766 (by omega)).fm d4).u766 (by omega)
  have hC3 : RC c3 a K := (hC1.fd (by omega) ha a3).fd (by omega) ha d3
  have hm1 : FM SLR r (u2 r3 766 (2 * K 0 1 + 1).toNat y3) := ((((SRE.lr g4).trans (SRE.lr a4)).u (by unfold SLR; omega)).trans (SRE.lr d4)).u (by unfold SLR; omega)
  have hmc : FM (SLC a) c c3 := ((SRD.lc g3).trans (SRD.lc a3)).trans (SRD.lc d3)
  have h22a : r1 758 22 = K 0 1 := hD1.1.2.1
  have h22b : (u2 r2 766 (2 * K 0 1).toNat y2) 758 22 = K 0 1 := (((hD1.fm a4).u766 (i := (2 * K 0 1).toNat) (w := y2) (by omega))).1.2.1
  have h22c : (u2 r3 766 (2 * K 0 1 + 1).toNat y3) 758 22 = K 0 1 := hD3.1.2.1
  have hcl : f_X10_readTask a c = (f_X9_isSound c3).bind fun q12 => if q12 = 0 then some c3 else (f_X1_addTask a x x2 x3 c3).bind fun q16 => some q16 := by
    unfold f_X10_readTask
    rw [hC.n1, if_pos hn, g1, Option.bind_some]
    dsimp only
    rw [a1, Option.bind_some, d1, Option.bind_some]
  have hrf : f_X12_readTask r = if (u2 r3 766 (2 * K 0 1 + 1).toNat y3) 758 4 = -1 then some (u2 (u2 (u2 r3 766 (2 * K 0 1 + 1).toNat y3) 771 (K 0 1).toNat (r1 758 6)) 758 22 (z_w (K 0 1 + 1))) else some (u2 r3 766 (2 * K 0 1 + 1).toNat y3) := by
    unfold f_X12_readTask
    have b8 : 0 ≤ 2 * K 0 1 ∧ 2 * K 0 1 < 8 := by omega
    have b9 : 0 ≤ 2 * K 0 1 + 1 ∧ 2 * K 0 1 + 1 < 8 := by omega
    have b4 : 0 ≤ K 0 1 ∧ K 0 1 < 4 := by omega
    have z2 : z_w (2 * K 0 1) = 2 * K 0 1 := zid (by omega) (by omega)
    have z3 : z_w (2 * K 0 1 + 1) = 2 * K 0 1 + 1 := zid (by omega) (by omega)
    have h22d : (u2 (u2 r3 766 (2 * K 0 1 + 1).toNat y3) 771 (K 0 1).toNat (r1 758 6)) 758 22 = K 0 1 := (u2_c (by omega)).trans h22c
    rw [g2, Option.bind_some, a2, Option.bind_some]
    simp only [h22a, z2, if_pos b8, h22b, z3]
    rw [d2, Option.bind_some]
    simp only [if_pos b9, h22c, if_pos b4, h22d]
  have h762a : (u2 r3 766 (2 * K 0 1 + 1).toNat y3) 766 (2 * K 0 1).toNat = y2 := by
    rw [u2_i (by omega), d4 766 _ (by unfold SRE; omega), u2_e]
  have h762b : (u2 r3 766 (2 * K 0 1 + 1).toNat y3) 766 (2 * K 0 1 + 1).toNat = y3 := u2_e
  have e58 : (u2 r3 766 (2 * K 0 1 + 1).toNat y3) 758 = r3 758 := e758
  have e59 : (u2 r3 766 (2 * K 0 1 + 1).toNat y3) 759 = r3 759 := e759
  generalize u2 r3 766 (2 * K 0 1 + 1).toNat y3 = rr at *
  rcases d5 with ⟨⟨p2, t1, t2⟩, ⟨s, t3, t4⟩, t5, t6, t7⟩ | ⟨f, t⟩
  · rcases a5 with ⟨⟨p1, b1, b2⟩, _, b3, b4, b5⟩ | ⟨f, b⟩
    rotate_left 1
    · exfalso
      have g1 := t1.2.2.2.2.2.1
      have g2 := b.2.2.2
      omega
    rcases g5 with ⟨p0, w1, w2, w3, w4⟩ | ⟨f, w⟩
    rotate_left 1
    · exfalso
      have g1 := b1.2.2.2.2.2.1
      have g2 := w.2.2.2
      omega
    have tA : TA c3 rr s := t3.other e58 e59
    obtain ⟨c', k1, k2, k3, k4⟩ := C_addTask (x := x) (n1 := x2) (n2 := x3) hC3 hW hn
    rw [t3.sound, Option.bind_some, if_neg (show ¬ (1 : Int) = 0 by omega), k1, Option.bind_some] at hcl
    rw [if_pos tA.2.2.2.2.2.2, zid (x := K 0 1 + 1) (by omega) (by omega), w3] at hrf
    refine ⟨c', _, hcl, hrf, hmc.trans (k4.mono (fun b j hb => Or.inr hb)), (hm1.u (by unfold SLR; omega)).u (by unfold SLR; omega), Or.inl ⟨s, m_addT K x x2 x3, ?_, t4, k2, ?_, hW.addT hn w4 ⟨b4, b5⟩ ⟨t6, t7⟩, ?_⟩⟩
    · obtain ⟨h1, h2, h3, h5, h6, h7, h8⟩ := tA
      have gc : ∀ b, b < a → c' b = c3 b := fun b hb => funext fun j => k4 b j (by omega)
      exact ⟨h1.frame (by rw [gc 2 (by omega)]) (gc 3 (by omega)) (by rw [u2_i (by omega), u2_c (by omega)]) (by rw [u2_ne (by omega), u2_ne (by omega)]), by rw [gc 2 (by omega)]; exact h2, by rw [u2_i (by omega), u2_c (by omega)]; exact h3, h5, by rw [u2_i (by omega), u2_c (by omega)]; exact h6, by rw [gc 2 (by omega)]; exact h7, by rw [u2_i (by omega), u2_c (by omega)]; exact h8⟩
    · obtain ⟨⟨u0, u1', u2'⟩, u3, u4, u5, u6⟩ := hD3
      refine ⟨⟨?_, u2_e, ?_⟩, fun v v0 v1 => ?_, fun v k v0 v1 k0 k1 => ?_, fun t t0 t1 => ?_, fun i hi => ?_⟩
      · rw [u2_i (by omega), u2_c (by omega)]
        exact u0
      · rw [u2_i (by omega), u2_c (by omega)]
        exact u2'
      · rw [u2_ne (show (762 : Nat) ≠ 758 by omega), u2_ne (show (762 : Nat) ≠ 771 by omega), u2_ne (show (769 : Nat) ≠ 758 by omega), u2_ne (show (769 : Nat) ≠ 771 by omega)]
        exact u3 v v0 v1
      · rw [u2_ne (show (764 : Nat) ≠ 758 by omega), u2_ne (show (764 : Nat) ≠ 771 by omega)]
        exact u4 v k v0 v1 k0 k1
      · show (u2 (u2 rr 771 (K 0 1).toNat x) 758 22 (K 0 1 + 1)) 766 (2 * t).toNat = u1 (K 8) (K 0 1).toNat x2 t.toNat ∧ (u2 (u2 rr 771 (K 0 1).toNat x) 758 22 (K 0 1 + 1)) 766 (2 * t + 1).toNat = u1 (K 9) (K 0 1).toNat x3 t.toNat ∧ (u2 (u2 rr 771 (K 0 1).toNat x) 758 22 (K 0 1 + 1)) 771 t.toNat = u1 (K 12) (K 0 1).toNat x t.toNat
        have t1' : t < K 0 1 + 1 := t1
        rw [u2_ne (show (766 : Nat) ≠ 758 by omega), u2_ne (show (766 : Nat) ≠ 771 by omega), u2_ne (show (771 : Nat) ≠ 758 by omega), u2_row]
        by_cases d : t = K 0 1
        · rw [d, u1_e, u1_e, u1_e, u1_e]
          exact ⟨h762a.trans b3, h762b.trans t5, rfl⟩
        · have hv : t.toNat ≠ (K 0 1).toNat := by omega
          rw [u1_i hv, u1_i hv, u1_i hv, u1_i hv]
          exact u5 t t0 (by omega)
      · rw [u2_ne (show (760 : Nat) ≠ 758 by omega), u2_ne (show (760 : Nat) ≠ 771 by omega)]
        exact u6 i hi
    · rw [k3, c0_sr d3 ha, c0_sr a3 ha, c0_sr g3 ha]
  · have tX : TX c3 rr f := t.other e58 e59
    rw [t.sound, Option.bind_some, if_pos rfl] at hcl
    rw [if_neg (by have := tX.2.2.2; omega)] at hrf
    refine ⟨c3, rr, hcl, hrf, hmc, hm1, Or.inr ⟨f, tX, ?_⟩⟩
    rw [hC3.n0, hD3.1.1]
    omega
theorem WQ.addP (h : WQ K) (v0 : 0 ≤ v) (v1 : v < K 0 0) (hk : K 4 v.toNat < 5) (hs : s ≤ 99) (hs0 : 1 ≤ s) (hl : 1 ≤ K 4 v.toNat → K 5 (5 * v + (K 4 v.toNat - 1)).toNat < s) (h2 : 1 ≤ y ∧ y ≤ 99) : WQ (m_addP K v s y) := by
  obtain ⟨w0, w1, w2, w3, w4, w5, w6, w7, w8⟩ := h
  have e0 : m_addP K v s y 0 = u1 (K 0) 3 (max (K 0 3) s) := rfl
  have e4 : m_addP K v s y 4 = u1 (K 4) v.toNat (K 4 v.toNat + 1) := rfl
  have e5 : m_addP K v s y 5 = u1 (K 5) (5 * v + K 4 v.toNat).toNat s := rfl
  have e6 : m_addP K v s y 6 = u1 (K 6) (5 * v + K 4 v.toNat).toNat y := rfl
  have mf : ∀ v', m_first (m_addP K v s y) v' = m_first K v' := fun _ => rfl
  have hvk := w2 v v0 v1
  unfold WQ
  rw [e0, e4, e5, e6, u1_i (show (0 : Nat) ≠ 3 by omega), u1_i (show (1 : Nat) ≠ 3 by omega), u1_i (show (2 : Nat) ≠ 3 by omega), u1_e]
  refine ⟨by omega, by rw [mf]; exact w1, fun c c0 c1 => ?_, fun c p c0 c1 p0 p1 => ?_, fun c p c0 c1 p0 p1 => ?_, ?_, w6, w7, w8⟩
  · by_cases d : c = v
    · rw [d, u1_e]
      have := w2 v v0 v1
      exact ⟨this.1, this.2.1, this.2.2.1, this.2.2.2.1, this.2.2.2.2.1, this.2.2.2.2.2.1, by omega, by omega, this.2.2.2.2.2.2.2.2⟩
    · rw [u1_i (by omega)]
      exact w2 c c0 c1
  · have hck := w2 c c0 c1
    by_cases d : c = v
    · subst d
      rw [u1_e] at p1
      by_cases e : p = K 4 c.toNat
      · rw [e, u1_e, u1_e]
        omega
      · rw [u1_i (by omega), u1_i (by omega)]
        have := w3 c p c0 c1 p0 (by omega)
        omega
    · rw [u1_i (by omega)] at p1
      have := w3 c p c0 c1 p0 p1
      rw [u1_i (by omega), u1_i (by omega)]
      omega
  · have hck := w2 c c0 c1
    by_cases d : c = v
    · subst d
      rw [u1_e] at p1 ⊢
      rw [show K 4 c.toNat + 1 - 1 = K 4 c.toNat from by omega, u1_e]
      by_cases e : p = K 4 c.toNat
      · rw [e, u1_e]
        exact Int.le_refl _
      · rw [u1_i (by omega)]
        have h1 := w4 c p c0 c1 p0 (by omega)
        have h2 := hl (by omega)
        omega
    · have ek : u1 (K 4) v.toNat (K 4 v.toNat + 1) c.toNat = K 4 c.toNat := u1_i (by omega)
      rw [ek] at p1 ⊢
      rw [u1_i (by omega), u1_i (by omega)]
      exact w4 c p c0 c1 p0 p1
  · right
    by_cases d : K 0 3 ≤ s
    · refine ⟨v, v0, v1, by rw [u1_e]; omega, ?_⟩
      rw [u1_e, show K 4 v.toNat + 1 - 1 = K 4 v.toNat from by omega, u1_e]
      omega
    · rcases w5 with e | ⟨c, c0, c1, c2, c3⟩
      · omega
      · have hck := w2 c c0 c1
        have hcv : c ≠ v := fun e => by
          subst e
          have := hl c2
          omega
        refine ⟨c, c0, c1, by rw [u1_i (by omega)]; exact c2, ?_⟩
        rw [u1_i (show c.toNat ≠ v.toNat by omega), u1_i (by omega)]
        omega
theorem C_addPoint (hC : RC c a K) (hW : WQ K) (v0 : 0 ≤ v) (v1 : v < K 0 0) (hk : K 4 v.toNat < 5) : ∃ c', f_X1_addPoint a v s y c = some c' ∧ RC c' a (m_addP K v s y) ∧ c' a 4 = c a 4 ∧ FM (fun b _ => a ≤ b ∧ b < a + 19) c c' := by
  have hw := hW.1
  have hvk := hW.2.2.1 v v0 v1
  refine ⟨u2 (u2 (u2 (u2 c (a + 7 + v.toNat) (K 4 v.toNat).toNat s) (a + 11 + v.toNat) (K 4 v.toNat).toNat y) (a + 5) v.toNat (K 4 v.toNat + 1)) a 3 (max (K 0 3) s), ?_, ?_, ?_, (((FM.refl.u (by omega)).u (by omega)).u (by omega)).u (by omega)⟩
  · unfold f_X1_addPoint f_X1_addPoint_18
    have b3 : 0 ≤ v ∧ v < 3 := by omega
    have b5 : 0 ≤ K 4 v.toNat ∧ K 4 v.toNat < 5 := by omega
    rw [C_hasCluster_y hC v0 v1, Option.bind_some, if_neg (show ¬ (1 : Int) = 0 by omega), if_pos b3, hC.c5 v0 v1, if_pos hk, if_pos b3, if_pos b5, if_pos b3, if_pos b5, if_pos b3, zid (x := K 4 v.toNat + 1) (by omega) (by omega), u2_c (show a ≠ a + 5 by omega), u2_c (show a ≠ a + 11 + v.toNat by omega), u2_c (show a ≠ a + 7 + v.toNat by omega), hC.n3]
  · obtain ⟨⟨r0, r1, r2, r3⟩, r4, r5, r6, r7, r8⟩ := hC
    have fo : ∀ b, a < b → b ≠ a + 7 + v.toNat → b ≠ a + 11 + v.toNat → b ≠ a + 5 → (u2 (u2 (u2 (u2 c (a + 7 + v.toNat) (K 4 v.toNat).toNat s) (a + 11 + v.toNat) (K 4 v.toNat).toNat y) (a + 5) v.toNat (K 4 v.toNat + 1)) a 3 (max (K 0 3) s)) b = c b := fun b b0 b1 b2 b3 => by
      rw [u2_ne (by omega), u2_ne (by omega), u2_ne (by omega), u2_ne (by omega)]
    have f5 : (u2 (u2 (u2 (u2 c (a + 7 + v.toNat) (K 4 v.toNat).toNat s) (a + 11 + v.toNat) (K 4 v.toNat).toNat y) (a + 5) v.toNat (K 4 v.toNat + 1)) a 3 (max (K 0 3) s)) (a + 5) = u1 (c (a + 5)) v.toNat (K 4 v.toNat + 1) := by
      rw [u2_ne (by omega), u2_row, u2_ne (by omega), u2_ne (by omega)]
    have f7 : (u2 (u2 (u2 (u2 c (a + 7 + v.toNat) (K 4 v.toNat).toNat s) (a + 11 + v.toNat) (K 4 v.toNat).toNat y) (a + 5) v.toNat (K 4 v.toNat + 1)) a 3 (max (K 0 3) s)) (a + 7 + v.toNat) = u1 (c (a + 7 + v.toNat)) (K 4 v.toNat).toNat s := by
      rw [u2_ne (by omega), u2_ne (by omega), u2_ne (by omega), u2_row]
    have f11 : (u2 (u2 (u2 (u2 c (a + 7 + v.toNat) (K 4 v.toNat).toNat s) (a + 11 + v.toNat) (K 4 v.toNat).toNat y) (a + 5) v.toNat (K 4 v.toNat + 1)) a 3 (max (K 0 3) s)) (a + 11 + v.toNat) = u1 (c (a + 11 + v.toNat)) (K 4 v.toNat).toNat y := by
      rw [u2_ne (by omega), u2_ne (by omega), u2_row, u2_ne (by omega)]
    refine ⟨⟨?_, ?_, ?_, ?_⟩, fun w w0 w1 => ?_, fun w p w0 w1 p0 p1 => ?_, fun w w0 w1 => ?_, fun t t0 t1 => ?_, fun i hi => ?_⟩
    · simp (disch := first | assumption | omega) only [if_true, if_false, zid, zlid, if_pos, if_neg, u2_e, u2_c, u2_i, u1_e, u1_i, Option.bind_some]
      exact r0
    · simp (disch := first | assumption | omega) only [if_true, if_false, zid, zlid, if_pos, if_neg, u2_e, u2_c, u2_i, u1_e, u1_i, Option.bind_some]
      exact r1
    · simp (disch := first | assumption | omega) only [if_true, if_false, zid, zlid, if_pos, if_neg, u2_e, u2_c, u2_i, u1_e, u1_i, Option.bind_some]
      exact r2
    · rw [u2_e]
      rfl
    · have w1' : w < K 0 0 := w1
      rw [fo (a + 1) (by omega) (by omega) (by omega) (by omega), fo (a + 2) (by omega) (by omega) (by omega) (by omega), fo (a + 3) (by omega) (by omega) (by omega) (by omega), fo (a + 4) (by omega) (by omega) (by omega) (by omega), f5]
      obtain ⟨q1, q2, q3, q4, q5⟩ := r4 w w0 w1'
      refine ⟨q1, q2, q3, q4, ?_⟩
      show u1 (c (a + 5)) v.toNat (K 4 v.toNat + 1) w.toNat = u1 (K 4) v.toNat (K 4 v.toNat + 1) w.toNat
      by_cases d : w = v
      · rw [d, u1_e, u1_e]
      · rw [u1_i (by omega), u1_i (by omega)]
        exact q5
    · have w1' : w < K 0 0 := w1
      have hwk := hW.2.2.1 w w0 w1'
      have p1' : p < u1 (K 4) v.toNat (K 4 v.toNat + 1) w.toNat := p1
      show (u2 (u2 (u2 (u2 c (a + 7 + v.toNat) (K 4 v.toNat).toNat s) (a + 11 + v.toNat) (K 4 v.toNat).toNat y) (a + 5) v.toNat (K 4 v.toNat + 1)) a 3 (max (K 0 3) s)) (a + 7 + w.toNat) p.toNat = u1 (K 5) (5 * v + K 4 v.toNat).toNat s (5 * w + p).toNat ∧ (u2 (u2 (u2 (u2 c (a + 7 + v.toNat) (K 4 v.toNat).toNat s) (a + 11 + v.toNat) (K 4 v.toNat).toNat y) (a + 5) v.toNat (K 4 v.toNat + 1)) a 3 (max (K 0 3) s)) (a + 11 + w.toNat) p.toNat = u1 (K 6) (5 * v + K 4 v.toNat).toNat y (5 * w + p).toNat
      by_cases d : w = v
      · subst d
        rw [u1_e] at p1'
        rw [f7, f11]
        by_cases e : p = K 4 w.toNat
        · rw [e, u1_e, u1_e, u1_e, u1_e]
          exact ⟨rfl, rfl⟩
        · rw [u1_i (by omega), u1_i (by omega), u1_i (by omega), u1_i (by omega)]
          exact r5 w p w0 w1' p0 (by omega)
      · rw [u1_i (by omega)] at p1'
        rw [fo (a + 7 + w.toNat) (by omega) (by omega) (by omega) (by omega), fo (a + 11 + w.toNat) (by omega) (by omega) (by omega) (by omega), u1_i (by omega), u1_i (by omega)]
        exact r5 w p w0 w1' p0 p1'
    · rw [fo (a + 14) (by omega) (by omega) (by omega) (by omega)]
      exact r6 w w0 w1
    · rw [fo (a + 15) (by omega) (by omega) (by omega) (by omega), fo (a + 16) (by omega) (by omega) (by omega) (by omega), fo (a + 17) (by omega) (by omega) (by omega) (by omega)]
      exact r7 t t0 t1
    · rw [fo (a + 18) (by omega) (by omega) (by omega) (by omega)]
      exact r8 i hi
  · simp (disch := first | assumption | omega) only [if_true, if_false, zid, zlid, if_pos, if_neg, u2_e, u2_c, u2_i, u1_e, u1_i, Option.bind_some]
end S_LP
