-- a cluster's line, both sides
section S_LC
variable {c r K : Nat → Nat → Int} {a : Nat} {p q f x lo hi n1 n2 n3 y : Int}
theorem DR.u762 {i : Nat} {v : Int} (h : DR r K) (hi : 4 * K 0 0 ≤ i) : DR (u2 r 762 i v) K := by
  obtain ⟨h1, h2, h3, h4, h5⟩ := h
  unfold DR
  rw [u2_ne (show (758 : Nat) ≠ 762 by omega), u2_ne (show (764 : Nat) ≠ 762 by omega), u2_ne (show (766 : Nat) ≠ 762 by omega), u2_ne (show (760 : Nat) ≠ 762 by omega), u2_ne (show (769 : Nat) ≠ 762 by omega), u2_ne (show (771 : Nat) ≠ 762 by omega)]
  refine ⟨h1, fun c c0 c1 => ?_, h3, h4, h5⟩
  rw [u2_i (by omega), u2_i (by omega), u2_i (by omega), u2_i (by omega)]
  exact h2 c c0 c1
theorem SRD.lc {c' : Nat → Nat → Int} (h : FM SRD c c') : FM (SLC a) c c' := h.mono (fun b j hb => Or.inl hb)
theorem SRE.lr {r' : Nat → Nat → Int} (h : FM SRE r r') : FM SLR r r' := h.mono (fun b j hb => Or.inl hb)
theorem c0_sr {c' : Nat → Nat → Int} (h : FM SRD c c') (ha : 3 < a) (j : Nat) : c' a j = c a j := h a j (by unfold SRD; omega)
theorem r20_sr {r' : Nat → Nat → Int} (h : FM SRE r r') : r' 758 20 = r 758 20 := h 758 20 (by unfold SRE; omega)
set_option maxHeartbeats 1000000 in
theorem T_c60 {X4 : Int} (hE : (∃ p0, (TA c r p0 ∧ p ≤ p0) ∧ NK x ∧ 1 ≤ n1 ∧ n1 ≤ 3 ∧ K 0 2 + n1 ≤ 6 ∧ r 762 (4 * K 0 0).toNat = n1) ∨ ∃ f, TX c r f) (hC : RC c a K) (hD : DR r K) (hW : WQ K) (hn : K 0 0 < 3) (ha : 3 < a) (h4 : c a 4 = X4) :
    ∃ c' r', ((f_X9_readNumber 0 99 c).bind fun q10 => (f_X9_readNumber 0 99 q10.2).bind fun q13 => (f_X9_isSound q13.2).bind fun q16 => if q16 = 0 then some q13.2 else (f_X1_addCluster a x n1 q10.1 q13.1 q13.2).bind fun q20 => some q20) = some c' ∧ f_X12_readCluster_60 x (4 * K 0 0) r = some r' ∧ FM (SLC a) c c' ∧ FM SLR r r' ∧ LN c' r' a p (fun t => t = X4) := by
  have hw := hW.1
  have hE1 : (∃ p0, TA c r p0 ∧ p ≤ p0) ∨ ∃ f, TX c r f := by
    rcases hE with ⟨p0, h1, h2⟩ | h
    · exact Or.inl ⟨p0, h1⟩
    · exact Or.inr h
  obtain ⟨x2, y2, c2, r2, a1, a2, a3, a4, a5⟩ := T_numE (q := p) (lo := 0) (hi := 99) hE1 (by omega) (by omega)
  have e758 : ∀ {i : Nat} {v : Int} {s : Nat → Nat → Int}, (u2 s 762 i v) 758 = s 758 := u2_ne (by omega)
  have e759 : ∀ {i : Nat} {v : Int} {s : Nat → Nat → Int}, (u2 s 762 i v) 759 = s 759 := u2_ne (by omega)
  have hE2 : (∃ p0, TA c2 (u2 r2 762 (4 * K 0 0 + 1).toNat y2) p0 ∧ p ≤ p0) ∨ ∃ f, TX c2 (u2 r2 762 (4 * K 0 0 + 1).toNat y2) f := by
    rcases a5 with ⟨_, ⟨s, b1, b2⟩, b3⟩ | ⟨f, b⟩
    · exact Or.inl ⟨s, b1.other e758 e759, b2⟩
    · exact Or.inr ⟨f, b.other e758 e759⟩
  obtain ⟨x3, y3, c3, r3, d1, d2, d3, d4, d5⟩ := T_numE (q := p) (lo := 0) (hi := 99) hE2 (by omega) (by omega)
  have z1 : z_w (4 * K 0 0 + 1) = 4 * K 0 0 + 1 := zid (by omega) (by omega)
  have z2 : z_w (4 * K 0 0 + 2) = 4 * K 0 0 + 2 := zid (by omega) (by omega)
  have z3 : z_w (4 * K 0 0 + 3) = 4 * K 0 0 + 3 := zid (by omega) (by omega)
  have hm1 : FM SLR r (u2 (u2 r3 762 (4 * K 0 0 + 2).toNat y3) 762 (4 * K 0 0 + 3).toNat 0) := ((((SRE.lr a4).u (by unfold SLR; omega)).trans (SRE.lr d4)).u (by unfold SLR; omega)).u (by unfold SLR; omega)
  have hD3 : DR (u2 (u2 r3 762 (4 * K 0 0 + 2).toNat y3) 762 (4 * K 0 0 + 3).toNat 0) K := (((hD.fm a4).u762 (by omega)).fm d4 |>.u762 (by omega)).u762 (by omega)
  have hC3 : RC c3 a K := (hC.fd (by omega) ha a3).fd (by omega) ha d3
  have hcl : ((f_X9_readNumber 0 99 c).bind fun q10 => (f_X9_readNumber 0 99 q10.2).bind fun q13 => (f_X9_isSound q13.2).bind fun q16 => if q16 = 0 then some q13.2 else (f_X1_addCluster a x n1 q10.1 q13.1 q13.2).bind fun q20 => some q20) = (f_X9_isSound c3).bind fun q16 => if q16 = 0 then some c3 else (f_X1_addCluster a x n1 x2 x3 c3).bind fun q20 => some q20 := by
    rw [a1, Option.bind_some, d1, Option.bind_some]
  have h762a : (u2 (u2 r3 762 (4 * K 0 0 + 2).toNat y3) 762 (4 * K 0 0 + 3).toNat 0) 762 (4 * K 0 0 + 1).toNat = y2 := by
    rw [u2_i (by omega), u2_i (by omega), d4 762 _ (by unfold SRE; omega), u2_e]
  have h762b : (u2 (u2 r3 762 (4 * K 0 0 + 2).toNat y3) 762 (4 * K 0 0 + 3).toNat 0) 762 (4 * K 0 0 + 2).toNat = y3 := by
    rw [u2_i (by omega), u2_e]
  have h762c : (u2 (u2 r3 762 (4 * K 0 0 + 2).toNat y3) 762 (4 * K 0 0 + 3).toNat 0) 762 (4 * K 0 0 + 3).toNat = 0 := u2_e
  have h762d : (u2 (u2 r3 762 (4 * K 0 0 + 2).toNat y3) 762 (4 * K 0 0 + 3).toNat 0) 762 (4 * K 0 0).toNat = r 762 (4 * K 0 0).toNat := by
    rw [u2_i (by omega), u2_i (by omega), d4 762 _ (by unfold SRE; omega), u2_i (by omega), a4 762 _ (by unfold SRE; omega)]
  have hrf : f_X12_readCluster_60 x (4 * K 0 0) r = if (u2 (u2 r3 762 (4 * K 0 0 + 2).toNat y3) 762 (4 * K 0 0 + 3).toNat 0) 758 4 = -1 then some (u2 (u2 (u2 (u2 (u2 r3 762 (4 * K 0 0 + 2).toNat y3) 762 (4 * K 0 0 + 3).toNat 0) 769 (K 0 0).toNat x) 758 24 (z_w (K 0 2 + r 762 (4 * K 0 0).toNat))) 758 20 (z_w (K 0 0 + 1))) else some (u2 (u2 r3 762 (4 * K 0 0 + 2).toNat y3) 762 (4 * K 0 0 + 3).toNat 0) := by
    unfold f_X12_readCluster_60
    rw [a2, Option.bind_some, z1, if_pos (by omega)]
    dsimp only
    rw [d2, Option.bind_some, z2, if_pos (by omega), z3, if_pos (by omega)]
    dsimp only
    generalize u2 (u2 r3 762 (4 * K 0 0 + 2).toNat y3) 762 (4 * K 0 0 + 3).toNat 0 = rr at hD3 h762a h762b h762c h762d ⊢
    have n20 := hD3.1.1
    have n24 := hD3.1.2.2
    have g20 : (u2 (u2 rr 769 (K 0 0).toNat x) 758 24 (z_w (K 0 2 + r 762 (4 * K 0 0).toNat))) 758 20 = K 0 0 := by rw [u2_i (by omega), u2_c (by omega)]; exact n20
    by_cases e : rr 758 4 = -1
    · rw [if_pos e, if_pos e, n20, if_pos (by omega), if_pos (by omega), u2_c (show (758 : Nat) ≠ 769 by omega), n24, u2_c (show (762 : Nat) ≠ 769 by omega), h762d, g20]
    · rw [if_neg e, if_neg e]
  have e58 : (u2 (u2 r3 762 (4 * K 0 0 + 2).toNat y3) 762 (4 * K 0 0 + 3).toNat 0) 758 = r3 758 := by rw [e758, e758]
  have e59 : (u2 (u2 r3 762 (4 * K 0 0 + 2).toNat y3) 762 (4 * K 0 0 + 3).toNat 0) 759 = r3 759 := by rw [e759, e759]
  generalize u2 (u2 r3 762 (4 * K 0 0 + 2).toNat y3) 762 (4 * K 0 0 + 3).toNat 0 = rr at *
  rcases d5 with ⟨⟨p2, t1, t2⟩, ⟨s, t3, t4⟩, t5, t6, t7⟩ | ⟨f, t⟩
  · -- sound all along
    rcases a5 with ⟨⟨p1, b1, b2⟩, _, b3, b4, b5⟩ | ⟨f, b⟩
    rotate_left 1
    · exfalso
      have g1 := t1.2.2.2.2.2.1
      have g2 := b.2.2.2
      omega
    rcases hE with ⟨p0, _, w1, w2, w3, w4, w5⟩ | ⟨f, w⟩
    rotate_left 1
    · exfalso
      have g1 := b1.2.2.2.2.2.1
      have g2 := w.2.2.2
      omega
    rw [w5] at h762d hrf
    have tA : TA c3 rr s := t3.other e58 e59
    obtain ⟨c', g1, g2, g3, g4⟩ := C_addCluster (x := x) (n2 := x2) (n3 := x3) hC3 hW hn w2 w3 w4
    rw [t3.sound, Option.bind_some, if_neg (show ¬ (1 : Int) = 0 by omega), g1, Option.bind_some] at hcl
    rw [if_pos tA.2.2.2.2.2.2, zid (x := K 0 2 + n1) (by omega) (by omega), zid (x := K 0 0 + 1) (by omega) (by omega)] at hrf
    refine ⟨c', _, hcl, hrf, ((SRD.lc a3).trans (SRD.lc d3)).trans (g4.mono (fun b j hb => Or.inr hb)), ((hm1.u (by unfold SLR; omega)).u (by unfold SLR; omega)).u (by unfold SLR; omega), Or.inl ⟨s, m_addC K x n1 x2 x3, ?_, t4, g2, ?_, hW.addC hn w1 w2 w3 w4 ⟨b4, b5⟩ ⟨t6, t7⟩, ?_⟩⟩
    · obtain ⟨h1, h2, h3, h5, h6, h7, h8⟩ := tA
      have gc : ∀ b, b < a → c' b = c3 b := fun b hb => funext fun j => g4 b j (by omega)
      refine ⟨h1.frame (by rw [gc 2 (by omega)]) (gc 3 (by omega)) (by rw [u2_i (by omega), u2_i (by omega), u2_c (by omega)]) (by rw [u2_ne (by omega), u2_ne (by omega), u2_ne (by omega)]), by rw [gc 2 (by omega)]; exact h2, by rw [u2_i (by omega), u2_i (by omega), u2_c (by omega)]; exact h3, h5, by rw [u2_i (by omega), u2_i (by omega), u2_c (by omega)]; exact h6, by rw [gc 2 (by omega)]; exact h7, by rw [u2_i (by omega), u2_i (by omega), u2_c (by omega)]; exact h8⟩
    · obtain ⟨⟨u0, u1', u2'⟩, u3, u4, u5, u6⟩ := hD3
      refine ⟨⟨u2_e, ?_, ?_⟩, fun v v0 v1 => ?_, fun v k v0 v1 k0 k1 => ?_, fun t t0 t1 => ?_, fun i hi => ?_⟩
      · rw [u2_i (by omega), u2_i (by omega), u2_c (by omega)]
        exact u1'
      · rw [u2_i (by omega), u2_e]
        rfl
      · show (u2 (u2 (u2 rr 769 (K 0 0).toNat x) 758 24 (K 0 2 + n1)) 758 20 (K 0 0 + 1)) 762 (4 * v).toNat = u1 (K 1) (K 0 0).toNat n1 v.toNat ∧ (u2 (u2 (u2 rr 769 (K 0 0).toNat x) 758 24 (K 0 2 + n1)) 758 20 (K 0 0 + 1)) 762 (4 * v + 1).toNat = u1 (K 2) (K 0 0).toNat x2 v.toNat ∧ (u2 (u2 (u2 rr 769 (K 0 0).toNat x) 758 24 (K 0 2 + n1)) 758 20 (K 0 0 + 1)) 762 (4 * v + 2).toNat = u1 (K 3) (K 0 0).toNat x3 v.toNat ∧ (u2 (u2 (u2 rr 769 (K 0 0).toNat x) 758 24 (K 0 2 + n1)) 758 20 (K 0 0 + 1)) 762 (4 * v + 3).toNat = u1 (K 4) (K 0 0).toNat 0 v.toNat ∧ (u2 (u2 (u2 rr 769 (K 0 0).toNat x) 758 24 (K 0 2 + n1)) 758 20 (K 0 0 + 1)) 769 v.toNat = u1 (K 11) (K 0 0).toNat x v.toNat
        have v1' : v < K 0 0 + 1 := v1
        rw [u2_ne (show (762 : Nat) ≠ 758 by omega), u2_ne (show (762 : Nat) ≠ 758 by omega), u2_ne (show (762 : Nat) ≠ 769 by omega), u2_ne (show (769 : Nat) ≠ 758 by omega), u2_ne (show (769 : Nat) ≠ 758 by omega), u2_row]
        by_cases d : v = K 0 0
        · rw [d, u1_e, u1_e, u1_e, u1_e, u1_e, u1_e]
          exact ⟨h762d, h762a.trans b3, h762b.trans t5, h762c, rfl⟩
        · have hv : v.toNat ≠ (K 0 0).toNat := by omega
          rw [u1_i hv, u1_i hv, u1_i hv, u1_i hv, u1_i hv, u1_i hv]
          exact u3 v v0 (by omega)
      · have v1' : v < K 0 0 + 1 := v1
        have k1' : k < u1 (K 4) (K 0 0).toNat 0 v.toNat := k1
        rw [u2_ne (show (764 : Nat) ≠ 758 by omega), u2_ne (show (764 : Nat) ≠ 758 by omega), u2_ne (show (764 : Nat) ≠ 769 by omega)]
        by_cases d : v = K 0 0
        · rw [d, u1_e] at k1'
          omega
        · rw [u1_i (by omega)] at k1'
          exact u4 v k v0 (by omega) k0 k1'
      · rw [u2_ne (show (766 : Nat) ≠ 758 by omega), u2_ne (show (766 : Nat) ≠ 758 by omega), u2_ne (show (766 : Nat) ≠ 769 by omega), u2_ne (show (771 : Nat) ≠ 758 by omega), u2_ne (show (771 : Nat) ≠ 758 by omega), u2_ne (show (771 : Nat) ≠ 769 by omega)]
        exact u5 t t0 t1
      · rw [u2_ne (show (760 : Nat) ≠ 758 by omega), u2_ne (show (760 : Nat) ≠ 758 by omega), u2_ne (show (760 : Nat) ≠ 769 by omega)]
        exact u6 i hi
    · rw [g3, c0_sr d3 ha, c0_sr a3 ha]
      exact h4
  · have tX : TX c3 rr f := t.other e58 e59
    rw [t.sound, Option.bind_some, if_pos rfl] at hcl
    rw [if_neg (by have := tX.2.2.2; omega)] at hrf
    refine ⟨c3, rr, hcl, hrf, (SRD.lc a3).trans (SRD.lc d3), hm1, Or.inr ⟨f, tX, ?_⟩⟩
    rw [hC3.n0, hD3.1.1]
    omega
end S_LC
