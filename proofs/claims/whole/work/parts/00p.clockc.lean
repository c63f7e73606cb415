-- a tick of the class is a tick as numbers
def SC (a : Nat) : Nat → Prop := fun c => c = 744 ∨ (a ≤ c ∧ c < a + 13)
section S_CC
variable {σ K : Nat → Nat → Int} {a a1 : Nat} {w d : Nat → Int} {tr th : Int}
theorem u1_self {i : Nat} {x : Int} (h : x = w i) : u1 w i x = w := by
  funext j
  unfold u1
  by_cases e : j = i
  · rw [if_pos e, e, h]
  · rw [if_neg e]
theorem RC.fr (hC : RC σ a1 K) (hK : WK K) (ha1 : a1 + 19 ≤ 42) (ha : 173 ≤ a) {σ' : Nat → Nat → Int} (hf : FR (SC a) σ σ') : RC σ' a1 K := hC.frame (by have := hK.n; omega) (fun c _ _ => hf c (by unfold SC; omega))
theorem C_ticksLeft (hR : RS σ a K w tr th) (hC : RC σ a1 K) (hK : WK K) (hS : WS K w) {t : Int} (h0 : 0 ≤ t) (h1 : t < K 0 1) : f_X2_ticksLeft a1 a t σ = some (m_left K w t) := by
  have hkn := hK.n
  have hk := hK.t h0 h1
  have hl := m_left_in hK hS h0 h1
  have el : K 9 t.toNat - Int.tmod (w 41) (K 9 t.toNat) = m_left K w t := rfl
  unfold f_X2_ticksLeft
  simp (disch := first | assumption | omega) only [if_true, if_false, zid, zlid, if_pos, if_neg, u2_e, u2_c, u2_i, u1_e, u1_i, Option.bind_some, hC.t17, hR.n0, el]
theorem C_release (hR : RS σ a K w tr th) (hC : RC σ a1 K) (hK : WK K) (hS : WS K w) (hL : WL K w) (ha1 : a1 + 19 ≤ 42) (ha : 173 ≤ a) (ha2 : a + 13 ≤ 743) :
    ∃ σ', f_X2_release a1 a σ = some σ' ∧ RS σ' a K (m_rel K w) tr th ∧ (∀ t : Int, 0 ≤ t → t < K 0 1 → σ' 744 t.toNat = 0) ∧ FR (SC a) σ σ' := by
  have hkn := hK.n
  unfold f_X2_release
  have h := sim_loop (F := fun k t (s : Nat → Nat → Int) => f_X2_release_2 k a1 a t s) (X := m_relS K) (hi := K 0 1)
    (fun t s w' => 0 ≤ t ∧ RS s a K w' tr th ∧ WS K w' ∧ w' 41 = w 41 ∧ (∀ u : Int, t ≤ u → u < K 0 1 → w' (33 + u).toNat = w (33 + u).toNat) ∧ (∀ q : Int, 0 ≤ q → q < t → s 744 q.toNat = 0) ∧ FR (SC a) σ s)
    (fun w' r => ∃ σ', r = some σ' ∧ RS σ' a K w' tr th ∧ (∀ t : Int, 0 ≤ t → t < K 0 1 → σ' 744 t.toNat = 0) ∧ FR (SC a) σ σ')
    (fun k t s w' ht hp => by
      obtain ⟨p0, p1, p2, p3, p4, p5, p6⟩ := hp
      have hle : w' (33 + t).toNat ≤ w' 41 := by rw [p4 t (by omega) ht, p3]; exact hL t p0 ht
      have hn := p2.n
      obtain ⟨b1, b2, b3⟩ := m_relS_in hK p2 p0 ht hle
      have hx := p2.t p0 ht
      have hkt := hK.t p0 ht
      have hf' : FR (SC a) σ (u2 s 744 t.toNat 0) := p6.u (Or.inl rfl)
      have hR' : RS (u2 s 744 t.toNat 0) a K w' tr th := p1.frame (fun c _ _ => u2_ne (by omega))
      have hC' := hC.fr hK ha1 ha hf'
      have hCs := hC.fr hK ha1 ha p6
      have hz : ∀ q : Int, 0 ≤ q → q < t + 1 → u2 s 744 t.toNat 0 744 q.toNat = 0 := fun q q0 q1 => by
        by_cases e : q = t
        · rw [e, u2_e]
        · rw [u2_i (by omega)]
          exact p5 q q0 (by omega)
      have hrest : 0 ≤ t + 1 ∧ WS K (m_relS K t w') ∧ m_relS K t w' 41 = w 41 ∧ (∀ u : Int, t + 1 ≤ u → u < K 0 1 → m_relS K t w' (33 + u).toNat = w (33 + u).toNat) := ⟨by omega, b1, by rw [m_relS_o p0 (by omega) (by omega), p3], fun u u0 u1 => by rw [b2 u (by omega) u1 (by omega), p4 u (by omega) u1]⟩
      by_cases c : w' (37 + t).toNat = 1 ∨ m_left K w' t ≠ K 9 t.toNat
      · have em : m_relS K t w' = w' := if_pos c
        refine ⟨u2 s 744 t.toNat 0, ?_, hrest.1, by rw [em]; exact hR', hrest.2.1, hrest.2.2.1, hrest.2.2.2, hz, hf'⟩
        rw [f_X2_release_2]
        by_cases c1 : w' (37 + t).toNat = 1
        · simp (disch := first | assumption | omega) only [if_true, if_false, zid, zlid, if_pos, if_neg, u2_e, u2_c, u2_i, u1_e, u1_i, Option.bind_some, hCs.n1, C_isStopped hR' hK p2]
        · simp (disch := first | assumption | omega) only [if_true, if_false, zid, zlid, if_pos, if_neg, u2_e, u2_c, u2_i, u1_e, u1_i, Option.bind_some, hCs.n1, C_isStopped hR' hK p2, C_ticksLeft hR' hC' hK p2, hCs.t17]
      · have em : m_relS K t w' = u1 (if 0 < w' (25 + t).toNat then u1 w' (33 + t).toNat (w' (33 + t).toNat + 1) else w') (25 + t).toNat (K 8 t.toNat) := if_neg c
        have em2 : m_relS K t w' = u1 (u1 w' (33 + t).toNat (w' (33 + t).toNat + (if w' (25 + t).toNat ≤ 0 then 0 else 1))) (25 + t).toNat (K 8 t.toNat) := by
          rw [em]
          by_cases c2 : 0 < w' (25 + t).toNat
          · rw [if_pos c2, if_neg (by omega)]
          · rw [if_neg c2, if_pos (by omega), u1_self (i := (33 + t).toNat) (by omega)]
        refine ⟨u2 (u2 (u2 s 744 t.toNat 0) (a + 4) t.toNat (w' (33 + t).toNat + (if w' (25 + t).toNat ≤ 0 then 0 else 1))) (a + 2) t.toNat (K 8 t.toNat), ?_, hrest.1, ?_, hrest.2.1, hrest.2.2.1, hrest.2.2.2, fun q q0 q1 => ?_, ?_⟩
        · rw [f_X2_release_2]
          by_cases c2 : w' (25 + t).toNat ≤ 0 <;> simp (disch := first | assumption | omega) only [if_true, if_false, zid, zlid, if_pos, if_neg, u2_e, u2_c, u2_i, u1_e, u1_i, Option.bind_some, hCs.n1, C_isStopped hR' hK p2, C_ticksLeft hR' hC' hK p2, hCs.t17, f_X2_release_62, hCs.t16, p1.t2, p1.t4]
        · rw [em2]
          exact (hR'.t4_u p0 (by omega) (by omega) (by omega) (by omega)).t2_u p0 (by omega) (by omega) (by omega) (by omega)
        · rw [u2_c (by omega), u2_c (by omega)]
          exact hz q q0 q1
        · exact (hf'.u (by unfold SC; omega)).u (by unfold SC; omega))
    (fun k s w' hp => by
      obtain ⟨p0, p1, p2, p3, p4, p5, p6⟩ := hp
      have hCs := hC.fr hK ha1 ha p6
      refine ⟨s, ?_, p1, p5, p6⟩
      rw [f_X2_release_2]
      simp (disch := first | assumption | omega) only [if_true, if_false, zid, zlid, if_pos, if_neg, u2_e, u2_c, u2_i, u1_e, u1_i, Option.bind_some, hCs.n1]) (K 0 1).toNat 100000 0 σ w (by omega) (by omega) ⟨by omega, hR, hS, rfl, fun _ _ _ => rfl, fun q q0 q1 => by omega, FR.refl⟩
  exact h
theorem C_wakeCores (hR : RS σ a K w tr th) (hC : RC σ a1 K) (hK : WK K) (hS : WS K w) (ha1 : a1 + 19 ≤ 42) (ha : 173 ≤ a) (ha2 : a + 13 ≤ 743) :
    ∃ σ', f_X2_wakeCores a1 a σ = some ((m_wake K w).1, σ') ∧ RS σ' a K (m_wake K w).2 tr th ∧ FR (fun c => a ≤ c ∧ c < a + 13) σ σ' := by
  have hkn := hK.n
  have hr := hK.r
  unfold f_X2_wakeCores
  rw [← m_wake_T hK hS]
  have h := sim_loop (F := fun k t (s : Int × (Nat → Nat → Int)) => f_X2_wakeCores_5 k a1 a s.1 t s.2) (X := m_wkT K w) (hi := K 0 1)
    (fun t s w' => s.1 = w'.1 ∧ 0 ≤ t ∧ RS s.2 a K w'.2 tr th ∧ WS K w'.2 ∧ 0 ≤ w'.1 ∧ w'.1 ≤ 99 * t ∧ (∀ i : Nat, i < 6 ∨ 15 ≤ i → w'.2 i = w i) ∧ FR (fun c => a ≤ c ∧ c < a + 13) σ s.2)
    (fun w' r => ∃ σ', r = some (w'.1, σ') ∧ RS σ' a K w'.2 tr th ∧ FR (fun c => a ≤ c ∧ c < a + 13) σ σ')
    (fun k t s w' ht hp => by
      obtain ⟨s1, s2⟩ := s
      obtain ⟨w1, w2⟩ := w'
      obtain ⟨pe, p0, p1, p2, p3, p4, p5, p6⟩ := hp
      dsimp only at pe p1 p2 p3 p4 p5 p6
      subst pe
      have hCs := hC.frame (σ' := s2) (by omega) (fun c _ _ => p6 c (by omega))
      have hx := p2.t p0 ht
      have e21 := p5 (21 + t).toNat (by omega)
      have e25 := p5 (25 + t).toNat (by omega)
      by_cases c1 : w (25 + t).toNat ≤ 0
      · have em : m_wkT K w t (s1, w2) = (s1, w2) := if_pos c1
        refine ⟨(s1, s2), ?_, by rw [em], by omega, by rw [em]; exact p1, by rw [em]; exact p2, by rw [em]; exact p3, by rw [em]; dsimp only; omega, by rw [em]; exact p5, p6⟩
        show f_X2_wakeCores_5 (k + 1) a1 a s1 t s2 = _
        rw [f_X2_wakeCores_5]
        simp (disch := first | assumption | omega) only [if_true, if_false, zid, zlid, if_pos, if_neg, u2_e, u2_c, u2_i, u1_e, u1_i, Option.bind_some, hCs.n1, p1.t2, e25]
      · have em : m_wkT K w t (s1, w2) = m_wk K (w (21 + t).toNat) (s1, w2) := if_neg c1
        rw [e21] at hx
        have hv0 := hx.1
        have hv1 := hx.2.1
        generalize hv : w (21 + t).toNat = v at em hv0 hv1 e21
        have hkv := hK.v hv0 hv1
        have hkc := hK.c hkv.1 hkv.2.1
        have hsl := p2.v hv0 hv1
        by_cases c2 : w2 (9 + v).toNat = 0
        · have em2 : m_wkT K w t (s1, w2) = (s1, w2) := em.trans (if_pos c2)
          refine ⟨(s1, s2), ?_, by rw [em2], by omega, by rw [em2]; exact p1, by rw [em2]; exact p2, by rw [em2]; exact p3, by rw [em2]; dsimp only; omega, by rw [em2]; exact p5, p6⟩
          show f_X2_wakeCores_5 (k + 1) a1 a s1 t s2 = _
          rw [f_X2_wakeCores_5]
          simp (disch := first | assumption | omega) only [if_true, if_false, zid, zlid, if_pos, if_neg, u2_e, u2_c, u2_i, u1_e, u1_i, Option.bind_some, hCs.n1, p1.t2, p1.t1, e25, e21, C_hasCore_y hCs, C_isAsleep p1 hK p2]
        · have em2 : m_wkT K w t (s1, w2) = (s1 + K 3 (K 7 v.toNat).toNat, u1 (u1 w2 (9 + v).toNat 0) (6 + K 7 v.toNat).toNat (K 10 3)) := em.trans (if_neg c2)
          have hin := m_wk_in hK hv0 hv1 (s := (s1, w2)) p2
          have ho := fun i hi => m_wk_o hK hv0 hv1 (s := (s1, w2)) (i := i) hi
          rw [show m_wk K v (s1, w2) = _ from if_neg c2] at hin
          have hR2 := (p1.b6_clr (by omega) (by omega) (by omega) hv0 hv1).c7_u (x := K 10 3) hkv.1 (by omega) (by omega) (by omega) (by omega)
          refine ⟨(s1 + K 3 (K 7 v.toNat).toNat, u2 (u2 s2 a 6 (z_and (s2 a 6) (z_xor (z_shl 1 v) (-1)))) (a + 7) (K 7 v.toNat).toNat (K 10 3)), ?_, by rw [em2], by omega, by rw [em2]; exact hR2, by rw [em2]; exact hin.1, by rw [em2]; dsimp only; omega, by rw [em2]; dsimp only; omega, fun i hi => ?_, ?_⟩
          · have hC2 := hCs.frame (σ' := u2 s2 a 6 (z_and (s2 a 6) (z_xor (z_shl 1 v) (-1)))) (by omega) (fun c _ _ => u2_ne (by omega))
            show f_X2_wakeCores_5 (k + 1) a1 a s1 t s2 = _
            rw [f_X2_wakeCores_5]
            simp (disch := first | assumption | omega) only [if_true, if_false, zid, zlid, if_pos, if_neg, u2_e, u2_c, u2_i, u1_e, u1_i, Option.bind_some, hCs.n1, p1.t2, p1.t1, e25, e21, C_hasCore_y hCs, C_isAsleep p1 hK p2, C_withBit_0, hCs.v14, f_X2_wakeCluster, C_hasCluster_y hC2, hCs.r3, hCs.c4]
          · rw [em, ho i hi]
            exact p5 i hi
          · exact (p6.u (by omega)).u (by omega))
    (fun k s w' hp => by
      obtain ⟨s1, s2⟩ := s
      obtain ⟨w1, w2⟩ := w'
      obtain ⟨pe, p0, p1, p2, p3, p4, p5, p6⟩ := hp
      dsimp only at pe p1 p2 p3 p4 p5 p6
      subst pe
      have hCs := hC.frame (σ' := s2) (by omega) (fun c _ _ => p6 c (by omega))
      refine ⟨s2, ?_, p1, p6⟩
      show f_X2_wakeCores_5 (k + 1) a1 a s1 (K 0 1) s2 = _
      rw [f_X2_wakeCores_5]
      simp (disch := first | assumption | omega) only [if_true, if_false, zid, zlid, if_pos, if_neg, u2_e, u2_c, u2_i, u1_e, u1_i, Option.bind_some, hCs.n1]) (K 0 1).toNat 100000 0 (0, σ) (0, w) (by omega) (by omega) ⟨rfl, by omega, hR, hS, by dsimp only; omega, by dsimp only; omega, fun _ _ => rfl, FR.refl⟩
  exact h
theorem C_choosePoint (hR : RS σ a K w tr th) (hC : RC σ a1 K) (hK : WK K) (hS : WS K w) (ht : 0 ≤ th) (ha1 : a1 + 19 ≤ 42) (ha : 173 ≤ a) (ha2 : a + 13 ≤ 743) {c : Int} (h0 : 0 ≤ c) (h1 : c < K 0 0) :
    ∃ σ', f_X2_choosePoint a1 a c σ = some σ' ∧ RS σ' a K (m_choose K tr th c w) tr th ∧ FR (fun c => a ≤ c ∧ c < a + 13) σ σ' := by
  have hkn := hK.n
  have hkc := hK.c h0 h1
  have hx := hS.c h0 h1
  have hq := m_want_in (w := w) hK h0 h1
  -- from the point v5 and the held number x on
  have k83 : ∀ (v5 x : Int) (w1 : Nat → Int), 0 ≤ v5 → v5 ≤ 10 → WS K w1 → w1 c.toNat = v5 → w1 = u1 (u1 w c.toNat v5) (3 + c).toNat x → ∃ σ', f_X2_goTowards_74 a1 a c v5 (u2 σ (a + 6) c.toNat x) = some σ' ∧ RS σ' a K (m_ch4 c (m_ch3 K c (m_ch2 K tr th c w1))) tr th ∧ FR (fun c => a ≤ c ∧ c < a + 13) σ σ' := fun v5 x w1 v0 v9 hS1 e1 ew => by
    have hR6 := hR.c6_u (x := x) h0 (by omega) (by omega) (by omega) (by omega)
    have hS6 : WS K (u1 w (3 + c).toNat x) := hS.u_held hK h0 h1
    have hC6 := hC.frame (σ' := u2 σ (a + 6) c.toNat x) (by omega) (fun c _ _ => u2_ne (by omega))
    have hb := m_bounded_in (tr := tr) (p := v5) hS1 (c := c) (by omega) ht
    have elo : m_low (u1 w (3 + c).toNat x) c = m_low w1 c := by rw [ew]; exact (m_low_c (fun i hi => by rw [u1_i (by omega)])).trans (m_low_c (fun i hi => by rw [u1_i (by omega), u1_i (by omega)])).symm
    have ehi : m_high K (u1 w (3 + c).toNat x) tr th c = m_high K w1 tr th c := by rw [ew]; exact (m_high_c (fun i hi => by rw [u1_i (by omega)])).trans (m_high_c (fun i hi => by rw [u1_i (by omega), u1_i (by omega)])).symm
    have hb2 : m_bounded K w1 tr th c v5 = min (max v5 (m_low w1 c)) (m_high K w1 tr th c) := rfl
    -- what stands in the end
    have e2 : m_ch2 K tr th c w1 = u1 (u1 w (3 + c).toNat x) c.toNat (m_bounded K w1 tr th c v5) := by
      unfold m_ch2
      rw [e1, ew, u1_comm (by omega), u1_2]
      exact u1_comm (by omega)
    have e42 : (u1 (u1 w (3 + c).toNat x) c.toNat (m_bounded K w1 tr th c v5)) 42 = w 42 := by rw [u1_i (by omega), u1_i (by omega)]
    have e3 : m_ch3 K c (m_ch2 K tr th c w1) = u1 (u1 w (3 + c).toNat x) c.toNat (max (if w 42 ≤ K 10 4 then m_bounded K w1 tr th c v5 else m_bounded K w1 tr th c v5 - 1) 0) := by
      rw [e2]
      unfold m_ch3
      rw [e42, u1_e]
      by_cases z1 : K 10 4 < w 42
      · by_cases z2 : 0 < m_bounded K w1 tr th c v5
        · rw [if_pos ⟨z1, z2⟩, if_neg (by omega), u1_2]
          congr 1
          omega
        · rw [if_neg (by omega), if_neg (by omega)]
          congr 1
          omega
      · rw [if_neg (by omega), if_pos (by omega)]
        congr 1
        omega
    have e4 : m_ch4 c (m_ch3 K c (m_ch2 K tr th c w1)) = u1 (u1 (u1 w (3 + c).toNat x) c.toNat (max (if w 42 ≤ K 10 4 then m_bounded K w1 tr th c v5 else m_bounded K w1 tr th c v5 - 1) 0)) (6 + c).toNat (max (w (6 + c).toNat - 1) 0) := by
      rw [e3]
      unfold m_ch4
      rw [u1_i (i := c.toNat) (j := (6 + c).toNat) (by omega), u1_i (i := (3 + c).toNat) (j := (6 + c).toNat) (by omega)]
      by_cases z : 0 < w (6 + c).toNat
      · rw [if_pos z]
        congr 1
        omega
      · rw [if_neg z]
        exact (u1_self (by
          rw [u1_i (by omega), u1_i (by omega)]
          omega)).symm
    have hRe := (hR6.c5_u (x := max (if w 42 ≤ K 10 4 then m_bounded K w1 tr th c v5 else m_bounded K w1 tr th c v5 - 1) 0) h0 (by omega) (by omega) (by omega) (by omega)).c7_u (x := max (w (6 + c).toNat - 1) 0) h0 (by omega) (by omega) (by omega) (by omega)
    refine ⟨_, ?_, by rw [e4]; exact hRe, ((FR.refl.u (by omega)).u (by omega)).u (by omega)⟩
    unfold f_X2_goTowards_74
    rw [C_lowOf hR6 hS6 ht (by omega), C_highOf hR6 hC6 hK hS6 ht h0 h1, elo, ehi]
    by_cases z : w 42 ≤ K 10 4 <;> simp (disch := first | assumption | omega) only [if_true, if_false, zid, zlid, if_pos, if_neg, u2_e, u2_c, u2_i, u1_e, u1_i, Option.bind_some, f_X2_goTowards_115, hR.n1, hC.r4, hR.c7, ← hb2, Int.add_neg_one]
  have hc1 := m_ch1_in hK hS h0 h1 hq.1 hq.2
  unfold f_X2_choosePoint f_X2_goTowards m_choose
  unfold m_ch1 at hc1 ⊢
  by_cases e1 : w c.toNat < m_want K w c
  · rw [if_pos e1] at hc1 ⊢
    obtain ⟨σ', g1, g2, g3⟩ := k83 (m_want K w c) 0 _ hq.1 (by omega) hc1 (by rw [u1_i (by omega), u1_e]) rfl
    refine ⟨σ', ?_, g2, g3⟩
    rw [C_wantOf hR hC hK hS h0 h1]
    simp (disch := first | assumption | omega) only [if_true, if_false, zid, zlid, if_pos, if_neg, u2_e, u2_c, u2_i, u1_e, u1_i, Option.bind_some, hR.c5]
    exact g1
  · rw [if_neg e1] at hc1 ⊢
    by_cases e2 : m_want K w c < w c.toNat ∧ K 10 1 ≤ w (3 + c).toNat
    · rw [if_pos e2] at hc1 ⊢
      obtain ⟨σ', g1, g2, g3⟩ := k83 (w c.toNat - 1) 0 _ (by omega) (by omega) hc1 (by rw [u1_i (by omega), u1_e]) rfl
      refine ⟨σ', ?_, g2, g3⟩
      rw [C_wantOf hR hC hK hS h0 h1]
      simp (disch := first | assumption | omega) only [if_true, if_false, zid, zlid, if_pos, if_neg, u2_e, u2_c, u2_i, u1_e, u1_i, Option.bind_some, hR.c5, hR.c6, hC.r1]
      rw [show w c.toNat + -1 = w c.toNat - 1 from by omega]
      exact g1
    · rw [if_neg e2] at hc1 ⊢
      obtain ⟨σ', g1, g2, g3⟩ := k83 (w c.toNat) (z_w (w (3 + c).toNat + 1)) _ (by omega) (by omega) hc1 (by rw [u1_i (by omega)]) (by rw [u1_self (i := c.toNat) rfl])
      refine ⟨σ', ?_, g2, g3⟩
      rw [C_wantOf hR hC hK hS h0 h1]
      by_cases e3 : w c.toNat ≤ m_want K w c
      · simp (disch := first | assumption | omega) only [if_true, if_false, zid, zlid, if_pos, if_neg, u2_e, u2_c, u2_i, u1_e, u1_i, Option.bind_some, hR.c5, hR.c6, hC.r1, f_X2_goTowards_64]
        exact g1
      · simp (disch := first | assumption | omega) only [if_true, if_false, zid, zlid, if_pos, if_neg, u2_e, u2_c, u2_i, u1_e, u1_i, Option.bind_some, hR.c5, hR.c6, hC.r1, f_X2_goTowards_64]
        exact g1
end S_CC
