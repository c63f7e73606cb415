-- an act done, kept and logged, on both sides
section S_C75
variable {σ K : Nat → Nat → Int} {a : Nat} {w : Nat → Int} {tr th : Int}
theorem WS.cg75 {w' : Nat → Int} (hS : WS K w) (hK : WK K) (h : ∀ j, j < 75 → w' j = w j) : WS K w' := by
  have hkn := hK.n
  obtain ⟨hc, hv, ht, hl, hm, hk⟩ := hS
  have e44 := h 44 (by omega)
  refine ⟨fun c h0 h1 => ?_, fun v h0 h1 => ?_, fun t h0 h1 => ?_, fun t h0 h1 => ?_, ?_, fun k h0 h1 => ?_⟩
  · rw [h c.toNat (by omega), h (6 + c).toNat (by omega)]
    exact hc c h0 h1
  · rw [h (9 + v).toNat (by omega)]
    exact hv v h0 h1
  · rw [h (21 + t).toNat (by omega), h (25 + t).toNat (by omega), h (29 + t).toNat (by omega), h (33 + t).toNat (by omega), h (37 + t).toNat (by omega)]
    exact ht t h0 h1
  · rw [h (33 + t).toNat (by omega)]
    exact hl t h0 h1
  · rw [h 41 (by omega), e44]
    exact hm
  · rw [e44] at h1
    have hh := hk k h0 h1
    unfold m_nm
    rw [h (45 + 5 * k).toNat (by omega), h (46 + 5 * k).toNat (by omega), h (47 + 5 * k).toNat (by omega), h (48 + 5 * k).toNat (by omega), h (49 + 5 * k).toNat (by omega)]
    exact hh
theorem WL.cg75 {w' : Nat → Int} (hL : WL K w) (hK : WK K) (h : ∀ j, j < 75 → w' j = w j) : WL K w' := fun t h0 h1 => by
  have hkn := hK.n
  rw [h (33 + t).toNat (by omega), h 41 (by omega)]
  exact hL t h0 h1
theorem RS.cg75 {w' : Nat → Int} (hR : RS σ a K w tr th) (hK : WK K) (h44 : 0 ≤ w 44 ∧ w 44 ≤ 6) (h : ∀ j, j < 75 → w' j = w j) : RS σ a K w' tr th := by
  have hkn := hK.n
  obtain ⟨⟨n0, n1, n2, n4, n3⟩, b5, b6, ht, hc, hv, hk, hx⟩ := hR
  have e44 := h 44 (by omega)
  refine ⟨⟨?_, ?_, ?_, ?_, ?_⟩, b5.congr (fun i i0 i1 => h _ (by omega)), b6.congr (fun i i0 i1 => h _ (by omega)), fun t h0 h1 => ?_, fun c' h0 h1 => ?_, fun v h0 h1 => ?_, fun k h0 h1 => ?_, fun h0 => ?_⟩
  · rw [h 41 (by omega)]
    exact n0
  · rw [h 42 (by omega)]
    exact n1
  · rw [h 43 (by omega)]
    exact n2
  · rw [e44]
    exact n4
  · exact n3
  · rw [h (21 + t).toNat (by omega), h (25 + t).toNat (by omega), h (29 + t).toNat (by omega), h (33 + t).toNat (by omega)]
    exact ht t h0 h1
  · rw [h c'.toNat (by omega), h (3 + c').toNat (by omega), h (6 + c').toNat (by omega)]
    exact hc c' h0 h1
  · rw [h (15 + v).toNat (by omega)]
    exact hv v h0 h1
  · rw [e44] at h1
    have hh := hk k h0 h1
    unfold m_nm at hh ⊢
    rw [h (45 + 5 * k).toNat (by omega), h (46 + 5 * k).toNat (by omega), h (47 + 5 * k).toNat (by omega), h (48 + 5 * k).toNat (by omega), h (49 + 5 * k).toNat (by omega)]
    exact hh
  · rw [e44]
    exact hx h0
end S_C75
section S_ACT
variable {σ K : Nat → Nat → Int} {st : Nat} {w I : Nat → Int} {H : Int → Nat → Int} {L LI n hi what x y z who : Int}
theorem RS.setL {a : Nat} {L' : Int} (h : RS σ a (KL K L) w (-1) 0) (hK : WK K) (hS : WS K w) : RS (u2 σ a 3 L') a (KL K L') w (-1) 0 := by
  have hkn := hK.n
  have hn := hS.n
  have e0 : KL K L 0 = K 0 := KL_n (by omega)
  have h2 : RS (u2 σ a 3 L') a (KL (KL K L) L') w (-1) 0 := by
    obtain ⟨⟨n0, n1, n2, n4, n3⟩, b5, b6, ht, hc, hv, hk, hx⟩ := h
    have e1 : KL (KL K L) L' 0 = KL K L 0 := KL_n (by omega)
    unfold RS
    rw [e1, KL_s]
    rw [e0] at *
    refine ⟨⟨?_, ?_, ?_, ?_, ?_⟩, ?_, ?_, fun t h0 h1 => ?_, fun c' h0 h1 => ?_, fun v h0 h1 => ?_, fun k h0 h1 => ?_, fun h0 => absurd rfl h0⟩
    · simp (disch := first | assumption | omega) only [if_true, if_false, zid, zlid, if_pos, if_neg, u2_e, u2_c, u2_i, u1_e, u1_i, Option.bind_some]
      exact n0
    · simp (disch := first | assumption | omega) only [if_true, if_false, zid, zlid, if_pos, if_neg, u2_e, u2_c, u2_i, u1_e, u1_i, Option.bind_some]
      exact n1
    · simp (disch := first | assumption | omega) only [if_true, if_false, zid, zlid, if_pos, if_neg, u2_e, u2_c, u2_i, u1_e, u1_i, Option.bind_some]
      exact n2
    · rw [u2_i (by omega)]
      exact n4
    · simp (disch := first | assumption | omega) only [if_true, if_false, zid, zlid, if_pos, if_neg, u2_e, u2_c, u2_i, u1_e, u1_i, Option.bind_some]
    · simp (disch := first | assumption | omega) only [if_true, if_false, zid, zlid, if_pos, if_neg, u2_e, u2_c, u2_i, u1_e, u1_i, Option.bind_some]
      exact b5
    · simp (disch := first | assumption | omega) only [if_true, if_false, zid, zlid, if_pos, if_neg, u2_e, u2_c, u2_i, u1_e, u1_i, Option.bind_some]
      exact b6
    · simp (disch := first | assumption | omega) only [if_true, if_false, zid, zlid, if_pos, if_neg, u2_e, u2_c, u2_i, u1_e, u1_i, Option.bind_some]
      exact ht t h0 h1
    · simp (disch := first | assumption | omega) only [if_true, if_false, zid, zlid, if_pos, if_neg, u2_e, u2_c, u2_i, u1_e, u1_i, Option.bind_some]
      exact hc c' h0 h1
    · simp (disch := first | assumption | omega) only [if_true, if_false, zid, zlid, if_pos, if_neg, u2_e, u2_c, u2_i, u1_e, u1_i, Option.bind_some]
      exact hv v h0 h1
    · simp (disch := first | assumption | omega) only [if_true, if_false, zid, zlid, if_pos, if_neg, u2_e, u2_c, u2_i, u1_e, u1_i, Option.bind_some]
      exact hk k h0 h1
  have ek : KL (KL K L) L' = KL K L' := by
    funext c
    unfold KL setR
    split <;> rfl
  rw [ek] at h2
  exact h2
theorem m_does_o (hK : WK K) (hS : WS K w) (hL : WL K w) (h : OK K w what x y z who) {j : Nat} (hj : 75 ≤ j) : (m_does K w what x y z who).2 j = w j := by
  have hkn := hK.n
  have hn := hS.n
  obtain ⟨hw, h0, h1, h2, h3, h4, h6, h7⟩ := h
  unfold m_does
  by_cases c0 : what = 0
  · rw [if_pos c0]
    have := h0 c0
    exact (m_ticks_in (tr := -1) (th := 0) hK hS hL (Int.le_refl 0) x.toNat (by omega)).2.2.2.1 j (by omega)
  rw [if_neg c0]
  by_cases c1 : what = 1
  · rw [if_pos c1]
    obtain ⟨p0, p1, p2, p3⟩ := h1 c1
    exact u1_i (by omega)
  rw [if_neg c1]
  by_cases c2 : what = 2
  · rw [if_pos c2]
    obtain ⟨p0, p1, p2, p3, p4, p5⟩ := h2 c2
    unfold m_tell
    by_cases d : m_ask w who x = -1
    · rw [if_pos d]
      have := p5 d
      exact m_tellA_e (by omega) (by omega) (by omega)
    · rw [if_neg d]
      rcases m_ask_in hS (nm := who) (c := x) with q | q
      · exact absurd q d
      · dsimp only
        rw [u1_i (by omega), u1_i (by omega)]
  rw [if_neg c2]
  by_cases c3 : what = 3
  · rw [if_pos c3]
    show m_shift w (m_ask w who x) j = w j
    unfold m_shift
    rw [if_neg (by omega), if_neg (by omega)]
  rw [if_neg c3]
  by_cases c4 : what = 4
  · rw [if_pos c4]
    obtain ⟨p0, p1⟩ := h4 (Or.inl c4)
    dsimp only
    rw [u1_i (by omega), u1_i (by omega)]
  rw [if_neg c4]
  by_cases c5 : what = 5
  · rw [if_pos c5]
    obtain ⟨p0, p1⟩ := h4 (Or.inr c5)
    exact u1_i (by omega)
  rw [if_neg c5]
  have hset := iter_inv (X := m_setS K (m_best K w (m_shs K w)).1) (hi := K 0 1) (fun t s => 0 ≤ t ∧ (∀ i : Nat, ¬ (21 ≤ i ∧ (i : Int) < 21 + t) → s.2 i = w i)) (fun t s ht hp => by
    obtain ⟨q0, q1⟩ := hp
    refine ⟨by omega, fun i hi => ?_⟩
    unfold m_setS
    dsimp only
    rw [u1_i (by omega)]
    exact q1 i (by omega)) (K 0 1).toNat 0 (0, w) (by omega) ⟨by omega, fun _ _ => rfl⟩
  exact hset.2 j (by omega)
/-- the row after an act -/
def m_act (K : Nat → Nat → Int) (w : Nat → Int) (what x y z who : Int) : Nat → Int := m_note (m_does K w what x y z who).2 what (if what = 6 then (m_does K w what x y z who).1 else x)
/-- how the class stands: the row, the log L long, n states kept, the image -/
def IC (σ K : Nat → Nat → Int) (w : Nat → Int) (L n : Int) (H : Int → Nat → Int) (hi : Int) (I : Nat → Int) (LI : Int) : Prop := RS σ 173 (KL K L) w (-1) 0 ∧ RL σ 212 L w ∧ HC σ K n L H ∧ σ 0 9 = hi ∧ (hi ≠ 0 → RS σ 199 (KL K LI) I (-1) 0 ∧ RL σ 216 LI I)
def ID (K : Nat → Nat → Int) (w : Nat → Int) (n : Int) (H : Int → Nat → Int) (hi : Int) (I : Nat → Int) : Prop := WS K w ∧ WL K w ∧ (∀ j : Int, 1 ≤ j → j ≤ n → WS K (H j) ∧ WL K (H j)) ∧ (hi ≠ 0 → WS K I ∧ WL K I)
theorem m_act_in (hK : WK K) (hS : WS K w) (hL : WL K w) (h75 : 0 ≤ w 75) (h : OK K w what x y z who) : WS K (m_act K w what x y z who) ∧ WL K (m_act K w what x y z who) := by
  obtain ⟨h1, h2⟩ := m_does_in hK hS hL h
  have h3 := m_does_o hK hS hL h (j := 75) (by omega)
  unfold m_act
  exact ⟨h1.cg75 hK (fun j hj => m_note_o hj (by omega)), h2.cg75 hK (fun j hj => m_note_o hj (by omega))⟩
theorem ID.act {K' : Nat → Nat → Int} (hD : ID K w n H hi I) (hS : WS K (m_act K' w what x y z who)) (hL : WL K (m_act K' w what x y z who)) : ID K (m_act K' w what x y z who) (min (n + 1) 40) (m_push w H) hi I := by
  obtain ⟨p0, p1, p2, p3⟩ := hD
  refine ⟨hS, hL, fun j j0 j1 => ?_, p3⟩
  by_cases d : j = 1
  · subst d
    rw [m_push_1]
    exact ⟨p0, p1⟩
  · rw [m_push_n d]
    exact p2 (j - 1) (by omega) (by omega)
/-- what an act of the class touches -/
def SJ : Nat → Nat → Prop := fun c _ => (173 ≤ c ∧ c < 186) ∨ (213 ≤ c ∧ c < 216) ∨ c = 220 ∨ (222 ≤ c ∧ c < 742) ∨ (744 ≤ c ∧ c ≤ 752)
set_option maxHeartbeats 4000000 in
theorem C_doAct (hI : IC σ K w L n H hi I LI) (hD : ID K w n H hi I) (hK : WK K) (ha : (σ 0 2).toNat ∈ ax_iX1) (hC : RC σ (σ 0 2).toNat K) (hT : TS σ st what x y z who) (h : OK (KL K L) w what x y z who) (hst : st + 1 < 173 ∨ 753 ≤ st) (hB : L < 2147483646) :
    ∃ σ', f_X11_doAct st σ = some ((m_does (KL K L) w what x y z who).1, σ') ∧ IC σ' K (m_act (KL K L) w what x y z who) (L + 1) (min (n + 1) 40) (m_push w H) hi I LI ∧ FM SJ σ σ' := by
  obtain ⟨i0, i1, i2, i3, i4⟩ := hI
  obtain ⟨d0, d1, d2, d3⟩ := hD
  have hkn := hK.n
  have haa : (σ 0 2).toNat + 19 ≤ 42 := by
    unfold ax_iX1 at ha
    simp at ha
    omega
  obtain ⟨σ1, g1, g2, g3⟩ := C_keep i2 i0 i1 hK d0
  have e0 : σ1 0 = σ 0 := g3 0 (by omega)
  have hT1 : TS σ1 st what x y z who := by
    unfold TS
    rw [g3 st (by omega), g3 (st + 1) (by omega)]
    exact hT
  have hR1 := i0.frame (σ' := σ1) (fun c _ _ => g3 c (by omega))
  have hC1 := (hC.frame (σ' := σ1) (by omega) (fun c _ _ => g3 c (by omega))).kl (L := L)
  obtain ⟨σ2, k1, k2, k3⟩ := C_carryOut hR1 hC1 hK.kl (WS.kl.mpr d0) (WL.kl.mpr d1) haa (by omega) (by omega) hT1 h
  obtain ⟨wS, wL⟩ := m_does_in hK.kl (WS.kl.mpr d0) (WL.kl.mpr d1) h
  have ho := fun j hj => m_does_o hK.kl (WS.kl.mpr d0) (WL.kl.mpr d1) h (j := j) hj
  have k3c : ∀ c, ¬ ((744 ≤ c ∧ c ≤ 752) ∨ (173 ≤ c ∧ c < 186)) → σ2 c = σ1 c := fun c hc => funext fun j => k3 c j (by unfold SA; omega)
  have eL : σ2 173 3 = L := by
    rw [k2.n3, KL_s]
  have hL0 := i1.1
  have hH2 := g2.frame (σ' := σ2) (fun j _ => by rw [k3c 220 (by omega)]) (fun c _ _ => k3c c (by omega)) (fun c _ _ => k3c c (by omega))
  have hG2 := ((i1.cg (fun j j0 j1 => ho j j0)).frame (σ' := σ1) (fun c _ _ => g3 c (by omega))).frame (σ' := σ2) (fun c _ _ => k3c c (by omega))
  generalize hnum : (if what = 6 then (m_does (KL K L) w what x y z who).1 else x) = num
  have hG3 := hG2.note (x := what) (y := num)
  have hH3 := hH2.write (x := what) (y := num) (z := (m_does (KL K L) w what x y z who).2 41)
  have h75 : 0 ≤ (m_does (KL K L) w what x y z who).2 75 := by
    rw [ho 75 (by omega)]
    have := i1.2.1
    omega
  have hR3 := ((k2.frame (σ' := u2 (u2 (u2 σ2 213 (L % 100).toNat what) 214 (L % 100).toNat num) 215 (L % 100).toNat ((m_does (KL K L) w what x y z who).2 41)) (fun c _ _ => by rw [u2_ne (by omega), u2_ne (by omega), u2_ne (by omega)])).cg75 hK.kl (by have := wS.n; omega) (fun j hj => m_note_o (sort := what) (num := num) hj h75)).setL (L' := L + 1) hK ((WS.kl.mp wS).cg75 hK (fun j hj => m_note_o hj h75))
  refine ⟨u2 (u2 (u2 (u2 σ2 213 (L % 100).toNat what) 214 (L % 100).toNat num) 215 (L % 100).toNat ((m_does (KL K L) w what x y z who).2 41)) 173 3 (L + 1), ?_, ⟨?_, ?_, ?_, ?_, fun hh => ?_⟩, ?_⟩
  rotate_left 1
  · unfold m_act
    rw [hnum]
    exact hR3
  · unfold m_act
    rw [hnum]
    exact hG3.frame (fun c _ _ => u2_ne (by omega))
  · exact hH3.frame (fun j _ => u2_c (by omega)) (fun c _ _ => u2_ne (by omega)) (fun c _ _ => u2_ne (by omega))
  · rw [u2_c (by omega), u2_c (by omega), u2_c (by omega), u2_c (by omega), k3c 0 (by omega), e0]
    exact i3
  · obtain ⟨q0, q1⟩ := i4 hh
    have hf : ∀ c, 199 ≤ c → c < 220 → ¬ (213 ≤ c ∧ c < 216) → (u2 (u2 (u2 (u2 σ2 213 (L % 100).toNat what) 214 (L % 100).toNat num) 215 (L % 100).toNat ((m_does (KL K L) w what x y z who).2 41)) 173 3 (L + 1)) c = σ c := fun c c0 c1 c2 => by
      rw [u2_ne (by omega), u2_ne (by omega), u2_ne (by omega), u2_ne (by omega), k3c c (by omega), g3 c (by omega)]
    exact ⟨q0.frame (fun c _ _ => hf c (by omega) (by omega) (by omega)), q1.frame (fun c _ _ => hf c (by omega) (by omega) (by omega))⟩
  · have hm1 : FM SJ σ σ2 := (g3.fm (fun c j hc => by unfold SJ; omega)).trans (k3.mono (fun c j hc => by unfold SA at hc; unfold SJ; omega))
    exact (((hm1.u (by unfold SJ; omega)).u (by unfold SJ; omega)).u (by unfold SJ; omega)).u (by unfold SJ; omega)
  · unfold f_X11_doAct f_X11_doAct_62 f_X4_write
    rw [g1, Option.bind_some, e0, if_pos ha, k1, Option.bind_some]
    dsimp only
    have e1 : σ2 st 1 = what := by
      rw [k3c st (by omega)]
      exact hT1.1
    have e2 : (if what = 6 then (m_does (KL K L) w what x y z who).1 else σ2 (st + 1) 0) = num := by
      rw [← hnum]
      by_cases d : what = 6
      · rw [if_pos d, if_pos d]
      · rw [if_neg d, if_neg d, k3c (st + 1) (by omega), hT1.2.1 d]
    have e3 := C_fmod hL0 (show L < 2147483648 by omega)
    have e4 : 0 ≤ L % 100 ∧ L % 100 < 100 := by omega
    have e5 := k2.n0
    simp only [e1, e2, eL, e3, e4, e5, if_true, and_self, Option.bind_some]
    rw [u2_c (by omega), u2_c (by omega), u2_c (by omega), eL, zid (by omega) (by omega)]
end S_ACT
