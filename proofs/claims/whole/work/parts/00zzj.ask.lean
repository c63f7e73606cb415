-- what an asker does, both sides
def SBC : Nat → Nat → Prop := fun c j => SU c j ∨ SRD c j ∨ (c = 2 ∧ j = 1)
def SBD : Nat → Nat → Prop := fun c j => SYA c j ∨ SRE c j ∨ (c = 758 ∧ (j = 2 ∨ j = 41))
section S_AB
variable {σ K : Nat → Nat → Int} {a a1 st : Nat} {H : Int → Nat → Int} {L LI n hi what x y z who : Int}
theorem C_refNo (hC : RC σ a1 K) (hw : what = 2 ∨ what = 3) (h1 : σ st 1 = what) (h2 : σ (st + 1) 0 = x) (hx : ¬ (0 ≤ x ∧ x < K 0 0)) : f_X0_refusalOf a1 a st σ = some (0, σ) := by
  unfold f_X0_refusalOf f_X0_askRefusal f_X0_dropRefusal
  rw [h1, h2, C_hasCluster_n hC hx, Option.bind_some, Option.bind_some, if_pos rfl, if_pos rfl]
  rcases hw with rfl | rfl
  · rw [if_neg (by omega), if_neg (by omega), if_pos rfl]
    rfl
  · rw [if_neg (by omega), if_neg (by omega), if_neg (by omega), if_pos rfl]
    rfl
theorem C_refBad (hC : RC σ a1 K) (hK : WK K) (hw : what = 2 ∨ what = 3) (h1 : σ st 1 = what) (h2 : σ (st + 1) 0 = x) (h3 : σ st 2 = 0) (hx : 0 ≤ x ∧ x < K 0 0) : f_X0_refusalOf a1 a st σ = some (1, σ) := by
  have hkn := hK.n
  have e62 : ∀ v4 v5 v6 t0, f_X0_askRefusal_62 a st v4 v5 v6 t0 σ = some 1 := fun v4 v5 v6 t0 => by
    unfold f_X0_askRefusal_62
    rw [h3, if_pos (by rw [z_cmp_0])]
  have hp : ∀ p : Int, f_X1_hasPoint a1 x p σ = some 0 ∨ f_X1_hasPoint a1 x p σ = some 1 := fun p => by
    by_cases d : 0 ≤ x ∧ x < K 0 0 ∧ 0 ≤ p ∧ p < K 4 x.toNat
    · exact Or.inr (C_hasPoint_y hC (by omega) d.1 d.2.1 d.2.2.1 d.2.2.2)
    · exact Or.inl (C_hasPoint_n hC (by omega) d)
  have ea : f_X0_askRefusal a1 a st σ = some 1 := by
    unfold f_X0_askRefusal
    rw [h2, C_hasCluster_y hC hx.1 hx.2, Option.bind_some, if_neg (show ¬ (1 : Int) = 0 by omega)]
    rcases hp (σ (st + 1) 1) with e | e
    · rw [e, Option.bind_some, if_pos rfl, e62]
    · rw [e, Option.bind_some, if_neg (show ¬ (1 : Int) = 0 by omega)]
      rcases hp (σ (st + 1) 2) with e2 | e2
      · rw [e2, Option.bind_some, e62]
      · rw [e2, Option.bind_some, e62]
  have ed : f_X0_dropRefusal a1 a st σ = some 1 := by
    unfold f_X0_dropRefusal
    rw [h2, C_hasCluster_y hC hx.1 hx.2, Option.bind_some, if_neg (show ¬ (1 : Int) = 0 by omega), h3, if_pos (by rw [z_cmp_0])]
  unfold f_X0_refusalOf
  rw [h1, ea, ed]
  rcases hw with rfl | rfl
  · rw [if_neg (by omega), if_neg (by omega), if_pos rfl]
    rfl
  · rw [if_neg (by omega), if_neg (by omega), if_neg (by omega), if_pos rfl]
    rfl
theorem m_by_ne (hK : WK K) {w : Nat → Int} (hS : WS K w) (hw : what = 2 ∨ what = 3) (h : OK K w what x y z who) : (m_does K w what x y z who).1 ≠ -1 := by
  have hn := hS.n
  obtain ⟨o1, o2, o3, o4, o5, o6, o7, o8⟩ := h
  unfold m_does
  rcases hw with rfl | rfl
  · rw [if_neg (by omega), if_neg (by omega), if_pos rfl]
    unfold m_tell
    by_cases d : m_ask w who x = -1
    · rw [if_pos d]
      dsimp only
      omega
    · rw [if_neg d]
      exact d
  · rw [if_neg (by omega), if_neg (by omega), if_neg (by omega), if_pos rfl]
    obtain ⟨p0, p1, p2⟩ := o5 rfl
    rcases m_ask_in hS (nm := who) (c := x) with q | q
    · exact absurd q p2
    · dsimp only
      omega
/-- refused before any act: both count it -/
theorem PV.refuse {σ' : Nat → Nat → Int} {k : Nat} (h : PV σ K L LI n H hi) (hK : WK K) (h1 : σ' 0 2 = σ 0 2) (h2 : σ' 0 9 = σ 0 9) (h3 : ∀ c, 4 ≤ c → c < 42 → σ' c = σ c) (h4 : ∀ c, 173 ≤ c → c < 742 → σ' c = σ c) (h5 : ∀ j, σ' 757 j = if j = k then z_w (σ 757 j + 1) else σ 757 j) (h5' : ∀ j, σ' 768 j = if j = k then z_w (σ 768 j + 1) else σ 768 j) (h6 : ∀ c, 760 ≤ c → c < 784 → c ≠ 768 → σ' c = σ c) (h7 : ∀ j, 21 ≤ j → j < 40 → σ' 758 j = σ 758 j) : PV σ' K L LI n H hi := by
  obtain ⟨p0, ⟨r0, r1, r2, r3, r4⟩, p2, p3⟩ := h
  unfold PV
  rw [h6 776 (by omega) (by omega) (by omega), h6 778 (by omega) (by omega) (by omega)]
  refine ⟨p0.frame hK h1 h2 h3 h4, ⟨r0.frame (fun c hc => h6 c (by omega) (by omega) (by omega)) (fun j hj => h7 j (by omega) (by omega)), r1.frame (h7 35 (by omega) (by omega)) (h7 36 (by omega) (by omega)) (h6 779 (by omega) (by omega) (by omega)), (h7 37 (by omega) (by omega)).trans r2, (h7 38 (by omega) (by omega)).trans r3, by rw [h7 39 (by omega) (by omega)]; exact r4⟩, p2, fun i hi' => ?_⟩
  rw [h5, h5', p3 i hi']
theorem T_fault2 {r r' : Nat → Nat → Int} (h : f_X12_readAsker (u2 (u2 (u2 r 758 0 0) 758 3 0) 758 4 (-1)) = some r') : f_X12_fault 2 r = some (r' 758 4, r') := by
  unfold f_X12_fault
  rw [R_isIn_y (by omega) (by omega), Option.bind_some, if_neg (show ¬ (1 : Int) = 0 by omega), if_neg (by omega), if_neg (by omega), h, Option.bind_some]
set_option maxHeartbeats 2000000 in
theorem P_by (h : PV σ K L LI n H hi) (hK : WK K) (hT : TPR σ σ) (hw : what = 2 ∨ what = 3) (hx : -2147483648 ≤ x ∧ x < 2147483648) (hB : L < 2147483646) :
    ∃ r σ1 σ2 L' n' H', ((f_X10_readAsker σ).bind fun q1 => (f_X8_put 755 what x y z q1.1 q1.2).bind fun q4 => (f_X11_doOrRefuseAsker 755 q4).bind fun q7 => some (q7.1, q7.2)) = some (r, σ1) ∧ f_X12_actBy what x y z σ1 = some (r, σ2) ∧ PV σ2 K L' LI n' H' hi ∧ L' ≤ L + 1 ∧ TPR σ2 σ2 ∧ FM SBC σ σ1 ∧ FM SBD σ1 σ2 := by
  have hkn := hK.n
  have hwh : 0 ≤ what ∧ what ≤ 6 := by omega
  obtain ⟨who, c1, rA, a1, a2, a3, a4, a5, a6, a7⟩ := T_asker hT
  have hp5 : FM (fun c _ => c = 755 ∨ c = 756) c1 (u2 (u2 (u2 (u2 (u2 c1 755 1 what) 756 0 x) 756 1 y) 756 2 z) 755 2 who) := ((((FM.refl.u (by omega)).u (by omega)).u (by omega)).u (by omega)).u (by omega)
  have hput : f_X8_put 755 what x y z who c1 = some (u2 (u2 (u2 (u2 (u2 c1 755 1 what) 756 0 x) 756 1 y) 756 2 z) 755 2 who) := rfl
  have hTS : TS (u2 (u2 (u2 (u2 (u2 c1 755 1 what) 756 0 x) 756 1 y) 756 2 z) 755 2 who) 755 what x y z who := by
    refine ⟨?_, fun _ => ?_, fun _ => ?_, fun _ => ?_, fun _ => ?_⟩
    · simp (disch := first | assumption | omega) only [if_true, if_false, zid, zlid, if_pos, if_neg, u2_e, u2_c, u2_i, u1_e, u1_i, Option.bind_some]
    · simp (disch := first | assumption | omega) only [if_true, if_false, zid, zlid, if_pos, if_neg, u2_e, u2_c, u2_i, u1_e, u1_i, Option.bind_some]
    · simp (disch := first | assumption | omega) only [if_true, if_false, zid, zlid, if_pos, if_neg, u2_e, u2_c, u2_i, u1_e, u1_i, Option.bind_some]
    · simp (disch := first | assumption | omega) only [if_true, if_false, zid, zlid, if_pos, if_neg, u2_e, u2_c, u2_i, u1_e, u1_i, Option.bind_some]
    · simp (disch := first | assumption | omega) only [if_true, if_false, zid, zlid, if_pos, if_neg, u2_e, u2_c, u2_i, u1_e, u1_i, Option.bind_some]
  have e2w : (u2 (u2 (u2 (u2 (u2 c1 755 1 what) 756 0 x) 756 1 y) 756 2 z) 755 2 who) 755 2 = who := u2_e
  generalize u2 (u2 (u2 (u2 (u2 c1 755 1 what) 756 0 x) 756 1 y) 756 2 z) 755 2 who = σp at *
  have hfp : FM (fun c j => SRD c j ∨ c = 755 ∨ c = 756) σ σp := (a3.mono (fun c j hc => Or.inl hc)).trans (hp5.mono (fun c j hc => Or.inr hc))
  have gp : ∀ c, c ≠ 2 → c ≠ 755 → c ≠ 756 → σp c = σ c := fun c q1 q2 q3 => funext fun j => hfp c j (by unfold SRD; omega)
  have hVp : PV σp K L LI n H hi := h.frame hK (by rw [gp 0 (by omega) (by omega) (by omega)]) (by rw [gp 0 (by omega) (by omega) (by omega)]) (fun c _ _ => gp c (by omega) (by omega) (by omega)) (fun c _ _ => gp c (by omega) (by omega) (by omega)) (gp 757 (by omega) (by omega) (by omega)) (fun c _ _ => gp c (by omega) (by omega) (by omega)) (fun j _ _ => by rw [gp 758 (by omega) (by omega) (by omega)])
  have hfb : FM SBC σ σp := hfp.mono (fun c j hc => by unfold SRD at hc; unfold SBC SU SRD; omega)
  have ha0 := hVp.1.1
  have hCc := hVp.1.2.1
  have et1 : σp 2 1 = σ 2 1 := hfp 2 1 (by unfold SRD; omega)
  have hTp : TPR σp σp := hT.frame et1 (gp 3 (by omega) (by omega) (by omega)) (by rw [gp 758 (by omega) (by omega) (by omega)]) (gp 759 (by omega) (by omega) (by omega))
  rw [a1, Option.bind_some]
  dsimp only
  rw [hput, Option.bind_some]
  by_cases dc : 0 ≤ x ∧ x < K 0 0
  · rcases a7 with ⟨w1, w2, w3, w4, w5⟩ | ⟨w1, w2⟩
    · -- the asker stands
      obtain ⟨hC, hR, hD, hc⟩ := hVp
      have h75 := (show PV σp K L LI n H hi from ⟨hC, hR, hD, hc⟩).h75
      obtain ⟨σ1, g1, g2, g3, g4⟩ := C_doOr hC hD hK hTS hx (by omega) (fun _ => ⟨w3, w4, w5⟩) (by omega) hB
      have gr : ∀ c, 758 ≤ c → σ1 c = σ c := fun c hc => (funext fun j => g2 c j (by unfold SJ2 SJ; omega) : σ1 c = σp c).trans (gp c (by omega) (by omega) (by omega))
      -- the class's end
      have hcl : ∃ σ1', (f_X11_doOrRefuseAsker 755 σp).bind (fun q7 => some (q7.1, q7.2)) = some (if m_stops (KL K L) (σp 776) what x y z who = -1 then (m_does (KL K L) (σp 776) what x y z who).1 else -1, σ1') ∧ σ1' = (if m_stops (KL K L) (σp 776) what x y z who = -1 then u2 σ1 2 1 0 else σ1) := by
        unfold f_X11_doOrRefuseAsker
        rw [g1, Option.bind_some]
        dsimp only
        by_cases d : m_stops (KL K L) (σp 776) what x y z who = -1
        · have hne := m_by_ne hK.kl (WS.kl.mpr hD.1) hw (OK.of d (by omega) (fun _ => ⟨w3, w4, w5⟩))
          rw [if_pos d, if_neg hne, if_pos d]
          exact ⟨_, rfl, rfl⟩
        · rw [if_neg d, if_pos rfl, if_neg d]
          exact ⟨_, rfl, rfl⟩
      obtain ⟨σ1', g5, g6⟩ := hcl
      have gr' : ∀ c, 758 ≤ c → σ1' c = σ c := fun c hc => by
        rw [g6]
        split
        · rw [u2_ne (by omega)]
          exact gr c hc
        · exact gr c hc
      -- the reference
      have hTr : TPR σ (u2 (u2 σ1' 758 0 0) 758 0 0) := hT.frame rfl rfl (by rw [u2_i (by omega), u2_i (by omega), gr' 758 (by omega)]) (by rw [u2_ne (by omega), u2_ne (by omega), gr' 759 (by omega)])
      obtain ⟨who', c2, r2, b1, b2, b3, b4, b5, b6, b7⟩ := T_asker hTr
      rw [a1] at b1
      have ew : who' = who := ((Prod.mk.inj (Option.some.inj b1)).1).symm
      rw [ew] at b7
      have b7' : r2 758 4 = -1 ∧ who = r2 758 6 := by
        rcases b7 with ⟨q1, q2, q3⟩ | ⟨q1, q2⟩
        · exact ⟨q1, q2⟩
        · omega
      have hfR : FM (fun c j => SRE c j ∨ (c = 758 ∧ (j = 0 ∨ j = 41))) σ1' (u2 r2 758 41 (r2 758 6)) := (((FM.refl.u (by omega)).u (by omega)).trans (b4.mono (fun c j hc => Or.inl hc))).u (by omega)
      have hRr : RV (u2 r2 758 41 (r2 758 6)) K n H hi := hR.frame (fun c c0 c1 => (funext fun j => hfR c j (by unfold SRE; omega) : _ = σ1' c).trans ((gr' c (by omega)).trans (gp c (by omega) (by omega) (by omega)).symm)) (fun j j0 j1 => by rw [hfR 758 j (by unfold SRE; omega), gr' 758 (by omega), gp 758 (by omega) (by omega) (by omega)])
      have e776 : (u2 r2 758 41 (r2 758 6)) 776 = σp 776 := (funext fun j => hfR 776 j (by unfold SRE; omega) : _ = σ1' 776).trans ((gr' 776 (by omega)).trans (gp 776 (by omega) (by omega) (by omega)).symm)
      have e778 : (u2 r2 758 41 (r2 758 6)) 778 = σp 778 := (funext fun j => hfR 778 j (by unfold SRE; omega) : _ = σ1' 778).trans ((gr' 778 (by omega)).trans (gp 778 (by omega) (by omega) (by omega)).symm)
      have e768 : (u2 r2 758 41 (r2 758 6)) 768 = σp 768 := (funext fun j => hfR 768 j (by unfold SRE; omega) : _ = σ1' 768).trans ((gr' 768 (by omega)).trans (gp 768 (by omega) (by omega) (by omega)).symm)
      have ecl : ∀ c, c < 758 → (u2 r2 758 41 (r2 758 6)) c = σ1' c := fun c hc => funext fun j => hfR c j (by unfold SRE; omega)
      have hM0 : RM (u2 σ1' 758 0 0) K := hR.1.frame (fun c hc => by rw [u2_ne (by omega), gr' c (by omega), gp c (by omega) (by omega) (by omega)]) (fun j hj => by rw [u2_i (by omega), gr' 758 (by omega), gp 758 (by omega) (by omega) (by omega)])
      have hRef : f_X12_actBy what x y z σ1' = (f_X12_tries what x y z (u2 r2 758 41 (r2 758 6))).bind fun q11 => f_X12_actBy_58 q11.1 q11.2 := by
        unfold f_X12_actBy f_X12_actBy_31
        rw [R_isCluster_y hM0 dc.1 dc.2, Option.bind_some, if_neg (show ¬ (1 : Int) = 0 by omega), T_fault2 b2, Option.bind_some]
        dsimp only
        rw [if_pos b7'.1, if_pos rfl]
      have e59 : (u2 r2 758 41 (r2 758 6)) 759 = σ 759 := (funext fun j => hfR 759 j (by unfold SRE; omega) : _ = σ1' 759).trans (gr' 759 (by omega))
      have e582 : (u2 r2 758 41 (r2 758 6)) 758 2 = σ 758 2 := (hfR 758 2 (by unfold SRE; omega)).trans (by rw [gr' 758 (by omega)])
      have e41 : (u2 r2 758 41 (r2 758 6)) 758 41 = who := by rw [u2_e]; exact b7'.2.symm
      generalize u2 r2 758 41 (r2 758 6) = σr at *
      obtain ⟨σ2, k1, k2, k3, k4⟩ := R_tried (L := L) (y := y) (z := z) hRr (by rw [e776]; exact hD) (by rw [e776]; exact h75) hK e41 hx hwh (fun _ => ⟨w3, w4, w5⟩)
      rw [e776] at k1 k3 k4
      rw [k1, Option.bind_some] at hRef
      dsimp only at hRef
      have kr : ∀ c, c < 758 → σ2 c = σr c := fun c hc => funext fun j => k2 c j (by unfold SYR; omega)
      have k778 : σ2 778 = σp 778 := (funext fun j => k2 778 j (by unfold SYR; omega) : σ2 778 = σr 778).trans e778
      have k768 : σ2 768 = σp 768 := (funext fun j => k2 768 j (by unfold SYR; omega) : σ2 768 = σr 768).trans e768
      have hs := m_stops_in (K := KL K L) (w := σp 776) (what := what) (x := x) (y := y) (z := z) (who := who)
      have hmR : FM SBD σ1' σ2 := (hfR.mono (fun c j hc => by unfold SRE at hc; unfold SBD SYA SYR SRE; omega)).trans (k2.mono (fun c j hc => by unfold SBD SYA; exact Or.inl (Or.inl hc)))
      by_cases d : m_stops (KL K L) (σp 776) what x y z who = -1
      · obtain ⟨q1, q2, q3⟩ := g4 d
        obtain ⟨z1, z2, z3⟩ := k4 d
        rw [if_pos d] at g5 g6
        rw [d] at hRef
        unfold f_X12_actBy_58 at hRef
        rw [if_pos rfl, u2_i (show (42 : Nat) ≠ 2 by omega), z3] at hRef
        have ec2 : ∀ c, c < 758 → c ≠ 2 → (u2 σ2 758 2 0) c = σ1 c := fun c c1 c2 => by rw [u2_ne (by omega), kr c c1, ecl c c1, g6, u2_ne c2]
        refine ⟨_, σ1', u2 σ2 758 2 0, L + 1, min (n + 1) 40, m_push (σp 776) H, g5, hRef, ⟨?_, ?_, ?_, fun i hi' => ?_⟩, Int.le_refl _, ⟨?_, ?_, ?_, fun j hj => ?_⟩, ?_, hmR.u (by unfold SBD; omega)⟩
        · rw [u2_ne (show (776 : Nat) ≠ 758 by omega), u2_ne (show (778 : Nat) ≠ 758 by omega), z2, k778]
          exact q1.frame hK (by rw [ec2 0 (by omega) (by omega)]) (by rw [ec2 0 (by omega) (by omega)]) (fun c _ _ => ec2 c (by omega) (by omega)) (fun c _ _ => ec2 c (by omega) (by omega))
        · exact z1.frame (fun c _ _ => u2_ne (by omega)) (fun j _ _ => u2_i (by omega))
        · rw [u2_ne (show (776 : Nat) ≠ 758 by omega), u2_ne (show (778 : Nat) ≠ 758 by omega), z2, k778]
          exact q2
        · rw [ec2 757 (by omega) (by omega), u2_ne (show (768 : Nat) ≠ 758 by omega), q3, k768]
          exact hc i hi'
        · rw [u2_e, u2_ne (show (2 : Nat) ≠ 758 by omega), kr 2 (by omega), ecl 2 (by omega), g6, u2_e]
        · rw [u2_e]
          omega
        · rw [u2_e]
          omega
        · rw [u2_e] at hj
          omega
        · rw [g6]
          exact (hfb.trans (g2.mono (fun c j hc => Or.inl (Or.inl hc)))).u (by unfold SBC; omega)
      · obtain ⟨q1, q2⟩ := g3 d
        obtain ⟨z1, z2⟩ := k3 d
        rw [if_neg d] at g5 g6
        unfold f_X12_actBy_58 at hRef
        rw [if_neg d, if_pos (by omega), if_pos (by omega), k768] at hRef
        generalize m_stops (KL K L) (σp 776) what x y z who = s at *
        have ec2 : ∀ c, c < 758 → (u2 σ2 768 s.toNat (z_w (σp 768 s.toNat + 1))) c = σ1 c := fun c c1 => by rw [u2_ne (by omega), kr c c1, ecl c c1, g6]
        have e13 : σ1 3 = σ 3 := (funext fun j => g2 3 j (by unfold SJ2 SJ; omega) : σ1 3 = σp 3).trans (gp 3 (by omega) (by omega) (by omega))
        have e12 : σ1 2 1 = σ 2 1 := (g2 2 1 (by unfold SJ2 SJ; omega)).trans et1
        refine ⟨-1, σ1', u2 σ2 768 s.toNat (z_w (σp 768 s.toNat + 1)), L, n, H, g5, hRef, ⟨?_, ?_, ?_, fun i hi' => ?_⟩, by omega, ?_, ?_, hmR.u (by unfold SBD SYA; omega)⟩
        · rw [u2_ne (show (776 : Nat) ≠ 768 by omega), u2_ne (show (778 : Nat) ≠ 768 by omega), z2, k778]
          exact q1.frame hK (by rw [ec2 0 (by omega)]) (by rw [ec2 0 (by omega)]) (fun c _ _ => ec2 c (by omega)) (fun c _ _ => ec2 c (by omega))
        · obtain ⟨y0, y1, y2, y3, y4⟩ := z1
          exact ⟨y0.frame (fun c hc => u2_ne (by omega)) (fun j hj => u2_c (by omega)), y1.frame (u2_c (by omega)) (u2_c (by omega)) (u2_ne (by omega)), (u2_c (by omega)).trans y2, (u2_c (by omega)).trans y3, by rw [u2_c (by omega)]; exact y4⟩
        · rw [u2_ne (show (776 : Nat) ≠ 768 by omega), u2_ne (show (778 : Nat) ≠ 768 by omega), z2, k778]
          exact hD
        · rw [ec2 757 (by omega), q2]
          unfold u1 u2
          by_cases e : i = s.toNat
          · rw [if_pos e, if_pos ⟨rfl, e⟩, ← e, hc i hi']
          · rw [if_neg e, if_neg (fun q => e q.2), k768]
            exact hc i hi'
        · exact hT.frame (by rw [ec2 2 (by omega)]; exact e12) (by rw [ec2 3 (by omega)]; exact e13) (by rw [u2_c (by omega), k2 758 2 (by unfold SYR; omega)]; exact e582) (by rw [u2_ne (by omega), (funext fun j => k2 759 j (by unfold SYR; omega) : σ2 759 = σr 759)]; exact e59)
        · rw [g6]
          exact hfb.trans (g2.mono (fun c j hc => Or.inl (Or.inl hc)))
    · -- no asker
      have hz : σp 755 2 = 0 := e2w.trans w2
      have hrf := C_refBad (a := 173) (st := 755) hCc hK hw hTS.1 (hTS.2.1 (by omega)) hz dc
      have hcl : (f_X11_doOrRefuseAsker 755 σp).bind (fun q7 => some (q7.1, q7.2)) = some (-1, u2 σp 757 1 (z_w (σp 757 1 + 1))) := by
        unfold f_X11_doOrRefuseAsker f_X11_doOrRefuse
        rw [if_pos ha0, hrf, Option.bind_some]
        dsimp only
        rw [if_neg (by omega), if_neg (by omega), if_neg (by omega), if_pos (by omega), if_pos (by omega), Option.bind_some]
        rfl
      have gr' : ∀ c, 758 ≤ c → (u2 σp 757 1 (z_w (σp 757 1 + 1))) c = σ c := fun c hc => (u2_ne (by omega)).trans (gp c (by omega) (by omega) (by omega))
      have ec0 : ∀ c, c ≠ 757 → (u2 σp 757 1 (z_w (σp 757 1 + 1))) c = σp c := fun c hc => u2_ne hc
      have e757 : ∀ j, (u2 σp 757 1 (z_w (σp 757 1 + 1))) 757 j = if j = 1 then z_w (σp 757 j + 1) else σp 757 j := fun j => by
        unfold u2
        by_cases e : j = 1
        · rw [if_pos ⟨rfl, e⟩, if_pos e, e]
        · rw [if_neg (fun q => e q.2), if_neg e]
      have hm1 : FM SBC σ (u2 σp 757 1 (z_w (σp 757 1 + 1))) := hfb.u (by unfold SBC SU SJ2; omega)
      generalize u2 σp 757 1 (z_w (σp 757 1 + 1)) = σ1' at *
      have hTr : TPR σ (u2 (u2 σ1' 758 0 0) 758 0 0) := hT.frame rfl rfl (by rw [u2_i (by omega), u2_i (by omega), gr' 758 (by omega)]) (by rw [u2_ne (by omega), u2_ne (by omega), gr' 759 (by omega)])
      obtain ⟨who', c2, r2, b1, b2, b3, b4, b5, b6, b7⟩ := T_asker hTr
      rw [a1] at b1
      have ew : who' = who := ((Prod.mk.inj (Option.some.inj b1)).1).symm
      rw [ew] at b7
      have b7' : r2 758 4 ≠ -1 := by
        rcases b7 with ⟨q1, q2, q3, q4⟩ | ⟨q1, q2⟩
        · omega
        · exact q1
      have hM0 : RM (u2 σ1' 758 0 0) K := hVp.2.1.1.frame (fun c hc => by rw [u2_ne (by omega), gr' c (by omega), gp c (by omega) (by omega) (by omega)]) (fun j hj => by rw [u2_i (by omega), gr' 758 (by omega), gp 758 (by omega) (by omega) (by omega)])
      have hfR : FM (fun c j => SRE c j ∨ (c = 758 ∧ (j = 0 ∨ j = 41))) σ1' (u2 r2 758 41 (r2 758 6)) := (((FM.refl.u (by omega)).u (by omega)).trans (b4.mono (fun c j hc => Or.inl hc))).u (by omega)
      have hRef : f_X12_actBy what x y z σ1' = some (-1, u2 (u2 r2 758 41 (r2 758 6)) 768 1 (z_w ((u2 r2 758 41 (r2 758 6)) 768 1 + 1))) := by
        unfold f_X12_actBy f_X12_actBy_31 f_X12_actBy_58
        rw [R_isCluster_y hM0 dc.1 dc.2, Option.bind_some, if_neg (show ¬ (1 : Int) = 0 by omega), T_fault2 b2, Option.bind_some]
        dsimp only
        rw [if_neg b7', if_neg (show ¬ (1 : Int) = -1 by omega), if_neg (show ¬ (1 : Int) = -1 by omega), if_pos (by omega), if_pos (by omega)]
        rfl
      generalize u2 r2 758 41 (r2 758 6) = σr at *
      have ef : ∀ c, c ≠ 758 → σr c = σ1' c := fun c hc => funext fun j => hfR c j (by unfold SRE; omega)
      have ef2 : ∀ j, ¬ ((j = 3 ∨ j = 4 ∨ j = 5 ∨ j = 6) ∨ j = 0 ∨ j = 41) → σr 758 j = σ 758 j := fun j hj => (hfR 758 j (by unfold SRE; omega)).trans (by rw [gr' 758 (by omega)])
      refine ⟨-1, σ1', _, L, n, H, hcl, hRef, hVp.refuse hK (k := 1) ?_ ?_ (fun c _ _ => ?_) (fun c _ _ => ?_) (fun j => ?_) (fun j => ?_) (fun c _ _ _ => ?_) (fun j _ _ => ?_), by omega, ?_, hm1, (hfR.mono (fun c j hc => by unfold SRE at hc; unfold SBD SYA SYR SRE; omega)).u (by unfold SBD SYA; omega)⟩
      · rw [u2_c (by omega), ef 0 (by omega), ec0 0 (by omega)]
      · rw [u2_c (by omega), ef 0 (by omega), ec0 0 (by omega)]
      · rw [u2_ne (by omega), ef c (by omega), ec0 c (by omega)]
      · rw [u2_ne (by omega), ef c (by omega), ec0 c (by omega)]
      · rw [u2_ne (show (757 : Nat) ≠ 768 by omega), ef 757 (by omega)]
        exact e757 j
      · rw [ef 768 (by omega), gr' 768 (by omega), gp 768 (by omega) (by omega) (by omega)]
        unfold u2
        by_cases e : j = 1
        · rw [if_pos ⟨rfl, e⟩, if_pos e, e]
        · rw [if_neg (fun q => e q.2), if_neg e, ef 768 (by omega), gr' 768 (by omega)]
      · rw [u2_ne (by omega), ef c (by omega), gr' c (by omega), gp c (by omega) (by omega) (by omega)]
      · rw [u2_c (by omega), ef2 j (by omega), gp 758 (by omega) (by omega) (by omega)]
      · exact hTp.frame (by rw [u2_c (by omega), ef 2 (by omega), ec0 2 (by omega)]) (by rw [u2_ne (by omega), ef 3 (by omega), ec0 3 (by omega)]) (by rw [u2_c (by omega), ef2 2 (by omega), gp 758 (by omega) (by omega) (by omega)]) (by rw [u2_ne (by omega), ef 759 (by omega), gr' 759 (by omega), gp 759 (by omega) (by omega) (by omega)])
  · have hrf := C_refNo (a := 173) (st := 755) hCc hw hTS.1 (hTS.2.1 (by omega)) dc
    have hcl : (f_X11_doOrRefuseAsker 755 σp).bind (fun q7 => some (q7.1, q7.2)) = some (-1, u2 σp 757 0 (z_w (σp 757 0 + 1))) := by
      unfold f_X11_doOrRefuseAsker f_X11_doOrRefuse
      rw [if_pos ha0, hrf, Option.bind_some]
      dsimp only
      rw [if_neg (by omega), if_neg (by omega), if_neg (by omega), if_pos (by omega), if_pos (by omega), Option.bind_some]
      rfl
    have gr' : ∀ c, 758 ≤ c → (u2 σp 757 0 (z_w (σp 757 0 + 1))) c = σ c := fun c hc => (u2_ne (by omega)).trans (gp c (by omega) (by omega) (by omega))
    have ec0 : ∀ c, c ≠ 757 → (u2 σp 757 0 (z_w (σp 757 0 + 1))) c = σp c := fun c hc => u2_ne hc
    have e757 : ∀ j, (u2 σp 757 0 (z_w (σp 757 0 + 1))) 757 j = if j = 0 then z_w (σp 757 j + 1) else σp 757 j := fun j => by
      unfold u2
      by_cases e : j = 0
      · rw [if_pos ⟨rfl, e⟩, if_pos e, e]
      · rw [if_neg (fun q => e q.2), if_neg e]
    have hm1 : FM SBC σ (u2 σp 757 0 (z_w (σp 757 0 + 1))) := hfb.u (by unfold SBC SU SJ2; omega)
    generalize u2 σp 757 0 (z_w (σp 757 0 + 1)) = σ1' at *
    have hM0 : RM (u2 σ1' 758 0 0) K := hVp.2.1.1.frame (fun c hc => by rw [u2_ne (by omega), gr' c (by omega), gp c (by omega) (by omega) (by omega)]) (fun j hj => by rw [u2_i (by omega), gr' 758 (by omega), gp 758 (by omega) (by omega) (by omega)])
    have hfR : FM (fun c j => SRE c j ∨ (c = 758 ∧ (j = 0 ∨ j = 41))) σ1' (u2 (u2 σ1' 758 0 0) 758 41 ((u2 σ1' 758 0 0) 758 6)) := (FM.refl.u (by omega)).u (by omega)
    have hRef : f_X12_actBy what x y z σ1' = some (-1, u2 (u2 (u2 σ1' 758 0 0) 758 41 ((u2 σ1' 758 0 0) 758 6)) 768 0 (z_w ((u2 (u2 σ1' 758 0 0) 758 41 ((u2 σ1' 758 0 0) 758 6)) 768 0 + 1))) := by
      unfold f_X12_actBy f_X12_actBy_31 f_X12_actBy_58
      rw [R_isCluster_n hM0 dc, Option.bind_some, if_pos rfl, if_neg (show ¬ (0 : Int) = -1 by omega), if_neg (show ¬ (0 : Int) = -1 by omega), if_pos (by omega), if_pos (by omega)]
      rfl
    generalize u2 (u2 σ1' 758 0 0) 758 41 ((u2 σ1' 758 0 0) 758 6) = σr at *
    have ef : ∀ c, c ≠ 758 → σr c = σ1' c := fun c hc => funext fun j => hfR c j (by unfold SRE; omega)
    have ef2 : ∀ j, ¬ ((j = 3 ∨ j = 4 ∨ j = 5 ∨ j = 6) ∨ j = 0 ∨ j = 41) → σr 758 j = σ 758 j := fun j hj => (hfR 758 j (by unfold SRE; omega)).trans (by rw [gr' 758 (by omega)])
    refine ⟨-1, σ1', _, L, n, H, hcl, hRef, hVp.refuse hK (k := 0) ?_ ?_ (fun c _ _ => ?_) (fun c _ _ => ?_) (fun j => ?_) (fun j => ?_) (fun c _ _ _ => ?_) (fun j _ _ => ?_), by omega, ?_, hm1, (hfR.mono (fun c j hc => by unfold SRE at hc; unfold SBD SYA SYR SRE; omega)).u (by unfold SBD SYA; omega)⟩
    · rw [u2_c (by omega), ef 0 (by omega), ec0 0 (by omega)]
    · rw [u2_c (by omega), ef 0 (by omega), ec0 0 (by omega)]
    · rw [u2_ne (by omega), ef c (by omega), ec0 c (by omega)]
    · rw [u2_ne (by omega), ef c (by omega), ec0 c (by omega)]
    · rw [u2_ne (show (757 : Nat) ≠ 768 by omega), ef 757 (by omega)]
      exact e757 j
    · rw [ef 768 (by omega), gr' 768 (by omega), gp 768 (by omega) (by omega) (by omega)]
      unfold u2
      by_cases e : j = 0
      · rw [if_pos ⟨rfl, e⟩, if_pos e, e]
      · rw [if_neg (fun q => e q.2), if_neg e, ef 768 (by omega), gr' 768 (by omega)]
    · rw [u2_ne (by omega), ef c (by omega), gr' c (by omega), gp c (by omega) (by omega) (by omega)]
    · rw [u2_c (by omega), ef2 j (by omega), gp 758 (by omega) (by omega) (by omega)]
    · exact hTp.frame (by rw [u2_c (by omega), ef 2 (by omega), ec0 2 (by omega)]) (by rw [u2_ne (by omega), ef 3 (by omega), ec0 3 (by omega)]) (by rw [u2_c (by omega), ef2 2 (by omega), gp 758 (by omega) (by omega) (by omega)]) (by rw [u2_ne (by omega), ef 759 (by omega), gr' 759 (by omega), gp 759 (by omega) (by omega) (by omega)])
theorem P_ask {v1 v2 v3 : Int} (h : PV σ K L LI n H hi) (hK : WK K) (hT : TPR σ σ) (hx : -2147483648 ≤ v1 ∧ v1 < 2147483648) (hB : L < 2147483646) : ∃ r σ1 σ2 L' n' H', f_X11_ask v1 v2 v3 σ = some (r, σ1) ∧ f_X12_ask v1 v2 v3 σ1 = some (r, σ2) ∧ PV σ2 K L' LI n' H' hi ∧ L' ≤ L + 1 ∧ TPR σ2 σ2 ∧ FM SBC σ σ1 ∧ FM SBD σ1 σ2 := by
  obtain ⟨r, σ1, σ2, L', n', H', g1, g2, g3⟩ := P_by (what := 2) (x := v1) (y := v2) (z := v3) h hK hT (Or.inl rfl) hx hB
  exact ⟨r, σ1, σ2, L', n', H', by rw [f_X11_ask_e]; exact g1, by unfold f_X12_ask; rw [g2, Option.bind_some], g3⟩
theorem P_drop {v1 : Int} (h : PV σ K L LI n H hi) (hK : WK K) (hT : TPR σ σ) (hx : -2147483648 ≤ v1 ∧ v1 < 2147483648) (hB : L < 2147483646) : ∃ r σ1 σ2 L' n' H', f_X11_drop v1 σ = some (r, σ1) ∧ f_X12_drop v1 σ1 = some (r, σ2) ∧ PV σ2 K L' LI n' H' hi ∧ L' ≤ L + 1 ∧ TPR σ2 σ2 ∧ FM SBC σ σ1 ∧ FM SBD σ1 σ2 := by
  obtain ⟨r, σ1, σ2, L', n', H', g1, g2, g3⟩ := P_by (what := 3) (x := v1) (y := 0) (z := 0) h hK hT (Or.inr rfl) hx hB
  exact ⟨r, σ1, σ2, L', n', H', by rw [f_X11_drop_e]; exact g1, by unfold f_X12_drop; rw [g2, Option.bind_some], g3⟩
end S_AB
